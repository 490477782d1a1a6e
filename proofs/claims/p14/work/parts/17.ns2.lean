def o_X10_gap : List vg_I := [(0, .iload_n 1, 1, 0, 0, 0, 0), (1, .iconst 0, 1, 0, 0, 0, 0), (2, .iconst 2, 1, 0, 0, 0, 0), (3, .invokestatic 82, 3, 0, 1, 3, 478), (6, .ifCond .eq 18, 3, 0, 0, 0, 0), (9, .iload_n 1, 1, 0, 0, 0, 0), (10, .iconst 2, 1, 0, 0, 0, 0), (11, .if_icmp .ne 20, 3, 0, 0, 0, 0), (14, .iload_n 2, 1, 0, 0, 0, 0), (15, .iconst 1, 1, 0, 0, 0, 0), (16, .bipush 48, 2, 0, 0, 0, 0), (18, .invokestatic 82, 3, 0, 1, 3, 478), (21, .ifCond .ne 10, 3, 0, 0, 0, 0), (24, .aload_n 0, 1, 0, 0, 0, 0), (25, .iconst 1, 1, 0, 0, 0, 0), (26, .invokevirtual 90, 3, 1, 10, 1, 484), (29, .i2l, 1, 0, 0, 0, 0), (30, .lreturn, 1, 0, 0, 0, 0), (31, .iload_n 1, 1, 0, 0, 0, 0), (32, .ifCond .ne 15, 3, 0, 0, 0, 0), (35, .aload_n 0, 1, 0, 0, 0, 0), (36, .aload_n 0, 1, 0, 0, 0, 0), (37, .getfield 19, 3, 431, 10, 4, 0), (40, .invokevirtual 258, 3, 2, 5, 0, 808), (43, .invokevirtual 239, 3, 3, 10, 1, 800), (46, .lreturn, 1, 0, 0, 0, 0), (47, .iload_n 1, 1, 0, 0, 0, 0), (48, .iconst 1, 1, 0, 0, 0, 0), (49, .if_icmp .ne 15, 3, 0, 0, 0, 0), (52, .aload_n 0, 1, 0, 0, 0, 0), (53, .aload_n 0, 1, 0, 0, 0, 0), (54, .getfield 19, 3, 431, 10, 4, 0), (57, .getfield 262, 3, 203, 5, 13, 0), (60, .invokevirtual 239, 3, 3, 10, 1, 800), (63, .lreturn, 1, 0, 0, 0, 0), (64, .iload_n 2, 1, 0, 0, 0, 0), (65, .aload_n 0, 1, 0, 0, 0, 0), (66, .invokevirtual 265, 3, 4, 10, 0, 809), (69, .if_icmp .le 10, 3, 0, 0, 0, 0), (72, .aload_n 0, 1, 0, 0, 0, 0), (73, .iconst 5, 1, 0, 0, 0, 0), (74, .invokevirtual 90, 3, 1, 10, 1, 484), (77, .i2l, 1, 0, 0, 0, 0), (78, .lreturn, 1, 0, 0, 0, 0), (79, .aload_n 0, 1, 0, 0, 0, 0), (80, .aload_n 0, 1, 0, 0, 0, 0), (81, .iload_n 2, 1, 0, 0, 0, 0), (82, .invokevirtual 268, 3, 5, 10, 1, 814), (85, .invokevirtual 239, 3, 3, 10, 1, 800), (88, .lreturn, 1, 0, 0, 0, 0)]
set_option maxRecDepth 100000 in
set_option maxHeartbeats 4000000 in
theorem c_X10_gap (l : Launch) (G : vg_G) (hp : vg_Hp G) : vg_Ct l G vg_sh r_X10_gap := by
  refine vg_meth hp vg_sh_ok r_X10_gap k_X10_gap rfl (fun h => by cases h) o_X10_gap [r_X10_within, r_X10_refuse, r_X5_gapNow, r_X10_answerLong, r_X10_keptByLoop, r_X10_greatestGapOf] false (by decide +kernel) (by decide +kernel) ⟨_, _, rfl, rfl⟩ (List.forall_mem_cons.mpr ⟨⟨c_X10_within l G hp, Nat.le_of_ble_eq_true rfl, Nat.le_of_ble_eq_true rfl⟩, List.forall_mem_cons.mpr ⟨⟨c_X10_refuse l G hp, Nat.le_of_ble_eq_true rfl, Nat.le_of_ble_eq_true rfl⟩, List.forall_mem_cons.mpr ⟨⟨c_X5_gapNow l G hp, Nat.le_of_ble_eq_true rfl, Nat.le_of_ble_eq_true rfl⟩, List.forall_mem_cons.mpr ⟨⟨c_X10_answerLong l G hp, Nat.le_of_ble_eq_true rfl, Nat.le_of_ble_eq_true rfl⟩, List.forall_mem_cons.mpr ⟨⟨c_X10_keptByLoop l G hp, Nat.le_of_ble_eq_true rfl, Nat.le_of_ble_eq_true rfl⟩, List.forall_mem_cons.mpr ⟨⟨c_X10_greatestGapOf l G hp, Nat.le_of_ble_eq_true rfl, Nat.le_of_ble_eq_true rfl⟩, fun _ h => absurd h List.not_mem_nil⟩⟩⟩⟩⟩⟩) (fun h => by cases h) 600 ?_
  intro as s0 hpre
  obtain ⟨r, a1, a2, rfl, hr, i0⟩ := hpre
  simp only [List.mem_cons, List.not_mem_nil, or_false] at hr
  rcases hr with rfl
  ·
    have z0 : (Int32.ofInt 0).toInt = 0 := by decide
    have z1 : (Int32.ofInt 1).toInt = 1 := by decide
    have z2 : (Int32.ofInt 2).toInt = 2 := by decide
    have z5 : (Int32.ofInt 5).toInt = 5 := by decide
    have z48 : (Int32.ofInt 48).toInt = 48 := by decide
    refine ⟨Nat.le_of_ble_eq_true rfl, [], ?_, fun _ h => absurd h List.not_mem_nil⟩
    ·
      refine And.intro (Nat.le_of_ble_eq_true rfl) (And.intro ⟨a1, (Int32.ofInt 0), (Int32.ofInt 2), rfl, trivial⟩ ?_)
      intro v1 s3 h2
      have h2 : s3 = s0 ∧ ((v1.toInt = 1 ∧ (Int32.ofInt 0).toInt ≤ a1.toInt ∧ a1.toInt ≤ (Int32.ofInt 2).toInt) ∨ (v1.toInt = 0 ∧ (a1.toInt < (Int32.ofInt 0).toInt ∨ (Int32.ofInt 2).toInt < a1.toInt))) := h2
      have q6 := h2.1.symm
      subst q6
      have q7 := h2.2
      refine And.intro (fun c8 => ?_) (fun c8 => ?_)
      · have c8 : v1.toInt = 0 := c8
        refine And.intro (Nat.le_of_ble_eq_true rfl) (And.intro ⟨0, (Int32.ofInt 1), rfl, by decide, i0⟩ ?_)
        intro v9 s11 h10
        have h10 : Iv s11 ∧ Kp s0 s11 ∧ vk s11 = ((vk s0).1, (vk s0).2) ∧ (v9.toInt = -1) := h10
        have i12 := h10.1
        have k13 : Kp s0 s11 := Kx.tr Kx.rf (h10.2.1)
        have u14 : vk s11 = ((vk s0).1, (vk s0).2) := h10.2.2.1.trans rfl
        have q15 := h10.2.2.2
        intro v16 e17
        show Iv s11 ∧ Kp s0 s11 ∧ vk s11 = ((vk s0).1, (vk s0).2) ∧ (True)
        exact ⟨i12, k13, u14, (trivial)⟩
      · have c8 : ¬ (v1.toInt = 0) := c8
        refine And.intro (fun c18 => ?_) (fun c18 => ?_)
        · have c18 : ¬ a1.toInt = (Int32.ofInt 2).toInt := c18
          refine And.intro (fun c19 => ?_) (fun c19 => ?_)
          · have c19 : ¬ a1.toInt = 0 := c19
            refine And.intro (fun c20 => ?_) (fun c20 => ?_)
            · have c20 : ¬ a1.toInt = (Int32.ofInt 1).toInt := c20
              exfalso
              omega
            · have c20 : ¬ (¬ a1.toInt = (Int32.ofInt 1).toInt) := c20
              intro v21 e22
              refine And.intro (Nat.le_of_ble_eq_true rfl) (And.intro ⟨0, v21, rfl, by decide, i0⟩ ?_)
              intro v23 s25 h24
              have h24 : Iv s25 ∧ Kp s0 s25 ∧ vk s25 = ((vk s0).1, (vk s0).2) ∧ (v23 = v21) := h24
              have i26 := h24.1
              have k27 : Kp s0 s25 := Kx.tr Kx.rf (h24.2.1)
              have u28 : vk s25 = ((vk s0).1, (vk s0).2) := h24.2.2.1.trans rfl
              have q29 := h24.2.2.2
              show Iv s25 ∧ Kp s0 s25 ∧ vk s25 = ((vk s0).1, (vk s0).2) ∧ (True)
              exact ⟨i26, k27, u28, (trivial)⟩
          · have c19 : ¬ (¬ a1.toInt = 0) := c19
            refine And.intro (Nat.le_of_ble_eq_true rfl) (And.intro ⟨3, rfl, by decide, i0⟩ ?_)
            intro v30 s32 h31
            have h31 : s32 = s0 ∧ (True) := h31
            have q35 := h31.1.symm
            subst q35
            refine And.intro (Nat.le_of_ble_eq_true rfl) (And.intro ⟨0, v30, rfl, by decide, i0⟩ ?_)
            intro v36 s38 h37
            have h37 : Iv s38 ∧ Kp s0 s38 ∧ vk s38 = ((vk s0).1, (vk s0).2) ∧ (v36 = v30) := h37
            have i39 := h37.1
            have k40 : Kp s0 s38 := Kx.tr Kx.rf (h37.2.1)
            have u41 : vk s38 = ((vk s0).1, (vk s0).2) := h37.2.2.1.trans rfl
            have q42 := h37.2.2.2
            show Iv s38 ∧ Kp s0 s38 ∧ vk s38 = ((vk s0).1, (vk s0).2) ∧ (True)
            exact ⟨i39, k40, u41, (trivial)⟩
        · have c18 : ¬ (¬ a1.toInt = (Int32.ofInt 2).toInt) := c18
          refine And.intro (Nat.le_of_ble_eq_true rfl) (And.intro ⟨a2, (Int32.ofInt 1), (Int32.ofInt 48), rfl, trivial⟩ ?_)
          intro v43 s45 h44
          have h44 : s45 = s0 ∧ ((v43.toInt = 1 ∧ (Int32.ofInt 1).toInt ≤ a2.toInt ∧ a2.toInt ≤ (Int32.ofInt 48).toInt) ∨ (v43.toInt = 0 ∧ (a2.toInt < (Int32.ofInt 1).toInt ∨ (Int32.ofInt 48).toInt < a2.toInt))) := h44
          have q48 := h44.1.symm
          subst q48
          have q49 := h44.2
          refine And.intro (fun c50 => ?_) (fun c50 => ?_)
          · have c50 : ¬ v43.toInt = 0 := c50
            refine And.intro (fun c51 => ?_) (fun c51 => ?_)
            · have c51 : ¬ a1.toInt = 0 := c51
              refine And.intro (fun c52 => ?_) (fun c52 => ?_)
              · have c52 : ¬ a1.toInt = (Int32.ofInt 1).toInt := c52
                refine And.intro (Nat.le_of_ble_eq_true rfl) (And.intro ⟨0, rfl, by decide, i0⟩ ?_)
                intro v53 s55 h54
                have h54 : s55 = s0 ∧ (0 ≤ v53.toInt ∧ v53.toInt ≤ 48) := h54
                have q58 := h54.1.symm
                subst q58
                have q59 := h54.2
                refine And.intro (fun c60 => ?_) (fun c60 => ?_)
                · have c60 : a2.toInt ≤ v53.toInt := c60
                  refine And.intro (Nat.le_of_ble_eq_true rfl) (And.intro ⟨0, a2, rfl, by decide, i0, by omega⟩ ?_)
                  intro v61 s63 h62
                  have h62 : s63 = s0 ∧ (True) := h62
                  have q66 := h62.1.symm
                  subst q66
                  refine And.intro (Nat.le_of_ble_eq_true rfl) (And.intro ⟨0, v61, rfl, by decide, i0⟩ ?_)
                  intro v67 s69 h68
                  have h68 : Iv s69 ∧ Kp s0 s69 ∧ vk s69 = ((vk s0).1, (vk s0).2) ∧ (v67 = v61) := h68
                  have i70 := h68.1
                  have k71 : Kp s0 s69 := Kx.tr Kx.rf (h68.2.1)
                  have u72 : vk s69 = ((vk s0).1, (vk s0).2) := h68.2.2.1.trans rfl
                  have q73 := h68.2.2.2
                  show Iv s69 ∧ Kp s0 s69 ∧ vk s69 = ((vk s0).1, (vk s0).2) ∧ (True)
                  exact ⟨i70, k71, u72, (trivial)⟩
                · have c60 : ¬ (a2.toInt ≤ v53.toInt) := c60
                  refine And.intro (Nat.le_of_ble_eq_true rfl) (And.intro ⟨0, (Int32.ofInt 5), rfl, by decide, i0⟩ ?_)
                  intro v74 s76 h75
                  have h75 : Iv s76 ∧ Kp s0 s76 ∧ vk s76 = ((vk s0).1, (vk s0).2) ∧ (v74.toInt = -1) := h75
                  have i77 := h75.1
                  have k78 : Kp s0 s76 := Kx.tr Kx.rf (h75.2.1)
                  have u79 : vk s76 = ((vk s0).1, (vk s0).2) := h75.2.2.1.trans rfl
                  have q80 := h75.2.2.2
                  intro v81 e82
                  show Iv s76 ∧ Kp s0 s76 ∧ vk s76 = ((vk s0).1, (vk s0).2) ∧ (True)
                  exact ⟨i77, k78, u79, (trivial)⟩
              · have c52 : ¬ (¬ a1.toInt = (Int32.ofInt 1).toInt) := c52
                exfalso
                omega
            · have c51 : ¬ (¬ a1.toInt = 0) := c51
              exfalso
              omega
          · have c50 : ¬ (¬ v43.toInt = 0) := c50
            refine And.intro (Nat.le_of_ble_eq_true rfl) (And.intro ⟨0, (Int32.ofInt 1), rfl, by decide, i0⟩ ?_)
            intro v83 s85 h84
            have h84 : Iv s85 ∧ Kp s0 s85 ∧ vk s85 = ((vk s0).1, (vk s0).2) ∧ (v83.toInt = -1) := h84
            have i86 := h84.1
            have k87 : Kp s0 s85 := Kx.tr Kx.rf (h84.2.1)
            have u88 : vk s85 = ((vk s0).1, (vk s0).2) := h84.2.2.1.trans rfl
            have q89 := h84.2.2.2
            intro v90 e91
            show Iv s85 ∧ Kp s0 s85 ∧ vk s85 = ((vk s0).1, (vk s0).2) ∧ (True)
            exact ⟨i86, k87, u88, (trivial)⟩
def o_X10_range : List vg_I := [(0, .iload_n 2, 1, 0, 0, 0, 0), (1, .iconst 0, 1, 0, 0, 0, 0), (2, .iconst 2, 1, 0, 0, 0, 0), (3, .invokestatic 82, 3, 0, 1, 3, 478), (6, .ifCond .ne 10, 3, 0, 0, 0, 0), (9, .aload_n 0, 1, 0, 0, 0, 0), (10, .iconst 1, 1, 0, 0, 0, 0), (11, .invokevirtual 90, 3, 1, 10, 1, 484), (14, .i2l, 1, 0, 0, 0, 0), (15, .lreturn, 1, 0, 0, 0, 0), (16, .iload_n 1, 1, 0, 0, 0, 0), (17, .invokestatic 201, 3, 2, 1, 1, 609), (20, .ifCond .ne 10, 3, 0, 0, 0, 0), (23, .aload_n 0, 1, 0, 0, 0, 0), (24, .iconst 2, 1, 0, 0, 0, 0), (25, .invokevirtual 90, 3, 1, 10, 1, 484), (28, .i2l, 1, 0, 0, 0, 0), (29, .lreturn, 1, 0, 0, 0, 0), (30, .aload_n 0, 1, 0, 0, 0, 0), (31, .getfield 52, 3, 436, 10, 9, 0), (34, .iload_n 1, 1, 0, 0, 0, 0), (35, .aaload, 1, 0, 0, 0, 0), (36, .astore_n 3, 1, 0, 0, 0, 0), (37, .aload_n 3, 1, 0, 0, 0, 0), (38, .getfield 210, 3, 415, 4, 2, 0), (41, .ifCond .ne 10, 3, 0, 0, 0, 0), (44, .aload_n 0, 1, 0, 0, 0, 0), (45, .iconst 5, 1, 0, 0, 0, 0), (46, .invokevirtual 90, 3, 1, 10, 1, 484), (49, .i2l, 1, 0, 0, 0, 0), (50, .lreturn, 1, 0, 0, 0, 0), (51, .iload_n 2, 1, 0, 0, 0, 0), (52, .lookupswitch 48 #[(0, 28), (1, 38)], 28, 0, 0, 0, 0), (80, .aload_n 0, 1, 0, 0, 0, 0), (81, .aload_n 3, 1, 0, 0, 0, 0), (82, .invokevirtual 272, 3, 3, 4, 0, 825), (85, .i2l, 1, 0, 0, 0, 0), (86, .invokevirtual 239, 3, 4, 10, 1, 800), (89, .lreturn, 1, 0, 0, 0, 0), (90, .aload_n 0, 1, 0, 0, 0, 0), (91, .aload_n 3, 1, 0, 0, 0, 0), (92, .invokevirtual 275, 3, 5, 4, 0, 830), (95, .i2l, 1, 0, 0, 0, 0), (96, .invokevirtual 239, 3, 4, 10, 1, 800), (99, .lreturn, 1, 0, 0, 0, 0), (100, .aload_n 0, 1, 0, 0, 0, 0), (101, .aload_n 3, 1, 0, 0, 0, 0), (102, .invokevirtual 278, 3, 6, 4, 0, 835), (105, .invokevirtual 239, 3, 4, 10, 1, 800), (108, .lreturn, 1, 0, 0, 0, 0)]
set_option maxRecDepth 100000 in
set_option maxHeartbeats 4000000 in
theorem c_X10_range (l : Launch) (G : vg_G) (hp : vg_Hp G) : vg_Ct l G vg_sh r_X10_range := by
  refine vg_meth hp vg_sh_ok r_X10_range k_X10_range rfl (fun h => by cases h) o_X10_range [r_X10_within, r_X10_refuse, r_X10_isStage, r_X4_least, r_X10_answerLong, r_X4_greatest, r_X4_total] false (by decide +kernel) (by decide +kernel) ⟨_, _, rfl, rfl⟩ (List.forall_mem_cons.mpr ⟨⟨c_X10_within l G hp, Nat.le_of_ble_eq_true rfl, Nat.le_of_ble_eq_true rfl⟩, List.forall_mem_cons.mpr ⟨⟨c_X10_refuse l G hp, Nat.le_of_ble_eq_true rfl, Nat.le_of_ble_eq_true rfl⟩, List.forall_mem_cons.mpr ⟨⟨c_X10_isStage l G hp, Nat.le_of_ble_eq_true rfl, Nat.le_of_ble_eq_true rfl⟩, List.forall_mem_cons.mpr ⟨⟨c_X4_least l G hp, Nat.le_of_ble_eq_true rfl, Nat.le_of_ble_eq_true rfl⟩, List.forall_mem_cons.mpr ⟨⟨c_X10_answerLong l G hp, Nat.le_of_ble_eq_true rfl, Nat.le_of_ble_eq_true rfl⟩, List.forall_mem_cons.mpr ⟨⟨c_X4_greatest l G hp, Nat.le_of_ble_eq_true rfl, Nat.le_of_ble_eq_true rfl⟩, List.forall_mem_cons.mpr ⟨⟨c_X4_total l G hp, Nat.le_of_ble_eq_true rfl, Nat.le_of_ble_eq_true rfl⟩, fun _ h => absurd h List.not_mem_nil⟩⟩⟩⟩⟩⟩⟩) (fun h => by cases h) 600 ?_
  intro as s0 hpre
  obtain ⟨r, a1, a2, rfl, hr, i0⟩ := hpre
  simp only [List.mem_cons, List.not_mem_nil, or_false] at hr
  rcases hr with rfl
  ·
    have z0 : (Int32.ofInt 0).toInt = 0 := by decide
    have z1 : (Int32.ofInt 1).toInt = 1 := by decide
    have z2 : (Int32.ofInt 2).toInt = 2 := by decide
    have z5 : (Int32.ofInt 5).toInt = 5 := by decide
    refine ⟨Nat.le_of_ble_eq_true rfl, [], ?_, fun _ h => absurd h List.not_mem_nil⟩
    ·
      refine And.intro (Nat.le_of_ble_eq_true rfl) (And.intro ⟨a2, (Int32.ofInt 0), (Int32.ofInt 2), rfl, trivial⟩ ?_)
      intro v1 s3 h2
      have h2 : s3 = s0 ∧ ((v1.toInt = 1 ∧ (Int32.ofInt 0).toInt ≤ a2.toInt ∧ a2.toInt ≤ (Int32.ofInt 2).toInt) ∨ (v1.toInt = 0 ∧ (a2.toInt < (Int32.ofInt 0).toInt ∨ (Int32.ofInt 2).toInt < a2.toInt))) := h2
      have q6 := h2.1.symm
      subst q6
      have q7 := h2.2
      refine And.intro (fun c8 => ?_) (fun c8 => ?_)
      · have c8 : ¬ v1.toInt = 0 := c8
        refine And.intro (Nat.le_of_ble_eq_true rfl) (And.intro ⟨a1, rfl, trivial⟩ ?_)
        intro v9 s11 h10
        have h10 : s11 = s0 ∧ ((v9.toInt = 1 ∧ 0 ≤ a1.toInt ∧ a1.toInt ≤ 6) ∨ (v9.toInt = 0 ∧ (a1.toInt < 0 ∨ 6 < a1.toInt))) := h10
        have q14 := h10.1.symm
        subst q14
        have q15 := h10.2
        refine And.intro (fun c16 => ?_) (fun c16 => ?_)
        · have c16 : ¬ v9.toInt = 0 := c16
          refine And.intro rfl (And.intro ⟨by omega, by omega⟩ ?_)
          refine And.intro (fun c17 => ?_) ?_
          · have c17 : a1.toInt = (0) := c17
            intro v18 e19
            have g20 : s0.1 41 2 = v18 := by rw [e19]
            have b21 : (0 : Int) ≤ v18.toInt ∧ v18.toInt ≤ 48 := by rw [e19]; exact Iv_41_2 i0
            refine And.intro (fun c22 => ?_) (fun c22 => ?_)
            · have c22 : ¬ v18.toInt = 0 := c22
              refine And.intro (fun c23 => ?_) (fun c23 => ?_)
              · have c23 : a2.toInt = (0) := c23
                refine And.intro (Nat.le_of_ble_eq_true rfl) (And.intro ⟨41, rfl, by decide, i0⟩ ?_)
                intro v24 s26 h25
                have h25 : s26 = s0 ∧ (True) := h25
                have q29 := h25.1.symm
                subst q29
                intro v30 e31
                refine And.intro (Nat.le_of_ble_eq_true rfl) (And.intro ⟨0, v30, rfl, by decide, i0⟩ ?_)
                intro v32 s34 h33
                have h33 : Iv s34 ∧ Kp s0 s34 ∧ vk s34 = ((vk s0).1, (vk s0).2) ∧ (v32 = v30) := h33
                have i35 := h33.1
                have k36 : Kp s0 s34 := Kx.tr Kx.rf (h33.2.1)
                have u37 : vk s34 = ((vk s0).1, (vk s0).2) := h33.2.2.1.trans rfl
                have q38 := h33.2.2.2
                show Iv s34 ∧ Kp s0 s34 ∧ vk s34 = ((vk s0).1, (vk s0).2) ∧ (True)
                exact ⟨i35, k36, u37, (trivial)⟩
              have c23 : ¬ (a2.toInt = (0)) := c23
              refine And.intro (fun c39 => ?_) (fun c39 => ?_)
              · have c39 : a2.toInt = (1) := c39
                refine And.intro (Nat.le_of_ble_eq_true rfl) (And.intro ⟨41, rfl, by decide, i0⟩ ?_)
                intro v40 s42 h41
                have h41 : s42 = s0 ∧ (True) := h41
                have q45 := h41.1.symm
                subst q45
                intro v46 e47
                refine And.intro (Nat.le_of_ble_eq_true rfl) (And.intro ⟨0, v46, rfl, by decide, i0⟩ ?_)
                intro v48 s50 h49
                have h49 : Iv s50 ∧ Kp s0 s50 ∧ vk s50 = ((vk s0).1, (vk s0).2) ∧ (v48 = v46) := h49
                have i51 := h49.1
                have k52 : Kp s0 s50 := Kx.tr Kx.rf (h49.2.1)
                have u53 : vk s50 = ((vk s0).1, (vk s0).2) := h49.2.2.1.trans rfl
                have q54 := h49.2.2.2
                show Iv s50 ∧ Kp s0 s50 ∧ vk s50 = ((vk s0).1, (vk s0).2) ∧ (True)
                exact ⟨i51, k52, u53, (trivial)⟩
              have c39 : ¬ (a2.toInt = (1)) := c39
              refine And.intro (Nat.le_of_ble_eq_true rfl) (And.intro ⟨41, rfl, by decide, i0⟩ ?_)
              intro v55 s57 h56
              have h56 : s57 = s0 ∧ (True) := h56
              have q60 := h56.1.symm
              subst q60
              refine And.intro (Nat.le_of_ble_eq_true rfl) (And.intro ⟨0, v55, rfl, by decide, i0⟩ ?_)
              intro v61 s63 h62
              have h62 : Iv s63 ∧ Kp s0 s63 ∧ vk s63 = ((vk s0).1, (vk s0).2) ∧ (v61 = v55) := h62
              have i64 := h62.1
              have k65 : Kp s0 s63 := Kx.tr Kx.rf (h62.2.1)
              have u66 : vk s63 = ((vk s0).1, (vk s0).2) := h62.2.2.1.trans rfl
              have q67 := h62.2.2.2
              show Iv s63 ∧ Kp s0 s63 ∧ vk s63 = ((vk s0).1, (vk s0).2) ∧ (True)
              exact ⟨i64, k65, u66, (trivial)⟩
            · have c22 : ¬ (¬ v18.toInt = 0) := c22
              refine And.intro (Nat.le_of_ble_eq_true rfl) (And.intro ⟨0, (Int32.ofInt 5), rfl, by decide, i0⟩ ?_)
              intro v68 s70 h69
              have h69 : Iv s70 ∧ Kp s0 s70 ∧ vk s70 = ((vk s0).1, (vk s0).2) ∧ (v68.toInt = -1) := h69
              have i71 := h69.1
              have k72 : Kp s0 s70 := Kx.tr Kx.rf (h69.2.1)
              have u73 : vk s70 = ((vk s0).1, (vk s0).2) := h69.2.2.1.trans rfl
              have q74 := h69.2.2.2
              intro v75 e76
              show Iv s70 ∧ Kp s0 s70 ∧ vk s70 = ((vk s0).1, (vk s0).2) ∧ (True)
              exact ⟨i71, k72, u73, (trivial)⟩
          refine And.intro (fun c77 => ?_) ?_
          · have c77 : a1.toInt = (1) := c77
            intro v78 e79
            have g80 : s0.1 43 2 = v78 := by rw [e79]
            have b81 : (0 : Int) ≤ v78.toInt ∧ v78.toInt ≤ 48 := by rw [e79]; exact Iv_43_2 i0
            refine And.intro (fun c82 => ?_) (fun c82 => ?_)
            · have c82 : ¬ v78.toInt = 0 := c82
              refine And.intro (fun c83 => ?_) (fun c83 => ?_)
              · have c83 : a2.toInt = (0) := c83
                refine And.intro (Nat.le_of_ble_eq_true rfl) (And.intro ⟨43, rfl, by decide, i0⟩ ?_)
                intro v84 s86 h85
                have h85 : s86 = s0 ∧ (True) := h85
                have q89 := h85.1.symm
                subst q89
                intro v90 e91
                refine And.intro (Nat.le_of_ble_eq_true rfl) (And.intro ⟨0, v90, rfl, by decide, i0⟩ ?_)
                intro v92 s94 h93
                have h93 : Iv s94 ∧ Kp s0 s94 ∧ vk s94 = ((vk s0).1, (vk s0).2) ∧ (v92 = v90) := h93
                have i95 := h93.1
                have k96 : Kp s0 s94 := Kx.tr Kx.rf (h93.2.1)
                have u97 : vk s94 = ((vk s0).1, (vk s0).2) := h93.2.2.1.trans rfl
                have q98 := h93.2.2.2
                show Iv s94 ∧ Kp s0 s94 ∧ vk s94 = ((vk s0).1, (vk s0).2) ∧ (True)
                exact ⟨i95, k96, u97, (trivial)⟩
              have c83 : ¬ (a2.toInt = (0)) := c83
              refine And.intro (fun c99 => ?_) (fun c99 => ?_)
              · have c99 : a2.toInt = (1) := c99
                refine And.intro (Nat.le_of_ble_eq_true rfl) (And.intro ⟨43, rfl, by decide, i0⟩ ?_)
                intro v100 s102 h101
                have h101 : s102 = s0 ∧ (True) := h101
                have q105 := h101.1.symm
                subst q105
                intro v106 e107
                refine And.intro (Nat.le_of_ble_eq_true rfl) (And.intro ⟨0, v106, rfl, by decide, i0⟩ ?_)
                intro v108 s110 h109
                have h109 : Iv s110 ∧ Kp s0 s110 ∧ vk s110 = ((vk s0).1, (vk s0).2) ∧ (v108 = v106) := h109
                have i111 := h109.1
                have k112 : Kp s0 s110 := Kx.tr Kx.rf (h109.2.1)
                have u113 : vk s110 = ((vk s0).1, (vk s0).2) := h109.2.2.1.trans rfl
                have q114 := h109.2.2.2
                show Iv s110 ∧ Kp s0 s110 ∧ vk s110 = ((vk s0).1, (vk s0).2) ∧ (True)
                exact ⟨i111, k112, u113, (trivial)⟩
              have c99 : ¬ (a2.toInt = (1)) := c99
              refine And.intro (Nat.le_of_ble_eq_true rfl) (And.intro ⟨43, rfl, by decide, i0⟩ ?_)
              intro v115 s117 h116
              have h116 : s117 = s0 ∧ (True) := h116
              have q120 := h116.1.symm
              subst q120
              refine And.intro (Nat.le_of_ble_eq_true rfl) (And.intro ⟨0, v115, rfl, by decide, i0⟩ ?_)
              intro v121 s123 h122
              have h122 : Iv s123 ∧ Kp s0 s123 ∧ vk s123 = ((vk s0).1, (vk s0).2) ∧ (v121 = v115) := h122
              have i124 := h122.1
              have k125 : Kp s0 s123 := Kx.tr Kx.rf (h122.2.1)
              have u126 : vk s123 = ((vk s0).1, (vk s0).2) := h122.2.2.1.trans rfl
              have q127 := h122.2.2.2
              show Iv s123 ∧ Kp s0 s123 ∧ vk s123 = ((vk s0).1, (vk s0).2) ∧ (True)
              exact ⟨i124, k125, u126, (trivial)⟩
            · have c82 : ¬ (¬ v78.toInt = 0) := c82
              refine And.intro (Nat.le_of_ble_eq_true rfl) (And.intro ⟨0, (Int32.ofInt 5), rfl, by decide, i0⟩ ?_)
              intro v128 s130 h129
              have h129 : Iv s130 ∧ Kp s0 s130 ∧ vk s130 = ((vk s0).1, (vk s0).2) ∧ (v128.toInt = -1) := h129
              have i131 := h129.1
              have k132 : Kp s0 s130 := Kx.tr Kx.rf (h129.2.1)
              have u133 : vk s130 = ((vk s0).1, (vk s0).2) := h129.2.2.1.trans rfl
              have q134 := h129.2.2.2
              intro v135 e136
              show Iv s130 ∧ Kp s0 s130 ∧ vk s130 = ((vk s0).1, (vk s0).2) ∧ (True)
              exact ⟨i131, k132, u133, (trivial)⟩
          refine And.intro (fun c137 => ?_) ?_
          · have c137 : a1.toInt = (2) := c137
            intro v138 e139
            have g140 : s0.1 45 2 = v138 := by rw [e139]
            have b141 : (0 : Int) ≤ v138.toInt ∧ v138.toInt ≤ 48 := by rw [e139]; exact Iv_45_2 i0
            refine And.intro (fun c142 => ?_) (fun c142 => ?_)
            · have c142 : ¬ v138.toInt = 0 := c142
              refine And.intro (fun c143 => ?_) (fun c143 => ?_)
              · have c143 : a2.toInt = (0) := c143
                refine And.intro (Nat.le_of_ble_eq_true rfl) (And.intro ⟨45, rfl, by decide, i0⟩ ?_)
                intro v144 s146 h145
                have h145 : s146 = s0 ∧ (True) := h145
                have q149 := h145.1.symm
                subst q149
                intro v150 e151
                refine And.intro (Nat.le_of_ble_eq_true rfl) (And.intro ⟨0, v150, rfl, by decide, i0⟩ ?_)
                intro v152 s154 h153
                have h153 : Iv s154 ∧ Kp s0 s154 ∧ vk s154 = ((vk s0).1, (vk s0).2) ∧ (v152 = v150) := h153
                have i155 := h153.1
                have k156 : Kp s0 s154 := Kx.tr Kx.rf (h153.2.1)
                have u157 : vk s154 = ((vk s0).1, (vk s0).2) := h153.2.2.1.trans rfl
                have q158 := h153.2.2.2
                show Iv s154 ∧ Kp s0 s154 ∧ vk s154 = ((vk s0).1, (vk s0).2) ∧ (True)
                exact ⟨i155, k156, u157, (trivial)⟩
              have c143 : ¬ (a2.toInt = (0)) := c143
              refine And.intro (fun c159 => ?_) (fun c159 => ?_)
              · have c159 : a2.toInt = (1) := c159
                refine And.intro (Nat.le_of_ble_eq_true rfl) (And.intro ⟨45, rfl, by decide, i0⟩ ?_)
                intro v160 s162 h161
                have h161 : s162 = s0 ∧ (True) := h161
                have q165 := h161.1.symm
                subst q165
                intro v166 e167
                refine And.intro (Nat.le_of_ble_eq_true rfl) (And.intro ⟨0, v166, rfl, by decide, i0⟩ ?_)
                intro v168 s170 h169
                have h169 : Iv s170 ∧ Kp s0 s170 ∧ vk s170 = ((vk s0).1, (vk s0).2) ∧ (v168 = v166) := h169
                have i171 := h169.1
                have k172 : Kp s0 s170 := Kx.tr Kx.rf (h169.2.1)
                have u173 : vk s170 = ((vk s0).1, (vk s0).2) := h169.2.2.1.trans rfl
                have q174 := h169.2.2.2
                show Iv s170 ∧ Kp s0 s170 ∧ vk s170 = ((vk s0).1, (vk s0).2) ∧ (True)
                exact ⟨i171, k172, u173, (trivial)⟩
              have c159 : ¬ (a2.toInt = (1)) := c159
              refine And.intro (Nat.le_of_ble_eq_true rfl) (And.intro ⟨45, rfl, by decide, i0⟩ ?_)
              intro v175 s177 h176
              have h176 : s177 = s0 ∧ (True) := h176
              have q180 := h176.1.symm
              subst q180
              refine And.intro (Nat.le_of_ble_eq_true rfl) (And.intro ⟨0, v175, rfl, by decide, i0⟩ ?_)
              intro v181 s183 h182
              have h182 : Iv s183 ∧ Kp s0 s183 ∧ vk s183 = ((vk s0).1, (vk s0).2) ∧ (v181 = v175) := h182
              have i184 := h182.1
              have k185 : Kp s0 s183 := Kx.tr Kx.rf (h182.2.1)
              have u186 : vk s183 = ((vk s0).1, (vk s0).2) := h182.2.2.1.trans rfl
              have q187 := h182.2.2.2
              show Iv s183 ∧ Kp s0 s183 ∧ vk s183 = ((vk s0).1, (vk s0).2) ∧ (True)
              exact ⟨i184, k185, u186, (trivial)⟩
            · have c142 : ¬ (¬ v138.toInt = 0) := c142
              refine And.intro (Nat.le_of_ble_eq_true rfl) (And.intro ⟨0, (Int32.ofInt 5), rfl, by decide, i0⟩ ?_)
              intro v188 s190 h189
              have h189 : Iv s190 ∧ Kp s0 s190 ∧ vk s190 = ((vk s0).1, (vk s0).2) ∧ (v188.toInt = -1) := h189
              have i191 := h189.1
              have k192 : Kp s0 s190 := Kx.tr Kx.rf (h189.2.1)
              have u193 : vk s190 = ((vk s0).1, (vk s0).2) := h189.2.2.1.trans rfl
              have q194 := h189.2.2.2
              intro v195 e196
              show Iv s190 ∧ Kp s0 s190 ∧ vk s190 = ((vk s0).1, (vk s0).2) ∧ (True)
              exact ⟨i191, k192, u193, (trivial)⟩
          refine And.intro (fun c197 => ?_) ?_
          · have c197 : a1.toInt = (3) := c197
            intro v198 e199
            have g200 : s0.1 47 2 = v198 := by rw [e199]
            have b201 : (0 : Int) ≤ v198.toInt ∧ v198.toInt ≤ 48 := by rw [e199]; exact Iv_47_2 i0
            refine And.intro (fun c202 => ?_) (fun c202 => ?_)
            · have c202 : ¬ v198.toInt = 0 := c202
              refine And.intro (fun c203 => ?_) (fun c203 => ?_)
              · have c203 : a2.toInt = (0) := c203
                refine And.intro (Nat.le_of_ble_eq_true rfl) (And.intro ⟨47, rfl, by decide, i0⟩ ?_)
                intro v204 s206 h205
                have h205 : s206 = s0 ∧ (True) := h205
                have q209 := h205.1.symm
                subst q209
                intro v210 e211
                refine And.intro (Nat.le_of_ble_eq_true rfl) (And.intro ⟨0, v210, rfl, by decide, i0⟩ ?_)
                intro v212 s214 h213
                have h213 : Iv s214 ∧ Kp s0 s214 ∧ vk s214 = ((vk s0).1, (vk s0).2) ∧ (v212 = v210) := h213
                have i215 := h213.1
                have k216 : Kp s0 s214 := Kx.tr Kx.rf (h213.2.1)
                have u217 : vk s214 = ((vk s0).1, (vk s0).2) := h213.2.2.1.trans rfl
                have q218 := h213.2.2.2
                show Iv s214 ∧ Kp s0 s214 ∧ vk s214 = ((vk s0).1, (vk s0).2) ∧ (True)
                exact ⟨i215, k216, u217, (trivial)⟩
              have c203 : ¬ (a2.toInt = (0)) := c203
              refine And.intro (fun c219 => ?_) (fun c219 => ?_)
              · have c219 : a2.toInt = (1) := c219
                refine And.intro (Nat.le_of_ble_eq_true rfl) (And.intro ⟨47, rfl, by decide, i0⟩ ?_)
                intro v220 s222 h221
                have h221 : s222 = s0 ∧ (True) := h221
                have q225 := h221.1.symm
                subst q225
                intro v226 e227
                refine And.intro (Nat.le_of_ble_eq_true rfl) (And.intro ⟨0, v226, rfl, by decide, i0⟩ ?_)
                intro v228 s230 h229
                have h229 : Iv s230 ∧ Kp s0 s230 ∧ vk s230 = ((vk s0).1, (vk s0).2) ∧ (v228 = v226) := h229
                have i231 := h229.1
                have k232 : Kp s0 s230 := Kx.tr Kx.rf (h229.2.1)
                have u233 : vk s230 = ((vk s0).1, (vk s0).2) := h229.2.2.1.trans rfl
                have q234 := h229.2.2.2
                show Iv s230 ∧ Kp s0 s230 ∧ vk s230 = ((vk s0).1, (vk s0).2) ∧ (True)
                exact ⟨i231, k232, u233, (trivial)⟩
              have c219 : ¬ (a2.toInt = (1)) := c219
              refine And.intro (Nat.le_of_ble_eq_true rfl) (And.intro ⟨47, rfl, by decide, i0⟩ ?_)
              intro v235 s237 h236
              have h236 : s237 = s0 ∧ (True) := h236
              have q240 := h236.1.symm
              subst q240
              refine And.intro (Nat.le_of_ble_eq_true rfl) (And.intro ⟨0, v235, rfl, by decide, i0⟩ ?_)
              intro v241 s243 h242
              have h242 : Iv s243 ∧ Kp s0 s243 ∧ vk s243 = ((vk s0).1, (vk s0).2) ∧ (v241 = v235) := h242
              have i244 := h242.1
              have k245 : Kp s0 s243 := Kx.tr Kx.rf (h242.2.1)
              have u246 : vk s243 = ((vk s0).1, (vk s0).2) := h242.2.2.1.trans rfl
              have q247 := h242.2.2.2
              show Iv s243 ∧ Kp s0 s243 ∧ vk s243 = ((vk s0).1, (vk s0).2) ∧ (True)
              exact ⟨i244, k245, u246, (trivial)⟩
            · have c202 : ¬ (¬ v198.toInt = 0) := c202
              refine And.intro (Nat.le_of_ble_eq_true rfl) (And.intro ⟨0, (Int32.ofInt 5), rfl, by decide, i0⟩ ?_)
              intro v248 s250 h249
              have h249 : Iv s250 ∧ Kp s0 s250 ∧ vk s250 = ((vk s0).1, (vk s0).2) ∧ (v248.toInt = -1) := h249
              have i251 := h249.1
              have k252 : Kp s0 s250 := Kx.tr Kx.rf (h249.2.1)
              have u253 : vk s250 = ((vk s0).1, (vk s0).2) := h249.2.2.1.trans rfl
              have q254 := h249.2.2.2
              intro v255 e256
              show Iv s250 ∧ Kp s0 s250 ∧ vk s250 = ((vk s0).1, (vk s0).2) ∧ (True)
              exact ⟨i251, k252, u253, (trivial)⟩
          refine And.intro (fun c257 => ?_) ?_
          · have c257 : a1.toInt = (4) := c257
            intro v258 e259
            have g260 : s0.1 49 2 = v258 := by rw [e259]
            have b261 : (0 : Int) ≤ v258.toInt ∧ v258.toInt ≤ 48 := by rw [e259]; exact Iv_49_2 i0
            refine And.intro (fun c262 => ?_) (fun c262 => ?_)
            · have c262 : ¬ v258.toInt = 0 := c262
              refine And.intro (fun c263 => ?_) (fun c263 => ?_)
              · have c263 : a2.toInt = (0) := c263
                refine And.intro (Nat.le_of_ble_eq_true rfl) (And.intro ⟨49, rfl, by decide, i0⟩ ?_)
                intro v264 s266 h265
                have h265 : s266 = s0 ∧ (True) := h265
                have q269 := h265.1.symm
                subst q269
                intro v270 e271
                refine And.intro (Nat.le_of_ble_eq_true rfl) (And.intro ⟨0, v270, rfl, by decide, i0⟩ ?_)
                intro v272 s274 h273
                have h273 : Iv s274 ∧ Kp s0 s274 ∧ vk s274 = ((vk s0).1, (vk s0).2) ∧ (v272 = v270) := h273
                have i275 := h273.1
                have k276 : Kp s0 s274 := Kx.tr Kx.rf (h273.2.1)
                have u277 : vk s274 = ((vk s0).1, (vk s0).2) := h273.2.2.1.trans rfl
                have q278 := h273.2.2.2
                show Iv s274 ∧ Kp s0 s274 ∧ vk s274 = ((vk s0).1, (vk s0).2) ∧ (True)
                exact ⟨i275, k276, u277, (trivial)⟩
              have c263 : ¬ (a2.toInt = (0)) := c263
              refine And.intro (fun c279 => ?_) (fun c279 => ?_)
              · have c279 : a2.toInt = (1) := c279
                refine And.intro (Nat.le_of_ble_eq_true rfl) (And.intro ⟨49, rfl, by decide, i0⟩ ?_)
                intro v280 s282 h281
                have h281 : s282 = s0 ∧ (True) := h281
                have q285 := h281.1.symm
                subst q285
                intro v286 e287
                refine And.intro (Nat.le_of_ble_eq_true rfl) (And.intro ⟨0, v286, rfl, by decide, i0⟩ ?_)
                intro v288 s290 h289
                have h289 : Iv s290 ∧ Kp s0 s290 ∧ vk s290 = ((vk s0).1, (vk s0).2) ∧ (v288 = v286) := h289
                have i291 := h289.1
                have k292 : Kp s0 s290 := Kx.tr Kx.rf (h289.2.1)
                have u293 : vk s290 = ((vk s0).1, (vk s0).2) := h289.2.2.1.trans rfl
                have q294 := h289.2.2.2
                show Iv s290 ∧ Kp s0 s290 ∧ vk s290 = ((vk s0).1, (vk s0).2) ∧ (True)
                exact ⟨i291, k292, u293, (trivial)⟩
              have c279 : ¬ (a2.toInt = (1)) := c279
              refine And.intro (Nat.le_of_ble_eq_true rfl) (And.intro ⟨49, rfl, by decide, i0⟩ ?_)
              intro v295 s297 h296
              have h296 : s297 = s0 ∧ (True) := h296
              have q300 := h296.1.symm
              subst q300
              refine And.intro (Nat.le_of_ble_eq_true rfl) (And.intro ⟨0, v295, rfl, by decide, i0⟩ ?_)
              intro v301 s303 h302
              have h302 : Iv s303 ∧ Kp s0 s303 ∧ vk s303 = ((vk s0).1, (vk s0).2) ∧ (v301 = v295) := h302
              have i304 := h302.1
              have k305 : Kp s0 s303 := Kx.tr Kx.rf (h302.2.1)
              have u306 : vk s303 = ((vk s0).1, (vk s0).2) := h302.2.2.1.trans rfl
              have q307 := h302.2.2.2
              show Iv s303 ∧ Kp s0 s303 ∧ vk s303 = ((vk s0).1, (vk s0).2) ∧ (True)
              exact ⟨i304, k305, u306, (trivial)⟩
            · have c262 : ¬ (¬ v258.toInt = 0) := c262
              refine And.intro (Nat.le_of_ble_eq_true rfl) (And.intro ⟨0, (Int32.ofInt 5), rfl, by decide, i0⟩ ?_)
              intro v308 s310 h309
              have h309 : Iv s310 ∧ Kp s0 s310 ∧ vk s310 = ((vk s0).1, (vk s0).2) ∧ (v308.toInt = -1) := h309
              have i311 := h309.1
              have k312 : Kp s0 s310 := Kx.tr Kx.rf (h309.2.1)
              have u313 : vk s310 = ((vk s0).1, (vk s0).2) := h309.2.2.1.trans rfl
              have q314 := h309.2.2.2
              intro v315 e316
              show Iv s310 ∧ Kp s0 s310 ∧ vk s310 = ((vk s0).1, (vk s0).2) ∧ (True)
              exact ⟨i311, k312, u313, (trivial)⟩
          refine And.intro (fun c317 => ?_) ?_
          · have c317 : a1.toInt = (5) := c317
            intro v318 e319
            have g320 : s0.1 51 2 = v318 := by rw [e319]
            have b321 : (0 : Int) ≤ v318.toInt ∧ v318.toInt ≤ 48 := by rw [e319]; exact Iv_51_2 i0
            refine And.intro (fun c322 => ?_) (fun c322 => ?_)
            · have c322 : ¬ v318.toInt = 0 := c322
              refine And.intro (fun c323 => ?_) (fun c323 => ?_)
              · have c323 : a2.toInt = (0) := c323
                refine And.intro (Nat.le_of_ble_eq_true rfl) (And.intro ⟨51, rfl, by decide, i0⟩ ?_)
                intro v324 s326 h325
                have h325 : s326 = s0 ∧ (True) := h325
                have q329 := h325.1.symm
                subst q329
                intro v330 e331
                refine And.intro (Nat.le_of_ble_eq_true rfl) (And.intro ⟨0, v330, rfl, by decide, i0⟩ ?_)
                intro v332 s334 h333
                have h333 : Iv s334 ∧ Kp s0 s334 ∧ vk s334 = ((vk s0).1, (vk s0).2) ∧ (v332 = v330) := h333
                have i335 := h333.1
                have k336 : Kp s0 s334 := Kx.tr Kx.rf (h333.2.1)
                have u337 : vk s334 = ((vk s0).1, (vk s0).2) := h333.2.2.1.trans rfl
                have q338 := h333.2.2.2
                show Iv s334 ∧ Kp s0 s334 ∧ vk s334 = ((vk s0).1, (vk s0).2) ∧ (True)
                exact ⟨i335, k336, u337, (trivial)⟩
              have c323 : ¬ (a2.toInt = (0)) := c323
              refine And.intro (fun c339 => ?_) (fun c339 => ?_)
              · have c339 : a2.toInt = (1) := c339
                refine And.intro (Nat.le_of_ble_eq_true rfl) (And.intro ⟨51, rfl, by decide, i0⟩ ?_)
                intro v340 s342 h341
                have h341 : s342 = s0 ∧ (True) := h341
                have q345 := h341.1.symm
                subst q345
                intro v346 e347
                refine And.intro (Nat.le_of_ble_eq_true rfl) (And.intro ⟨0, v346, rfl, by decide, i0⟩ ?_)
                intro v348 s350 h349
                have h349 : Iv s350 ∧ Kp s0 s350 ∧ vk s350 = ((vk s0).1, (vk s0).2) ∧ (v348 = v346) := h349
                have i351 := h349.1
                have k352 : Kp s0 s350 := Kx.tr Kx.rf (h349.2.1)
                have u353 : vk s350 = ((vk s0).1, (vk s0).2) := h349.2.2.1.trans rfl
                have q354 := h349.2.2.2
                show Iv s350 ∧ Kp s0 s350 ∧ vk s350 = ((vk s0).1, (vk s0).2) ∧ (True)
                exact ⟨i351, k352, u353, (trivial)⟩
              have c339 : ¬ (a2.toInt = (1)) := c339
              refine And.intro (Nat.le_of_ble_eq_true rfl) (And.intro ⟨51, rfl, by decide, i0⟩ ?_)
              intro v355 s357 h356
              have h356 : s357 = s0 ∧ (True) := h356
              have q360 := h356.1.symm
              subst q360
              refine And.intro (Nat.le_of_ble_eq_true rfl) (And.intro ⟨0, v355, rfl, by decide, i0⟩ ?_)
              intro v361 s363 h362
              have h362 : Iv s363 ∧ Kp s0 s363 ∧ vk s363 = ((vk s0).1, (vk s0).2) ∧ (v361 = v355) := h362
              have i364 := h362.1
              have k365 : Kp s0 s363 := Kx.tr Kx.rf (h362.2.1)
              have u366 : vk s363 = ((vk s0).1, (vk s0).2) := h362.2.2.1.trans rfl
              have q367 := h362.2.2.2
              show Iv s363 ∧ Kp s0 s363 ∧ vk s363 = ((vk s0).1, (vk s0).2) ∧ (True)
              exact ⟨i364, k365, u366, (trivial)⟩
            · have c322 : ¬ (¬ v318.toInt = 0) := c322
              refine And.intro (Nat.le_of_ble_eq_true rfl) (And.intro ⟨0, (Int32.ofInt 5), rfl, by decide, i0⟩ ?_)
              intro v368 s370 h369
              have h369 : Iv s370 ∧ Kp s0 s370 ∧ vk s370 = ((vk s0).1, (vk s0).2) ∧ (v368.toInt = -1) := h369
              have i371 := h369.1
              have k372 : Kp s0 s370 := Kx.tr Kx.rf (h369.2.1)
              have u373 : vk s370 = ((vk s0).1, (vk s0).2) := h369.2.2.1.trans rfl
              have q374 := h369.2.2.2
              intro v375 e376
              show Iv s370 ∧ Kp s0 s370 ∧ vk s370 = ((vk s0).1, (vk s0).2) ∧ (True)
              exact ⟨i371, k372, u373, (trivial)⟩
          refine And.intro (fun c377 => ?_) ?_
          · have c377 : a1.toInt = (6) := c377
            intro v378 e379
            have g380 : s0.1 53 2 = v378 := by rw [e379]
            have b381 : (0 : Int) ≤ v378.toInt ∧ v378.toInt ≤ 48 := by rw [e379]; exact Iv_53_2 i0
            refine And.intro (fun c382 => ?_) (fun c382 => ?_)
            · have c382 : ¬ v378.toInt = 0 := c382
              refine And.intro (fun c383 => ?_) (fun c383 => ?_)
              · have c383 : a2.toInt = (0) := c383
                refine And.intro (Nat.le_of_ble_eq_true rfl) (And.intro ⟨53, rfl, by decide, i0⟩ ?_)
                intro v384 s386 h385
                have h385 : s386 = s0 ∧ (True) := h385
                have q389 := h385.1.symm
                subst q389
                intro v390 e391
                refine And.intro (Nat.le_of_ble_eq_true rfl) (And.intro ⟨0, v390, rfl, by decide, i0⟩ ?_)
                intro v392 s394 h393
                have h393 : Iv s394 ∧ Kp s0 s394 ∧ vk s394 = ((vk s0).1, (vk s0).2) ∧ (v392 = v390) := h393
                have i395 := h393.1
                have k396 : Kp s0 s394 := Kx.tr Kx.rf (h393.2.1)
                have u397 : vk s394 = ((vk s0).1, (vk s0).2) := h393.2.2.1.trans rfl
                have q398 := h393.2.2.2
                show Iv s394 ∧ Kp s0 s394 ∧ vk s394 = ((vk s0).1, (vk s0).2) ∧ (True)
                exact ⟨i395, k396, u397, (trivial)⟩
              have c383 : ¬ (a2.toInt = (0)) := c383
              refine And.intro (fun c399 => ?_) (fun c399 => ?_)
              · have c399 : a2.toInt = (1) := c399
                refine And.intro (Nat.le_of_ble_eq_true rfl) (And.intro ⟨53, rfl, by decide, i0⟩ ?_)
                intro v400 s402 h401
                have h401 : s402 = s0 ∧ (True) := h401
                have q405 := h401.1.symm
                subst q405
                intro v406 e407
                refine And.intro (Nat.le_of_ble_eq_true rfl) (And.intro ⟨0, v406, rfl, by decide, i0⟩ ?_)
                intro v408 s410 h409
                have h409 : Iv s410 ∧ Kp s0 s410 ∧ vk s410 = ((vk s0).1, (vk s0).2) ∧ (v408 = v406) := h409
                have i411 := h409.1
                have k412 : Kp s0 s410 := Kx.tr Kx.rf (h409.2.1)
                have u413 : vk s410 = ((vk s0).1, (vk s0).2) := h409.2.2.1.trans rfl
                have q414 := h409.2.2.2
                show Iv s410 ∧ Kp s0 s410 ∧ vk s410 = ((vk s0).1, (vk s0).2) ∧ (True)
                exact ⟨i411, k412, u413, (trivial)⟩
              have c399 : ¬ (a2.toInt = (1)) := c399
              refine And.intro (Nat.le_of_ble_eq_true rfl) (And.intro ⟨53, rfl, by decide, i0⟩ ?_)
              intro v415 s417 h416
              have h416 : s417 = s0 ∧ (True) := h416
              have q420 := h416.1.symm
              subst q420
              refine And.intro (Nat.le_of_ble_eq_true rfl) (And.intro ⟨0, v415, rfl, by decide, i0⟩ ?_)
              intro v421 s423 h422
              have h422 : Iv s423 ∧ Kp s0 s423 ∧ vk s423 = ((vk s0).1, (vk s0).2) ∧ (v421 = v415) := h422
              have i424 := h422.1
              have k425 : Kp s0 s423 := Kx.tr Kx.rf (h422.2.1)
              have u426 : vk s423 = ((vk s0).1, (vk s0).2) := h422.2.2.1.trans rfl
              have q427 := h422.2.2.2
              show Iv s423 ∧ Kp s0 s423 ∧ vk s423 = ((vk s0).1, (vk s0).2) ∧ (True)
              exact ⟨i424, k425, u426, (trivial)⟩
            · have c382 : ¬ (¬ v378.toInt = 0) := c382
              refine And.intro (Nat.le_of_ble_eq_true rfl) (And.intro ⟨0, (Int32.ofInt 5), rfl, by decide, i0⟩ ?_)
              intro v428 s430 h429
              have h429 : Iv s430 ∧ Kp s0 s430 ∧ vk s430 = ((vk s0).1, (vk s0).2) ∧ (v428.toInt = -1) := h429
              have i431 := h429.1
              have k432 : Kp s0 s430 := Kx.tr Kx.rf (h429.2.1)
              have u433 : vk s430 = ((vk s0).1, (vk s0).2) := h429.2.2.1.trans rfl
              have q434 := h429.2.2.2
              intro v435 e436
              show Iv s430 ∧ Kp s0 s430 ∧ vk s430 = ((vk s0).1, (vk s0).2) ∧ (True)
              exact ⟨i431, k432, u433, (trivial)⟩
          exact trivial
        · have c16 : ¬ (¬ v9.toInt = 0) := c16
          refine And.intro (Nat.le_of_ble_eq_true rfl) (And.intro ⟨0, (Int32.ofInt 2), rfl, by decide, i0⟩ ?_)
          intro v437 s439 h438
          have h438 : Iv s439 ∧ Kp s0 s439 ∧ vk s439 = ((vk s0).1, (vk s0).2) ∧ (v437.toInt = -1) := h438
          have i440 := h438.1
          have k441 : Kp s0 s439 := Kx.tr Kx.rf (h438.2.1)
          have u442 : vk s439 = ((vk s0).1, (vk s0).2) := h438.2.2.1.trans rfl
          have q443 := h438.2.2.2
          intro v444 e445
          show Iv s439 ∧ Kp s0 s439 ∧ vk s439 = ((vk s0).1, (vk s0).2) ∧ (True)
          exact ⟨i440, k441, u442, (trivial)⟩
      · have c8 : ¬ (¬ v1.toInt = 0) := c8
        refine And.intro (Nat.le_of_ble_eq_true rfl) (And.intro ⟨0, (Int32.ofInt 1), rfl, by decide, i0⟩ ?_)
        intro v446 s448 h447
        have h447 : Iv s448 ∧ Kp s0 s448 ∧ vk s448 = ((vk s0).1, (vk s0).2) ∧ (v446.toInt = -1) := h447
        have i449 := h447.1
        have k450 : Kp s0 s448 := Kx.tr Kx.rf (h447.2.1)
        have u451 : vk s448 = ((vk s0).1, (vk s0).2) := h447.2.2.1.trans rfl
        have q452 := h447.2.2.2
        intro v453 e454
        show Iv s448 ∧ Kp s0 s448 ∧ vk s448 = ((vk s0).1, (vk s0).2) ∧ (True)
        exact ⟨i449, k450, u451, (trivial)⟩
def o_X10_steady : List vg_I := [(0, .iload_n 2, 1, 0, 0, 0, 0), (1, .iconst 0, 1, 0, 0, 0, 0), (2, .sipush 30000, 3, 0, 0, 0, 0), (5, .invokestatic 82, 3, 0, 1, 3, 478), (8, .ifCond .ne 9, 3, 0, 0, 0, 0), (11, .aload_n 0, 1, 0, 0, 0, 0), (12, .iconst 1, 1, 0, 0, 0, 0), (13, .invokevirtual 90, 3, 1, 10, 1, 484), (16, .ireturn, 1, 0, 0, 0, 0), (17, .iload_n 1, 1, 0, 0, 0, 0), (18, .invokestatic 201, 3, 2, 1, 1, 609), (21, .ifCond .ne 9, 3, 0, 0, 0, 0), (24, .aload_n 0, 1, 0, 0, 0, 0), (25, .iconst 2, 1, 0, 0, 0, 0), (26, .invokevirtual 90, 3, 1, 10, 1, 484), (29, .ireturn, 1, 0, 0, 0, 0), (30, .aload_n 0, 1, 0, 0, 0, 0), (31, .getfield 52, 3, 436, 10, 9, 0), (34, .iload_n 1, 1, 0, 0, 0, 0), (35, .aaload, 1, 0, 0, 0, 0), (36, .getfield 210, 3, 415, 4, 2, 0), (39, .ifCond .ne 9, 3, 0, 0, 0, 0), (42, .aload_n 0, 1, 0, 0, 0, 0), (43, .iconst 5, 1, 0, 0, 0, 0), (44, .invokevirtual 90, 3, 1, 10, 1, 484), (47, .ireturn, 1, 0, 0, 0, 0), (48, .aload_n 0, 1, 0, 0, 0, 0), (49, .aload_n 0, 1, 0, 0, 0, 0), (50, .getfield 52, 3, 436, 10, 9, 0), (53, .iload_n 1, 1, 0, 0, 0, 0), (54, .aaload, 1, 0, 0, 0, 0), (55, .iload_n 2, 1, 0, 0, 0, 0), (56, .invokevirtual 281, 3, 3, 4, 1, 843), (59, .invokevirtual 113, 3, 4, 10, 1, 520), (62, .ireturn, 1, 0, 0, 0, 0)]
set_option maxRecDepth 100000 in
set_option maxHeartbeats 4000000 in
theorem c_X10_steady (l : Launch) (G : vg_G) (hp : vg_Hp G) : vg_Ct l G vg_sh r_X10_steady := by
  refine vg_meth hp vg_sh_ok r_X10_steady k_X10_steady rfl (fun h => by cases h) o_X10_steady [r_X10_within, r_X10_refuse, r_X10_isStage, r_X4_nearLatest, r_X10_answer] false (by decide +kernel) (by decide +kernel) ⟨_, _, rfl, rfl⟩ (List.forall_mem_cons.mpr ⟨⟨c_X10_within l G hp, Nat.le_of_ble_eq_true rfl, Nat.le_of_ble_eq_true rfl⟩, List.forall_mem_cons.mpr ⟨⟨c_X10_refuse l G hp, Nat.le_of_ble_eq_true rfl, Nat.le_of_ble_eq_true rfl⟩, List.forall_mem_cons.mpr ⟨⟨c_X10_isStage l G hp, Nat.le_of_ble_eq_true rfl, Nat.le_of_ble_eq_true rfl⟩, List.forall_mem_cons.mpr ⟨⟨c_X4_nearLatest l G hp, Nat.le_of_ble_eq_true rfl, Nat.le_of_ble_eq_true rfl⟩, List.forall_mem_cons.mpr ⟨⟨c_X10_answer l G hp, Nat.le_of_ble_eq_true rfl, Nat.le_of_ble_eq_true rfl⟩, fun _ h => absurd h List.not_mem_nil⟩⟩⟩⟩⟩) (fun h => by cases h) 600 ?_
  intro as s0 hpre
  obtain ⟨r, a1, a2, rfl, hr, i0⟩ := hpre
  simp only [List.mem_cons, List.not_mem_nil, or_false] at hr
  rcases hr with rfl
  ·
    have z0 : (Int32.ofInt 0).toInt = 0 := by decide
    have z1 : (Int32.ofInt 1).toInt = 1 := by decide
    have z2 : (Int32.ofInt 2).toInt = 2 := by decide
    have z5 : (Int32.ofInt 5).toInt = 5 := by decide
    have z30000 : (Int32.ofInt 30000).toInt = 30000 := by decide
    refine ⟨Nat.le_of_ble_eq_true rfl, [], ?_, fun _ h => absurd h List.not_mem_nil⟩
    ·
      refine And.intro (Nat.le_of_ble_eq_true rfl) (And.intro ⟨a2, (Int32.ofInt 0), (Int32.ofInt 30000), rfl, trivial⟩ ?_)
      intro v1 s3 h2
      have h2 : s3 = s0 ∧ ((v1.toInt = 1 ∧ (Int32.ofInt 0).toInt ≤ a2.toInt ∧ a2.toInt ≤ (Int32.ofInt 30000).toInt) ∨ (v1.toInt = 0 ∧ (a2.toInt < (Int32.ofInt 0).toInt ∨ (Int32.ofInt 30000).toInt < a2.toInt))) := h2
      have q6 := h2.1.symm
      subst q6
      have q7 := h2.2
      refine And.intro (fun c8 => ?_) (fun c8 => ?_)
      · have c8 : ¬ v1.toInt = 0 := c8
        refine And.intro (Nat.le_of_ble_eq_true rfl) (And.intro ⟨a1, rfl, trivial⟩ ?_)
        intro v9 s11 h10
        have h10 : s11 = s0 ∧ ((v9.toInt = 1 ∧ 0 ≤ a1.toInt ∧ a1.toInt ≤ 6) ∨ (v9.toInt = 0 ∧ (a1.toInt < 0 ∨ 6 < a1.toInt))) := h10
        have q14 := h10.1.symm
        subst q14
        have q15 := h10.2
        refine And.intro (fun c16 => ?_) (fun c16 => ?_)
        · have c16 : ¬ v9.toInt = 0 := c16
          refine And.intro rfl (And.intro ⟨by omega, by omega⟩ ?_)
          refine And.intro (fun c17 => ?_) ?_
          · have c17 : a1.toInt = (0) := c17
            intro v18 e19
            have g20 : s0.1 41 2 = v18 := by rw [e19]
            have b21 : (0 : Int) ≤ v18.toInt ∧ v18.toInt ≤ 48 := by rw [e19]; exact Iv_41_2 i0
            refine And.intro (fun c22 => ?_) (fun c22 => ?_)
            · have c22 : ¬ v18.toInt = 0 := c22
              refine And.intro rfl (And.intro ⟨by omega, by omega⟩ ?_)
              refine And.intro (fun c23 => ?_) ?_
              · have c23 : a1.toInt = (0) := c23
                refine And.intro (Nat.le_of_ble_eq_true rfl) (And.intro ⟨41, a2, rfl, by decide, i0⟩ ?_)
                intro v24 s26 h25
                have h25 : s26 = s0 ∧ (True) := h25
                have q29 := h25.1.symm
                subst q29
                refine And.intro (Nat.le_of_ble_eq_true rfl) (And.intro ⟨0, v24, rfl, by decide, i0⟩ ?_)
                intro v30 s32 h31
                have h31 : Iv s32 ∧ Kp s0 s32 ∧ vk s32 = ((vk s0).1, (vk s0).2) ∧ (v30 = v24 ∧ v30.toInt = v24.toInt) := h31
                have i33 := h31.1
                have k34 : Kp s0 s32 := Kx.tr Kx.rf (h31.2.1)
                have u35 : vk s32 = ((vk s0).1, (vk s0).2) := h31.2.2.1.trans rfl
                have q36 := h31.2.2.2
                show Iv s32 ∧ Kp s0 s32 ∧ vk s32 = ((vk s0).1, (vk s0).2) ∧ (True)
                exact ⟨i33, k34, u35, (trivial)⟩
              refine And.intro (fun c37 => ?_) ?_
              · have c37 : a1.toInt = (1) := c37
                exfalso
                omega
              refine And.intro (fun c38 => ?_) ?_
              · have c38 : a1.toInt = (2) := c38
                exfalso
                omega
              refine And.intro (fun c39 => ?_) ?_
              · have c39 : a1.toInt = (3) := c39
                exfalso
                omega
              refine And.intro (fun c40 => ?_) ?_
              · have c40 : a1.toInt = (4) := c40
                exfalso
                omega
              refine And.intro (fun c41 => ?_) ?_
              · have c41 : a1.toInt = (5) := c41
                exfalso
                omega
              refine And.intro (fun c42 => ?_) ?_
              · have c42 : a1.toInt = (6) := c42
                exfalso
                omega
              exact trivial
            · have c22 : ¬ (¬ v18.toInt = 0) := c22
              refine And.intro (Nat.le_of_ble_eq_true rfl) (And.intro ⟨0, (Int32.ofInt 5), rfl, by decide, i0⟩ ?_)
              intro v43 s45 h44
              have h44 : Iv s45 ∧ Kp s0 s45 ∧ vk s45 = ((vk s0).1, (vk s0).2) ∧ (v43.toInt = -1) := h44
              have i46 := h44.1
              have k47 : Kp s0 s45 := Kx.tr Kx.rf (h44.2.1)
              have u48 : vk s45 = ((vk s0).1, (vk s0).2) := h44.2.2.1.trans rfl
              have q49 := h44.2.2.2
              show Iv s45 ∧ Kp s0 s45 ∧ vk s45 = ((vk s0).1, (vk s0).2) ∧ (True)
              exact ⟨i46, k47, u48, (trivial)⟩
          refine And.intro (fun c50 => ?_) ?_
          · have c50 : a1.toInt = (1) := c50
            intro v51 e52
            have g53 : s0.1 43 2 = v51 := by rw [e52]
            have b54 : (0 : Int) ≤ v51.toInt ∧ v51.toInt ≤ 48 := by rw [e52]; exact Iv_43_2 i0
            refine And.intro (fun c55 => ?_) (fun c55 => ?_)
            · have c55 : ¬ v51.toInt = 0 := c55
              refine And.intro rfl (And.intro ⟨by omega, by omega⟩ ?_)
              refine And.intro (fun c56 => ?_) ?_
              · have c56 : a1.toInt = (0) := c56
                exfalso
                omega
              refine And.intro (fun c57 => ?_) ?_
              · have c57 : a1.toInt = (1) := c57
                refine And.intro (Nat.le_of_ble_eq_true rfl) (And.intro ⟨43, a2, rfl, by decide, i0⟩ ?_)
                intro v58 s60 h59
                have h59 : s60 = s0 ∧ (True) := h59
                have q63 := h59.1.symm
                subst q63
                refine And.intro (Nat.le_of_ble_eq_true rfl) (And.intro ⟨0, v58, rfl, by decide, i0⟩ ?_)
                intro v64 s66 h65
                have h65 : Iv s66 ∧ Kp s0 s66 ∧ vk s66 = ((vk s0).1, (vk s0).2) ∧ (v64 = v58 ∧ v64.toInt = v58.toInt) := h65
                have i67 := h65.1
                have k68 : Kp s0 s66 := Kx.tr Kx.rf (h65.2.1)
                have u69 : vk s66 = ((vk s0).1, (vk s0).2) := h65.2.2.1.trans rfl
                have q70 := h65.2.2.2
                show Iv s66 ∧ Kp s0 s66 ∧ vk s66 = ((vk s0).1, (vk s0).2) ∧ (True)
                exact ⟨i67, k68, u69, (trivial)⟩
              refine And.intro (fun c71 => ?_) ?_
              · have c71 : a1.toInt = (2) := c71
                exfalso
                omega
              refine And.intro (fun c72 => ?_) ?_
              · have c72 : a1.toInt = (3) := c72
                exfalso
                omega
              refine And.intro (fun c73 => ?_) ?_
              · have c73 : a1.toInt = (4) := c73
                exfalso
                omega
              refine And.intro (fun c74 => ?_) ?_
              · have c74 : a1.toInt = (5) := c74
                exfalso
                omega
              refine And.intro (fun c75 => ?_) ?_
              · have c75 : a1.toInt = (6) := c75
                exfalso
                omega
              exact trivial
            · have c55 : ¬ (¬ v51.toInt = 0) := c55
              refine And.intro (Nat.le_of_ble_eq_true rfl) (And.intro ⟨0, (Int32.ofInt 5), rfl, by decide, i0⟩ ?_)
              intro v76 s78 h77
              have h77 : Iv s78 ∧ Kp s0 s78 ∧ vk s78 = ((vk s0).1, (vk s0).2) ∧ (v76.toInt = -1) := h77
              have i79 := h77.1
              have k80 : Kp s0 s78 := Kx.tr Kx.rf (h77.2.1)
              have u81 : vk s78 = ((vk s0).1, (vk s0).2) := h77.2.2.1.trans rfl
              have q82 := h77.2.2.2
              show Iv s78 ∧ Kp s0 s78 ∧ vk s78 = ((vk s0).1, (vk s0).2) ∧ (True)
              exact ⟨i79, k80, u81, (trivial)⟩
          refine And.intro (fun c83 => ?_) ?_
          · have c83 : a1.toInt = (2) := c83
            intro v84 e85
            have g86 : s0.1 45 2 = v84 := by rw [e85]
            have b87 : (0 : Int) ≤ v84.toInt ∧ v84.toInt ≤ 48 := by rw [e85]; exact Iv_45_2 i0
            refine And.intro (fun c88 => ?_) (fun c88 => ?_)
            · have c88 : ¬ v84.toInt = 0 := c88
              refine And.intro rfl (And.intro ⟨by omega, by omega⟩ ?_)
              refine And.intro (fun c89 => ?_) ?_
              · have c89 : a1.toInt = (0) := c89
                exfalso
                omega
              refine And.intro (fun c90 => ?_) ?_
              · have c90 : a1.toInt = (1) := c90
                exfalso
                omega
              refine And.intro (fun c91 => ?_) ?_
              · have c91 : a1.toInt = (2) := c91
                refine And.intro (Nat.le_of_ble_eq_true rfl) (And.intro ⟨45, a2, rfl, by decide, i0⟩ ?_)
                intro v92 s94 h93
                have h93 : s94 = s0 ∧ (True) := h93
                have q97 := h93.1.symm
                subst q97
                refine And.intro (Nat.le_of_ble_eq_true rfl) (And.intro ⟨0, v92, rfl, by decide, i0⟩ ?_)
                intro v98 s100 h99
                have h99 : Iv s100 ∧ Kp s0 s100 ∧ vk s100 = ((vk s0).1, (vk s0).2) ∧ (v98 = v92 ∧ v98.toInt = v92.toInt) := h99
                have i101 := h99.1
                have k102 : Kp s0 s100 := Kx.tr Kx.rf (h99.2.1)
                have u103 : vk s100 = ((vk s0).1, (vk s0).2) := h99.2.2.1.trans rfl
                have q104 := h99.2.2.2
                show Iv s100 ∧ Kp s0 s100 ∧ vk s100 = ((vk s0).1, (vk s0).2) ∧ (True)
                exact ⟨i101, k102, u103, (trivial)⟩
              refine And.intro (fun c105 => ?_) ?_
              · have c105 : a1.toInt = (3) := c105
                exfalso
                omega
              refine And.intro (fun c106 => ?_) ?_
              · have c106 : a1.toInt = (4) := c106
                exfalso
                omega
              refine And.intro (fun c107 => ?_) ?_
              · have c107 : a1.toInt = (5) := c107
                exfalso
                omega
              refine And.intro (fun c108 => ?_) ?_
              · have c108 : a1.toInt = (6) := c108
                exfalso
                omega
              exact trivial
            · have c88 : ¬ (¬ v84.toInt = 0) := c88
              refine And.intro (Nat.le_of_ble_eq_true rfl) (And.intro ⟨0, (Int32.ofInt 5), rfl, by decide, i0⟩ ?_)
              intro v109 s111 h110
              have h110 : Iv s111 ∧ Kp s0 s111 ∧ vk s111 = ((vk s0).1, (vk s0).2) ∧ (v109.toInt = -1) := h110
              have i112 := h110.1
              have k113 : Kp s0 s111 := Kx.tr Kx.rf (h110.2.1)
              have u114 : vk s111 = ((vk s0).1, (vk s0).2) := h110.2.2.1.trans rfl
              have q115 := h110.2.2.2
              show Iv s111 ∧ Kp s0 s111 ∧ vk s111 = ((vk s0).1, (vk s0).2) ∧ (True)
              exact ⟨i112, k113, u114, (trivial)⟩
          refine And.intro (fun c116 => ?_) ?_
          · have c116 : a1.toInt = (3) := c116
            intro v117 e118
            have g119 : s0.1 47 2 = v117 := by rw [e118]
            have b120 : (0 : Int) ≤ v117.toInt ∧ v117.toInt ≤ 48 := by rw [e118]; exact Iv_47_2 i0
            refine And.intro (fun c121 => ?_) (fun c121 => ?_)
            · have c121 : ¬ v117.toInt = 0 := c121
              refine And.intro rfl (And.intro ⟨by omega, by omega⟩ ?_)
              refine And.intro (fun c122 => ?_) ?_
              · have c122 : a1.toInt = (0) := c122
                exfalso
                omega
              refine And.intro (fun c123 => ?_) ?_
              · have c123 : a1.toInt = (1) := c123
                exfalso
                omega
              refine And.intro (fun c124 => ?_) ?_
              · have c124 : a1.toInt = (2) := c124
                exfalso
                omega
              refine And.intro (fun c125 => ?_) ?_
              · have c125 : a1.toInt = (3) := c125
                refine And.intro (Nat.le_of_ble_eq_true rfl) (And.intro ⟨47, a2, rfl, by decide, i0⟩ ?_)
                intro v126 s128 h127
                have h127 : s128 = s0 ∧ (True) := h127
                have q131 := h127.1.symm
                subst q131
                refine And.intro (Nat.le_of_ble_eq_true rfl) (And.intro ⟨0, v126, rfl, by decide, i0⟩ ?_)
                intro v132 s134 h133
                have h133 : Iv s134 ∧ Kp s0 s134 ∧ vk s134 = ((vk s0).1, (vk s0).2) ∧ (v132 = v126 ∧ v132.toInt = v126.toInt) := h133
                have i135 := h133.1
                have k136 : Kp s0 s134 := Kx.tr Kx.rf (h133.2.1)
                have u137 : vk s134 = ((vk s0).1, (vk s0).2) := h133.2.2.1.trans rfl
                have q138 := h133.2.2.2
                show Iv s134 ∧ Kp s0 s134 ∧ vk s134 = ((vk s0).1, (vk s0).2) ∧ (True)
                exact ⟨i135, k136, u137, (trivial)⟩
              refine And.intro (fun c139 => ?_) ?_
              · have c139 : a1.toInt = (4) := c139
                exfalso
                omega
              refine And.intro (fun c140 => ?_) ?_
              · have c140 : a1.toInt = (5) := c140
                exfalso
                omega
              refine And.intro (fun c141 => ?_) ?_
              · have c141 : a1.toInt = (6) := c141
                exfalso
                omega
              exact trivial
            · have c121 : ¬ (¬ v117.toInt = 0) := c121
              refine And.intro (Nat.le_of_ble_eq_true rfl) (And.intro ⟨0, (Int32.ofInt 5), rfl, by decide, i0⟩ ?_)
              intro v142 s144 h143
              have h143 : Iv s144 ∧ Kp s0 s144 ∧ vk s144 = ((vk s0).1, (vk s0).2) ∧ (v142.toInt = -1) := h143
              have i145 := h143.1
              have k146 : Kp s0 s144 := Kx.tr Kx.rf (h143.2.1)
              have u147 : vk s144 = ((vk s0).1, (vk s0).2) := h143.2.2.1.trans rfl
              have q148 := h143.2.2.2
              show Iv s144 ∧ Kp s0 s144 ∧ vk s144 = ((vk s0).1, (vk s0).2) ∧ (True)
              exact ⟨i145, k146, u147, (trivial)⟩
          refine And.intro (fun c149 => ?_) ?_
          · have c149 : a1.toInt = (4) := c149
            intro v150 e151
            have g152 : s0.1 49 2 = v150 := by rw [e151]
            have b153 : (0 : Int) ≤ v150.toInt ∧ v150.toInt ≤ 48 := by rw [e151]; exact Iv_49_2 i0
            refine And.intro (fun c154 => ?_) (fun c154 => ?_)
            · have c154 : ¬ v150.toInt = 0 := c154
              refine And.intro rfl (And.intro ⟨by omega, by omega⟩ ?_)
              refine And.intro (fun c155 => ?_) ?_
              · have c155 : a1.toInt = (0) := c155
                exfalso
                omega
              refine And.intro (fun c156 => ?_) ?_
              · have c156 : a1.toInt = (1) := c156
                exfalso
                omega
              refine And.intro (fun c157 => ?_) ?_
              · have c157 : a1.toInt = (2) := c157
                exfalso
                omega
              refine And.intro (fun c158 => ?_) ?_
              · have c158 : a1.toInt = (3) := c158
                exfalso
                omega
              refine And.intro (fun c159 => ?_) ?_
              · have c159 : a1.toInt = (4) := c159
                refine And.intro (Nat.le_of_ble_eq_true rfl) (And.intro ⟨49, a2, rfl, by decide, i0⟩ ?_)
                intro v160 s162 h161
                have h161 : s162 = s0 ∧ (True) := h161
                have q165 := h161.1.symm
                subst q165
                refine And.intro (Nat.le_of_ble_eq_true rfl) (And.intro ⟨0, v160, rfl, by decide, i0⟩ ?_)
                intro v166 s168 h167
                have h167 : Iv s168 ∧ Kp s0 s168 ∧ vk s168 = ((vk s0).1, (vk s0).2) ∧ (v166 = v160 ∧ v166.toInt = v160.toInt) := h167
                have i169 := h167.1
                have k170 : Kp s0 s168 := Kx.tr Kx.rf (h167.2.1)
                have u171 : vk s168 = ((vk s0).1, (vk s0).2) := h167.2.2.1.trans rfl
                have q172 := h167.2.2.2
                show Iv s168 ∧ Kp s0 s168 ∧ vk s168 = ((vk s0).1, (vk s0).2) ∧ (True)
                exact ⟨i169, k170, u171, (trivial)⟩
              refine And.intro (fun c173 => ?_) ?_
              · have c173 : a1.toInt = (5) := c173
                exfalso
                omega
              refine And.intro (fun c174 => ?_) ?_
              · have c174 : a1.toInt = (6) := c174
                exfalso
                omega
              exact trivial
            · have c154 : ¬ (¬ v150.toInt = 0) := c154
              refine And.intro (Nat.le_of_ble_eq_true rfl) (And.intro ⟨0, (Int32.ofInt 5), rfl, by decide, i0⟩ ?_)
              intro v175 s177 h176
              have h176 : Iv s177 ∧ Kp s0 s177 ∧ vk s177 = ((vk s0).1, (vk s0).2) ∧ (v175.toInt = -1) := h176
              have i178 := h176.1
              have k179 : Kp s0 s177 := Kx.tr Kx.rf (h176.2.1)
              have u180 : vk s177 = ((vk s0).1, (vk s0).2) := h176.2.2.1.trans rfl
              have q181 := h176.2.2.2
              show Iv s177 ∧ Kp s0 s177 ∧ vk s177 = ((vk s0).1, (vk s0).2) ∧ (True)
              exact ⟨i178, k179, u180, (trivial)⟩
          refine And.intro (fun c182 => ?_) ?_
          · have c182 : a1.toInt = (5) := c182
            intro v183 e184
            have g185 : s0.1 51 2 = v183 := by rw [e184]
            have b186 : (0 : Int) ≤ v183.toInt ∧ v183.toInt ≤ 48 := by rw [e184]; exact Iv_51_2 i0
            refine And.intro (fun c187 => ?_) (fun c187 => ?_)
            · have c187 : ¬ v183.toInt = 0 := c187
              refine And.intro rfl (And.intro ⟨by omega, by omega⟩ ?_)
              refine And.intro (fun c188 => ?_) ?_
              · have c188 : a1.toInt = (0) := c188
                exfalso
                omega
              refine And.intro (fun c189 => ?_) ?_
              · have c189 : a1.toInt = (1) := c189
                exfalso
                omega
              refine And.intro (fun c190 => ?_) ?_
              · have c190 : a1.toInt = (2) := c190
                exfalso
                omega
              refine And.intro (fun c191 => ?_) ?_
              · have c191 : a1.toInt = (3) := c191
                exfalso
                omega
              refine And.intro (fun c192 => ?_) ?_
              · have c192 : a1.toInt = (4) := c192
                exfalso
                omega
              refine And.intro (fun c193 => ?_) ?_
              · have c193 : a1.toInt = (5) := c193
                refine And.intro (Nat.le_of_ble_eq_true rfl) (And.intro ⟨51, a2, rfl, by decide, i0⟩ ?_)
                intro v194 s196 h195
                have h195 : s196 = s0 ∧ (True) := h195
                have q199 := h195.1.symm
                subst q199
                refine And.intro (Nat.le_of_ble_eq_true rfl) (And.intro ⟨0, v194, rfl, by decide, i0⟩ ?_)
                intro v200 s202 h201
                have h201 : Iv s202 ∧ Kp s0 s202 ∧ vk s202 = ((vk s0).1, (vk s0).2) ∧ (v200 = v194 ∧ v200.toInt = v194.toInt) := h201
                have i203 := h201.1
                have k204 : Kp s0 s202 := Kx.tr Kx.rf (h201.2.1)
                have u205 : vk s202 = ((vk s0).1, (vk s0).2) := h201.2.2.1.trans rfl
                have q206 := h201.2.2.2
                show Iv s202 ∧ Kp s0 s202 ∧ vk s202 = ((vk s0).1, (vk s0).2) ∧ (True)
                exact ⟨i203, k204, u205, (trivial)⟩
              refine And.intro (fun c207 => ?_) ?_
              · have c207 : a1.toInt = (6) := c207
                exfalso
                omega
              exact trivial
            · have c187 : ¬ (¬ v183.toInt = 0) := c187
              refine And.intro (Nat.le_of_ble_eq_true rfl) (And.intro ⟨0, (Int32.ofInt 5), rfl, by decide, i0⟩ ?_)
              intro v208 s210 h209
              have h209 : Iv s210 ∧ Kp s0 s210 ∧ vk s210 = ((vk s0).1, (vk s0).2) ∧ (v208.toInt = -1) := h209
              have i211 := h209.1
              have k212 : Kp s0 s210 := Kx.tr Kx.rf (h209.2.1)
              have u213 : vk s210 = ((vk s0).1, (vk s0).2) := h209.2.2.1.trans rfl
              have q214 := h209.2.2.2
              show Iv s210 ∧ Kp s0 s210 ∧ vk s210 = ((vk s0).1, (vk s0).2) ∧ (True)
              exact ⟨i211, k212, u213, (trivial)⟩
          refine And.intro (fun c215 => ?_) ?_
          · have c215 : a1.toInt = (6) := c215
            intro v216 e217
            have g218 : s0.1 53 2 = v216 := by rw [e217]
            have b219 : (0 : Int) ≤ v216.toInt ∧ v216.toInt ≤ 48 := by rw [e217]; exact Iv_53_2 i0
            refine And.intro (fun c220 => ?_) (fun c220 => ?_)
            · have c220 : ¬ v216.toInt = 0 := c220
              refine And.intro rfl (And.intro ⟨by omega, by omega⟩ ?_)
              refine And.intro (fun c221 => ?_) ?_
              · have c221 : a1.toInt = (0) := c221
                exfalso
                omega
              refine And.intro (fun c222 => ?_) ?_
              · have c222 : a1.toInt = (1) := c222
                exfalso
                omega
              refine And.intro (fun c223 => ?_) ?_
              · have c223 : a1.toInt = (2) := c223
                exfalso
                omega
              refine And.intro (fun c224 => ?_) ?_
              · have c224 : a1.toInt = (3) := c224
                exfalso
                omega
              refine And.intro (fun c225 => ?_) ?_
              · have c225 : a1.toInt = (4) := c225
                exfalso
                omega
              refine And.intro (fun c226 => ?_) ?_
              · have c226 : a1.toInt = (5) := c226
                exfalso
                omega
              refine And.intro (fun c227 => ?_) ?_
              · have c227 : a1.toInt = (6) := c227
                refine And.intro (Nat.le_of_ble_eq_true rfl) (And.intro ⟨53, a2, rfl, by decide, i0⟩ ?_)
                intro v228 s230 h229
                have h229 : s230 = s0 ∧ (True) := h229
                have q233 := h229.1.symm
                subst q233
                refine And.intro (Nat.le_of_ble_eq_true rfl) (And.intro ⟨0, v228, rfl, by decide, i0⟩ ?_)
                intro v234 s236 h235
                have h235 : Iv s236 ∧ Kp s0 s236 ∧ vk s236 = ((vk s0).1, (vk s0).2) ∧ (v234 = v228 ∧ v234.toInt = v228.toInt) := h235
                have i237 := h235.1
                have k238 : Kp s0 s236 := Kx.tr Kx.rf (h235.2.1)
                have u239 : vk s236 = ((vk s0).1, (vk s0).2) := h235.2.2.1.trans rfl
                have q240 := h235.2.2.2
                show Iv s236 ∧ Kp s0 s236 ∧ vk s236 = ((vk s0).1, (vk s0).2) ∧ (True)
                exact ⟨i237, k238, u239, (trivial)⟩
              exact trivial
            · have c220 : ¬ (¬ v216.toInt = 0) := c220
              refine And.intro (Nat.le_of_ble_eq_true rfl) (And.intro ⟨0, (Int32.ofInt 5), rfl, by decide, i0⟩ ?_)
              intro v241 s243 h242
              have h242 : Iv s243 ∧ Kp s0 s243 ∧ vk s243 = ((vk s0).1, (vk s0).2) ∧ (v241.toInt = -1) := h242
              have i244 := h242.1
              have k245 : Kp s0 s243 := Kx.tr Kx.rf (h242.2.1)
              have u246 : vk s243 = ((vk s0).1, (vk s0).2) := h242.2.2.1.trans rfl
              have q247 := h242.2.2.2
              show Iv s243 ∧ Kp s0 s243 ∧ vk s243 = ((vk s0).1, (vk s0).2) ∧ (True)
              exact ⟨i244, k245, u246, (trivial)⟩
          exact trivial
        · have c16 : ¬ (¬ v9.toInt = 0) := c16
          refine And.intro (Nat.le_of_ble_eq_true rfl) (And.intro ⟨0, (Int32.ofInt 2), rfl, by decide, i0⟩ ?_)
          intro v248 s250 h249
          have h249 : Iv s250 ∧ Kp s0 s250 ∧ vk s250 = ((vk s0).1, (vk s0).2) ∧ (v248.toInt = -1) := h249
          have i251 := h249.1
          have k252 : Kp s0 s250 := Kx.tr Kx.rf (h249.2.1)
          have u253 : vk s250 = ((vk s0).1, (vk s0).2) := h249.2.2.1.trans rfl
          have q254 := h249.2.2.2
          show Iv s250 ∧ Kp s0 s250 ∧ vk s250 = ((vk s0).1, (vk s0).2) ∧ (True)
          exact ⟨i251, k252, u253, (trivial)⟩
      · have c8 : ¬ (¬ v1.toInt = 0) := c8
        refine And.intro (Nat.le_of_ble_eq_true rfl) (And.intro ⟨0, (Int32.ofInt 1), rfl, by decide, i0⟩ ?_)
        intro v255 s257 h256
        have h256 : Iv s257 ∧ Kp s0 s257 ∧ vk s257 = ((vk s0).1, (vk s0).2) ∧ (v255.toInt = -1) := h256
        have i258 := h256.1
        have k259 : Kp s0 s257 := Kx.tr Kx.rf (h256.2.1)
        have u260 : vk s257 = ((vk s0).1, (vk s0).2) := h256.2.2.1.trans rfl
        have q261 := h256.2.2.2
        show Iv s257 ∧ Kp s0 s257 ∧ vk s257 = ((vk s0).1, (vk s0).2) ∧ (True)
        exact ⟨i258, k259, u260, (trivial)⟩
def o_X10_element : List vg_I := [(0, .iload_n 2, 1, 0, 0, 0, 0), (1, .iconst 0, 1, 0, 0, 0, 0), (2, .iconst 4, 1, 0, 0, 0, 0), (3, .invokestatic 82, 3, 0, 1, 3, 478), (6, .ifCond .ne 9, 3, 0, 0, 0, 0), (9, .aload_n 0, 1, 0, 0, 0, 0), (10, .iconst 1, 1, 0, 0, 0, 0), (11, .invokevirtual 90, 3, 1, 10, 1, 484), (14, .ireturn, 1, 0, 0, 0, 0), (15, .iload_n 1, 1, 0, 0, 0, 0), (16, .iconst 0, 1, 0, 0, 0, 0), (17, .aload_n 0, 1, 0, 0, 0, 0), (18, .getfield 26, 3, 432, 10, 5, 0), (21, .getfield 148, 3, 240, 2, 0, 0), (24, .iconst 1, 1, 0, 0, 0, 0), (25, .isub, 1, 0, 0, 0, 0), (26, .invokestatic 82, 3, 0, 1, 3, 478), (29, .ifCond .ne 9, 3, 0, 0, 0, 0), (32, .aload_n 0, 1, 0, 0, 0, 0), (33, .iconst 2, 1, 0, 0, 0, 0), (34, .invokevirtual 90, 3, 1, 10, 1, 484), (37, .ireturn, 1, 0, 0, 0, 0), (38, .iload_n 2, 1, 0, 0, 0, 0), (39, .tableswitch 84 0 3 #[29, 42, 56, 70], 29, 0, 0, 0, 0), (68, .aload_n 0, 1, 0, 0, 0, 0), (69, .aload_n 0, 1, 0, 0, 0, 0), (70, .getfield 26, 3, 432, 10, 5, 0), (73, .iload_n 1, 1, 0, 0, 0, 0), (74, .invokevirtual 284, 3, 2, 2, 1, 852), (77, .invokevirtual 113, 3, 3, 10, 1, 520), (80, .ireturn, 1, 0, 0, 0, 0), (81, .aload_n 0, 1, 0, 0, 0, 0), (82, .aload_n 0, 1, 0, 0, 0, 0), (83, .getfield 26, 3, 432, 10, 5, 0), (86, .getfield 287, 3, 250, 2, 5, 0), (89, .iload_n 1, 1, 0, 0, 0, 0), (90, .iaload, 1, 0, 0, 0, 0), (91, .invokevirtual 113, 3, 3, 10, 1, 520), (94, .ireturn, 1, 0, 0, 0, 0), (95, .aload_n 0, 1, 0, 0, 0, 0), (96, .aload_n 0, 1, 0, 0, 0, 0), (97, .getfield 26, 3, 432, 10, 5, 0), (100, .getfield 290, 3, 252, 2, 6, 0), (103, .iload_n 1, 1, 0, 0, 0, 0), (104, .iaload, 1, 0, 0, 0, 0), (105, .invokevirtual 113, 3, 3, 10, 1, 520), (108, .ireturn, 1, 0, 0, 0, 0), (109, .aload_n 0, 1, 0, 0, 0, 0), (110, .aload_n 0, 1, 0, 0, 0, 0), (111, .getfield 26, 3, 432, 10, 5, 0), (114, .getfield 293, 3, 254, 2, 7, 0), (117, .iload_n 1, 1, 0, 0, 0, 0), (118, .iaload, 1, 0, 0, 0, 0), (119, .invokevirtual 113, 3, 3, 10, 1, 520), (122, .ireturn, 1, 0, 0, 0, 0), (123, .aload_n 0, 1, 0, 0, 0, 0), (124, .aload_n 0, 1, 0, 0, 0, 0), (125, .getfield 26, 3, 432, 10, 5, 0), (128, .getfield 296, 3, 246, 2, 3, 0), (131, .iload_n 1, 1, 0, 0, 0, 0), (132, .ishr, 1, 0, 0, 0, 0), (133, .iconst 1, 1, 0, 0, 0, 0), (134, .iand, 1, 0, 0, 0, 0), (135, .invokevirtual 113, 3, 3, 10, 1, 520), (138, .ireturn, 1, 0, 0, 0, 0)]
set_option maxRecDepth 100000 in
set_option maxHeartbeats 4000000 in
theorem c_X10_element (l : Launch) (G : vg_G) (hp : vg_Hp G) : vg_Ct l G vg_sh r_X10_element := by
  refine vg_meth hp vg_sh_ok r_X10_element k_X10_element rfl (fun h => by cases h) o_X10_element [r_X10_within, r_X10_refuse, r_X2_weight, r_X10_answer] false (by decide +kernel) (by decide +kernel) ⟨_, _, rfl, rfl⟩ (List.forall_mem_cons.mpr ⟨⟨c_X10_within l G hp, Nat.le_of_ble_eq_true rfl, Nat.le_of_ble_eq_true rfl⟩, List.forall_mem_cons.mpr ⟨⟨c_X10_refuse l G hp, Nat.le_of_ble_eq_true rfl, Nat.le_of_ble_eq_true rfl⟩, List.forall_mem_cons.mpr ⟨⟨c_X2_weight l G hp, Nat.le_of_ble_eq_true rfl, Nat.le_of_ble_eq_true rfl⟩, List.forall_mem_cons.mpr ⟨⟨c_X10_answer l G hp, Nat.le_of_ble_eq_true rfl, Nat.le_of_ble_eq_true rfl⟩, fun _ h => absurd h List.not_mem_nil⟩⟩⟩⟩) (fun h => by cases h) 600 ?_
  intro as s0 hpre
  obtain ⟨r, a1, a2, rfl, hr, i0⟩ := hpre
  simp only [List.mem_cons, List.not_mem_nil, or_false] at hr
  rcases hr with rfl
  ·
    have z0 : (Int32.ofInt 0).toInt = 0 := by decide
    have z1 : (Int32.ofInt 1).toInt = 1 := by decide
    have z2 : (Int32.ofInt 2).toInt = 2 := by decide
    have z4 : (Int32.ofInt 4).toInt = 4 := by decide
    refine ⟨Nat.le_of_ble_eq_true rfl, [], ?_, fun _ h => absurd h List.not_mem_nil⟩
    ·
      refine And.intro (Nat.le_of_ble_eq_true rfl) (And.intro ⟨a2, (Int32.ofInt 0), (Int32.ofInt 4), rfl, trivial⟩ ?_)
      intro v1 s3 h2
      have h2 : s3 = s0 ∧ ((v1.toInt = 1 ∧ (Int32.ofInt 0).toInt ≤ a2.toInt ∧ a2.toInt ≤ (Int32.ofInt 4).toInt) ∨ (v1.toInt = 0 ∧ (a2.toInt < (Int32.ofInt 0).toInt ∨ (Int32.ofInt 4).toInt < a2.toInt))) := h2
      have q6 := h2.1.symm
      subst q6
      have q7 := h2.2
      refine And.intro (fun c8 => ?_) (fun c8 => ?_)
      · have c8 : ¬ v1.toInt = 0 := c8
        intro v9 e10
        have g11 : s0.1 7 0 = v9 := by rw [e10]
        have b12 : (1 : Int) ≤ v9.toInt ∧ v9.toInt ≤ 16 := by rw [e10]; exact Iv_7_0 i0
        intro v13 e14
        have b15 := vg_sub e14 (by omega) (by omega)
        refine And.intro (Nat.le_of_ble_eq_true rfl) (And.intro ⟨a1, (Int32.ofInt 0), v13, rfl, trivial⟩ ?_)
        intro v16 s18 h17
        have h17 : s18 = s0 ∧ ((v16.toInt = 1 ∧ (Int32.ofInt 0).toInt ≤ a1.toInt ∧ a1.toInt ≤ v13.toInt) ∨ (v16.toInt = 0 ∧ (a1.toInt < (Int32.ofInt 0).toInt ∨ v13.toInt < a1.toInt))) := h17
        have q21 := h17.1.symm
        subst q21
        have q22 := h17.2
        refine And.intro (fun c23 => ?_) (fun c23 => ?_)
        · have c23 : ¬ v16.toInt = 0 := c23
          refine And.intro (fun c24 => ?_) ?_
          · have c24 : a2.toInt < (0) ∨ (3) < a2.toInt := c24
            intro v25 e26
            have g27 : s0.1 7 3 = v25 := by rw [e26]
            intro v28 e29
            intro v30 e31
            have b32 := vg_and e31 (by omega)
            refine And.intro (Nat.le_of_ble_eq_true rfl) (And.intro ⟨0, v30, rfl, by decide, i0⟩ ?_)
            intro v33 s35 h34
            have h34 : Iv s35 ∧ Kp s0 s35 ∧ vk s35 = ((vk s0).1, (vk s0).2) ∧ (v33 = v30 ∧ v33.toInt = v30.toInt) := h34
            have i36 := h34.1
            have k37 : Kp s0 s35 := Kx.tr Kx.rf (h34.2.1)
            have u38 : vk s35 = ((vk s0).1, (vk s0).2) := h34.2.2.1.trans rfl
            have q39 := h34.2.2.2
            show Iv s35 ∧ Kp s0 s35 ∧ vk s35 = ((vk s0).1, (vk s0).2) ∧ (True)
            exact ⟨i36, k37, u38, (trivial)⟩
          refine And.intro (fun c40 => ?_) ?_
          · have c40 : a2.toInt = (0) := c40
            refine And.intro (Nat.le_of_ble_eq_true rfl) (And.intro ⟨7, a1, rfl, by decide, i0, by omega⟩ ?_)
            intro v41 s43 h42
            have h42 : s43 = s0 ∧ (v41 = Int32.ofInt 1000 + s0.1 8 a1.toNatClampNeg) := h42
            have q46 := h42.1.symm
            subst q46
            have q47 := h42.2
            refine And.intro (Nat.le_of_ble_eq_true rfl) (And.intro ⟨0, v41, rfl, by decide, i0⟩ ?_)
            intro v48 s50 h49
            have h49 : Iv s50 ∧ Kp s0 s50 ∧ vk s50 = ((vk s0).1, (vk s0).2) ∧ (v48 = v41 ∧ v48.toInt = v41.toInt) := h49
            have i51 := h49.1
            have k52 : Kp s0 s50 := Kx.tr Kx.rf (h49.2.1)
            have u53 : vk s50 = ((vk s0).1, (vk s0).2) := h49.2.2.1.trans rfl
            have q54 := h49.2.2.2
            show Iv s50 ∧ Kp s0 s50 ∧ vk s50 = ((vk s0).1, (vk s0).2) ∧ (True)
            exact ⟨i51, k52, u53, (trivial)⟩
          refine And.intro (fun c55 => ?_) ?_
          · have c55 : a2.toInt = (1) := c55
            refine And.intro ⟨by omega, by omega⟩ ?_
            intro v56 e57
            refine And.intro (Nat.le_of_ble_eq_true rfl) (And.intro ⟨0, v56, rfl, by decide, i0⟩ ?_)
            intro v58 s60 h59
            have h59 : Iv s60 ∧ Kp s0 s60 ∧ vk s60 = ((vk s0).1, (vk s0).2) ∧ (v58 = v56 ∧ v58.toInt = v56.toInt) := h59
            have i61 := h59.1
            have k62 : Kp s0 s60 := Kx.tr Kx.rf (h59.2.1)
            have u63 : vk s60 = ((vk s0).1, (vk s0).2) := h59.2.2.1.trans rfl
            have q64 := h59.2.2.2
            show Iv s60 ∧ Kp s0 s60 ∧ vk s60 = ((vk s0).1, (vk s0).2) ∧ (True)
            exact ⟨i61, k62, u63, (trivial)⟩
          refine And.intro (fun c65 => ?_) ?_
          · have c65 : a2.toInt = (2) := c65
            refine And.intro ⟨by omega, by omega⟩ ?_
            intro v66 e67
            refine And.intro (Nat.le_of_ble_eq_true rfl) (And.intro ⟨0, v66, rfl, by decide, i0⟩ ?_)
            intro v68 s70 h69
            have h69 : Iv s70 ∧ Kp s0 s70 ∧ vk s70 = ((vk s0).1, (vk s0).2) ∧ (v68 = v66 ∧ v68.toInt = v66.toInt) := h69
            have i71 := h69.1
            have k72 : Kp s0 s70 := Kx.tr Kx.rf (h69.2.1)
            have u73 : vk s70 = ((vk s0).1, (vk s0).2) := h69.2.2.1.trans rfl
            have q74 := h69.2.2.2
            show Iv s70 ∧ Kp s0 s70 ∧ vk s70 = ((vk s0).1, (vk s0).2) ∧ (True)
            exact ⟨i71, k72, u73, (trivial)⟩
          refine And.intro (fun c75 => ?_) ?_
          · have c75 : a2.toInt = (3) := c75
            refine And.intro ⟨by omega, by omega⟩ ?_
            intro v76 e77
            refine And.intro (Nat.le_of_ble_eq_true rfl) (And.intro ⟨0, v76, rfl, by decide, i0⟩ ?_)
            intro v78 s80 h79
            have h79 : Iv s80 ∧ Kp s0 s80 ∧ vk s80 = ((vk s0).1, (vk s0).2) ∧ (v78 = v76 ∧ v78.toInt = v76.toInt) := h79
            have i81 := h79.1
            have k82 : Kp s0 s80 := Kx.tr Kx.rf (h79.2.1)
            have u83 : vk s80 = ((vk s0).1, (vk s0).2) := h79.2.2.1.trans rfl
            have q84 := h79.2.2.2
            show Iv s80 ∧ Kp s0 s80 ∧ vk s80 = ((vk s0).1, (vk s0).2) ∧ (True)
            exact ⟨i81, k82, u83, (trivial)⟩
          exact trivial
        · have c23 : ¬ (¬ v16.toInt = 0) := c23
          refine And.intro (Nat.le_of_ble_eq_true rfl) (And.intro ⟨0, (Int32.ofInt 2), rfl, by decide, i0⟩ ?_)
          intro v85 s87 h86
          have h86 : Iv s87 ∧ Kp s0 s87 ∧ vk s87 = ((vk s0).1, (vk s0).2) ∧ (v85.toInt = -1) := h86
          have i88 := h86.1
          have k89 : Kp s0 s87 := Kx.tr Kx.rf (h86.2.1)
          have u90 : vk s87 = ((vk s0).1, (vk s0).2) := h86.2.2.1.trans rfl
          have q91 := h86.2.2.2
          show Iv s87 ∧ Kp s0 s87 ∧ vk s87 = ((vk s0).1, (vk s0).2) ∧ (True)
          exact ⟨i88, k89, u90, (trivial)⟩
      · have c8 : ¬ (¬ v1.toInt = 0) := c8
        refine And.intro (Nat.le_of_ble_eq_true rfl) (And.intro ⟨0, (Int32.ofInt 1), rfl, by decide, i0⟩ ?_)
        intro v92 s94 h93
        have h93 : Iv s94 ∧ Kp s0 s94 ∧ vk s94 = ((vk s0).1, (vk s0).2) ∧ (v92.toInt = -1) := h93
        have i95 := h93.1
        have k96 : Kp s0 s94 := Kx.tr Kx.rf (h93.2.1)
        have u97 : vk s94 = ((vk s0).1, (vk s0).2) := h93.2.2.1.trans rfl
        have q98 := h93.2.2.2
        show Iv s94 ∧ Kp s0 s94 ∧ vk s94 = ((vk s0).1, (vk s0).2) ∧ (True)
        exact ⟨i95, k96, u97, (trivial)⟩
def o_X10_spread : List vg_I := [(0, .aload_n 0, 1, 0, 0, 0, 0), (1, .aload_n 0, 1, 0, 0, 0, 0), (2, .getfield 26, 3, 432, 10, 5, 0), (5, .invokevirtual 299, 3, 0, 2, 0, 857), (8, .invokevirtual 113, 3, 1, 10, 1, 520), (11, .ireturn, 1, 0, 0, 0, 0)]
set_option maxRecDepth 100000 in
set_option maxHeartbeats 4000000 in
theorem c_X10_spread (l : Launch) (G : vg_G) (hp : vg_Hp G) : vg_Ct l G vg_sh r_X10_spread := by
  refine vg_meth hp vg_sh_ok r_X10_spread k_X10_spread rfl (fun h => by cases h) o_X10_spread [r_X2_unevenness, r_X10_answer] false (by decide +kernel) (by decide +kernel) ⟨_, _, rfl, rfl⟩ (List.forall_mem_cons.mpr ⟨⟨c_X2_unevenness l G hp, Nat.le_of_ble_eq_true rfl, Nat.le_of_ble_eq_true rfl⟩, List.forall_mem_cons.mpr ⟨⟨c_X10_answer l G hp, Nat.le_of_ble_eq_true rfl, Nat.le_of_ble_eq_true rfl⟩, fun _ h => absurd h List.not_mem_nil⟩⟩) (fun h => by cases h) 600 ?_
  intro as s0 hpre
  obtain ⟨r, rfl, hr, i0⟩ := hpre
  simp only [List.mem_cons, List.not_mem_nil, or_false] at hr
  rcases hr with rfl
  ·
    refine ⟨Nat.le_of_ble_eq_true rfl, [], ?_, fun _ h => absurd h List.not_mem_nil⟩
    ·
      refine And.intro (Nat.le_of_ble_eq_true rfl) (And.intro ⟨7, rfl, by decide, i0⟩ ?_)
      intro v1 s3 h2
      have h2 : s3 = s0 ∧ (True) := h2
      have q6 := h2.1.symm
      subst q6
      refine And.intro (Nat.le_of_ble_eq_true rfl) (And.intro ⟨0, v1, rfl, by decide, i0⟩ ?_)
      intro v7 s9 h8
      have h8 : Iv s9 ∧ Kp s0 s9 ∧ vk s9 = ((vk s0).1, (vk s0).2) ∧ (v7 = v1 ∧ v7.toInt = v1.toInt) := h8
      have i10 := h8.1
      have k11 : Kp s0 s9 := Kx.tr Kx.rf (h8.2.1)
      have u12 : vk s9 = ((vk s0).1, (vk s0).2) := h8.2.2.1.trans rfl
      have q13 := h8.2.2.2
      show Iv s9 ∧ Kp s0 s9 ∧ vk s9 = ((vk s0).1, (vk s0).2) ∧ (True)
      exact ⟨i10, k11, u12, (trivial)⟩
def o_X10_combed : List vg_I := [(0, .iload_n 1, 1, 0, 0, 0, 0), (1, .iconst 0, 1, 0, 0, 0, 0), (2, .iconst 4, 1, 0, 0, 0, 0), (3, .invokestatic 82, 3, 0, 1, 3, 478), (6, .ifCond .ne 9, 3, 0, 0, 0, 0), (9, .aload_n 0, 1, 0, 0, 0, 0), (10, .iconst 1, 1, 0, 0, 0, 0), (11, .invokevirtual 90, 3, 1, 10, 1, 484), (14, .ireturn, 1, 0, 0, 0, 0), (15, .iload_n 1, 1, 0, 0, 0, 0), (16, .aload_n 0, 1, 0, 0, 0, 0), (17, .getfield 33, 3, 433, 10, 6, 0), (20, .getfield 166, 3, 291, 1, 0, 0), (23, .if_icmp .lt 9, 3, 0, 0, 0, 0), (26, .aload_n 0, 1, 0, 0, 0, 0), (27, .iconst 5, 1, 0, 0, 0, 0), (28, .invokevirtual 90, 3, 1, 10, 1, 484), (31, .ireturn, 1, 0, 0, 0, 0), (32, .aload_n 0, 1, 0, 0, 0, 0), (33, .aload_n 0, 1, 0, 0, 0, 0), (34, .getfield 33, 3, 433, 10, 6, 0), (37, .aload_n 0, 1, 0, 0, 0, 0), (38, .getfield 33, 3, 433, 10, 6, 0), (41, .getfield 302, 3, 298, 1, 4, 0), (44, .iload_n 1, 1, 0, 0, 0, 0), (45, .laload, 1, 0, 0, 0, 0), (46, .invokevirtual 306, 3, 2, 1, 1, 867), (49, .invokevirtual 113, 3, 3, 10, 1, 520), (52, .ireturn, 1, 0, 0, 0, 0)]
set_option maxRecDepth 100000 in
set_option maxHeartbeats 4000000 in
theorem c_X10_combed (l : Launch) (G : vg_G) (hp : vg_Hp G) : vg_Ct l G vg_sh r_X10_combed := by
  refine vg_meth hp vg_sh_ok r_X10_combed k_X10_combed rfl (fun h => by cases h) o_X10_combed [r_X10_within, r_X10_refuse, r_X1_cut, r_X10_answer] false (by decide +kernel) (by decide +kernel) ⟨_, _, rfl, rfl⟩ (List.forall_mem_cons.mpr ⟨⟨c_X10_within l G hp, Nat.le_of_ble_eq_true rfl, Nat.le_of_ble_eq_true rfl⟩, List.forall_mem_cons.mpr ⟨⟨c_X10_refuse l G hp, Nat.le_of_ble_eq_true rfl, Nat.le_of_ble_eq_true rfl⟩, List.forall_mem_cons.mpr ⟨⟨c_X1_cut l G hp, Nat.le_of_ble_eq_true rfl, Nat.le_of_ble_eq_true rfl⟩, List.forall_mem_cons.mpr ⟨⟨c_X10_answer l G hp, Nat.le_of_ble_eq_true rfl, Nat.le_of_ble_eq_true rfl⟩, fun _ h => absurd h List.not_mem_nil⟩⟩⟩⟩) (fun h => by cases h) 600 ?_
  intro as s0 hpre
  obtain ⟨r, a1, rfl, hr, i0⟩ := hpre
  simp only [List.mem_cons, List.not_mem_nil, or_false] at hr
  rcases hr with rfl
  ·
    have z0 : (Int32.ofInt 0).toInt = 0 := by decide
    have z1 : (Int32.ofInt 1).toInt = 1 := by decide
    have z4 : (Int32.ofInt 4).toInt = 4 := by decide
    have z5 : (Int32.ofInt 5).toInt = 5 := by decide
    refine ⟨Nat.le_of_ble_eq_true rfl, [], ?_, fun _ h => absurd h List.not_mem_nil⟩
    ·
      refine And.intro (Nat.le_of_ble_eq_true rfl) (And.intro ⟨a1, (Int32.ofInt 0), (Int32.ofInt 4), rfl, trivial⟩ ?_)
      intro v1 s3 h2
      have h2 : s3 = s0 ∧ ((v1.toInt = 1 ∧ (Int32.ofInt 0).toInt ≤ a1.toInt ∧ a1.toInt ≤ (Int32.ofInt 4).toInt) ∨ (v1.toInt = 0 ∧ (a1.toInt < (Int32.ofInt 0).toInt ∨ (Int32.ofInt 4).toInt < a1.toInt))) := h2
      have q6 := h2.1.symm
      subst q6
      have q7 := h2.2
      refine And.intro (fun c8 => ?_) (fun c8 => ?_)
      · have c8 : ¬ v1.toInt = 0 := c8
        intro v9 e10
        have g11 : s0.1 12 0 = v9 := by rw [e10]
        have b12 : (1 : Int) ≤ v9.toInt ∧ v9.toInt ≤ 5 := by rw [e10]; exact Iv_12_0 i0
        refine And.intro (fun c13 => ?_) (fun c13 => ?_)
        · have c13 : a1.toInt < v9.toInt := c13
          refine And.intro ⟨by omega, by omega⟩ ?_
          intro v14 e15
          refine And.intro (Nat.le_of_ble_eq_true rfl) (And.intro ⟨12, v14, rfl, by decide, i0⟩ ?_)
          intro v16 s18 h17
          have h17 : s18 = s0 ∧ (True) := h17
          have q21 := h17.1.symm
          subst q21
          refine And.intro (Nat.le_of_ble_eq_true rfl) (And.intro ⟨0, v16, rfl, by decide, i0⟩ ?_)
          intro v22 s24 h23
          have h23 : Iv s24 ∧ Kp s0 s24 ∧ vk s24 = ((vk s0).1, (vk s0).2) ∧ (v22 = v16 ∧ v22.toInt = v16.toInt) := h23
          have i25 := h23.1
          have k26 : Kp s0 s24 := Kx.tr Kx.rf (h23.2.1)
          have u27 : vk s24 = ((vk s0).1, (vk s0).2) := h23.2.2.1.trans rfl
          have q28 := h23.2.2.2
          show Iv s24 ∧ Kp s0 s24 ∧ vk s24 = ((vk s0).1, (vk s0).2) ∧ (True)
          exact ⟨i25, k26, u27, (trivial)⟩
        · have c13 : ¬ (a1.toInt < v9.toInt) := c13
          refine And.intro (Nat.le_of_ble_eq_true rfl) (And.intro ⟨0, (Int32.ofInt 5), rfl, by decide, i0⟩ ?_)
          intro v29 s31 h30
          have h30 : Iv s31 ∧ Kp s0 s31 ∧ vk s31 = ((vk s0).1, (vk s0).2) ∧ (v29.toInt = -1) := h30
          have i32 := h30.1
          have k33 : Kp s0 s31 := Kx.tr Kx.rf (h30.2.1)
          have u34 : vk s31 = ((vk s0).1, (vk s0).2) := h30.2.2.1.trans rfl
          have q35 := h30.2.2.2
          show Iv s31 ∧ Kp s0 s31 ∧ vk s31 = ((vk s0).1, (vk s0).2) ∧ (True)
          exact ⟨i32, k33, u34, (trivial)⟩
      · have c8 : ¬ (¬ v1.toInt = 0) := c8
        refine And.intro (Nat.le_of_ble_eq_true rfl) (And.intro ⟨0, (Int32.ofInt 1), rfl, by decide, i0⟩ ?_)
        intro v36 s38 h37
        have h37 : Iv s38 ∧ Kp s0 s38 ∧ vk s38 = ((vk s0).1, (vk s0).2) ∧ (v36.toInt = -1) := h37
        have i39 := h37.1
        have k40 : Kp s0 s38 := Kx.tr Kx.rf (h37.2.1)
        have u41 : vk s38 = ((vk s0).1, (vk s0).2) := h37.2.2.1.trans rfl
        have q42 := h37.2.2.2
        show Iv s38 ∧ Kp s0 s38 ∧ vk s38 = ((vk s0).1, (vk s0).2) ∧ (True)
        exact ⟨i39, k40, u41, (trivial)⟩
def o_X10_wrong : List vg_I := [(0, .iload_n 1, 1, 0, 0, 0, 0), (1, .iconst 0, 1, 0, 0, 0, 0), (2, .iconst 1, 1, 0, 0, 0, 0), (3, .invokestatic 82, 3, 0, 1, 3, 478), (6, .ifCond .ne 10, 3, 0, 0, 0, 0), (9, .aload_n 0, 1, 0, 0, 0, 0), (10, .iconst 1, 1, 0, 0, 0, 0), (11, .invokevirtual 90, 3, 1, 10, 1, 484), (14, .i2l, 1, 0, 0, 0, 0), (15, .lreturn, 1, 0, 0, 0, 0), (16, .iload_n 1, 1, 0, 0, 0, 0), (17, .ifCond .ne 16, 3, 0, 0, 0, 0), (20, .aload_n 0, 1, 0, 0, 0, 0), (21, .aload_n 0, 1, 0, 0, 0, 0), (22, .getfield 33, 3, 433, 10, 6, 0), (25, .getfield 310, 3, 302, 1, 7, 0), (28, .i2l, 1, 0, 0, 0, 0), (29, .invokevirtual 239, 3, 2, 10, 1, 800), (32, .lreturn, 1, 0, 0, 0, 0), (33, .aload_n 0, 1, 0, 0, 0, 0), (34, .getfield 52, 3, 436, 10, 9, 0), (37, .iconst 3, 1, 0, 0, 0, 0), (38, .aaload, 1, 0, 0, 0, 0), (39, .getfield 207, 3, 417, 4, 3, 0), (42, .ifCond .ne 10, 3, 0, 0, 0, 0), (45, .aload_n 0, 1, 0, 0, 0, 0), (46, .iconst 5, 1, 0, 0, 0, 0), (47, .invokevirtual 90, 3, 1, 10, 1, 484), (50, .i2l, 1, 0, 0, 0, 0), (51, .lreturn, 1, 0, 0, 0, 0), (52, .aload_n 0, 1, 0, 0, 0, 0), (53, .aload_n 0, 1, 0, 0, 0, 0), (54, .getfield 33, 3, 433, 10, 6, 0), (57, .getfield 313, 3, 304, 1, 8, 0), (60, .aload_n 0, 1, 0, 0, 0, 0), (61, .getfield 33, 3, 433, 10, 6, 0), (64, .invokevirtual 316, 3, 3, 1, 0, 762), (67, .i2l, 1, 0, 0, 0, 0), (68, .lsub, 1, 0, 0, 0, 0), (69, .invokevirtual 239, 3, 2, 10, 1, 800), (72, .lreturn, 1, 0, 0, 0, 0)]
set_option maxRecDepth 100000 in
set_option maxHeartbeats 4000000 in
theorem c_X10_wrong (l : Launch) (G : vg_G) (hp : vg_Hp G) : vg_Ct l G vg_sh r_X10_wrong := by
  refine vg_meth hp vg_sh_ok r_X10_wrong k_X10_wrong rfl (fun h => by cases h) o_X10_wrong [r_X10_within, r_X10_refuse, r_X10_answerLong, r_X1_number] false (by decide +kernel) (by decide +kernel) ⟨_, _, rfl, rfl⟩ (List.forall_mem_cons.mpr ⟨⟨c_X10_within l G hp, Nat.le_of_ble_eq_true rfl, Nat.le_of_ble_eq_true rfl⟩, List.forall_mem_cons.mpr ⟨⟨c_X10_refuse l G hp, Nat.le_of_ble_eq_true rfl, Nat.le_of_ble_eq_true rfl⟩, List.forall_mem_cons.mpr ⟨⟨c_X10_answerLong l G hp, Nat.le_of_ble_eq_true rfl, Nat.le_of_ble_eq_true rfl⟩, List.forall_mem_cons.mpr ⟨⟨c_X1_number l G hp, Nat.le_of_ble_eq_true rfl, Nat.le_of_ble_eq_true rfl⟩, fun _ h => absurd h List.not_mem_nil⟩⟩⟩⟩) (fun h => by cases h) 600 ?_
  intro as s0 hpre
  obtain ⟨r, a1, rfl, hr, i0⟩ := hpre
  simp only [List.mem_cons, List.not_mem_nil, or_false] at hr
  rcases hr with rfl
  ·
    have z0 : (Int32.ofInt 0).toInt = 0 := by decide
    have z1 : (Int32.ofInt 1).toInt = 1 := by decide
    have z3 : (Int32.ofInt 3).toInt = 3 := by decide
    have z5 : (Int32.ofInt 5).toInt = 5 := by decide
    refine ⟨Nat.le_of_ble_eq_true rfl, [], ?_, fun _ h => absurd h List.not_mem_nil⟩
    ·
      refine And.intro (Nat.le_of_ble_eq_true rfl) (And.intro ⟨a1, (Int32.ofInt 0), (Int32.ofInt 1), rfl, trivial⟩ ?_)
      intro v1 s3 h2
      have h2 : s3 = s0 ∧ ((v1.toInt = 1 ∧ (Int32.ofInt 0).toInt ≤ a1.toInt ∧ a1.toInt ≤ (Int32.ofInt 1).toInt) ∨ (v1.toInt = 0 ∧ (a1.toInt < (Int32.ofInt 0).toInt ∨ (Int32.ofInt 1).toInt < a1.toInt))) := h2
      have q6 := h2.1.symm
      subst q6
      have q7 := h2.2
      refine And.intro (fun c8 => ?_) (fun c8 => ?_)
      · have c8 : ¬ v1.toInt = 0 := c8
        refine And.intro (fun c9 => ?_) (fun c9 => ?_)
        · have c9 : ¬ a1.toInt = 0 := c9
          refine And.intro rfl (And.intro ⟨by omega, by omega⟩ ?_)
          refine And.intro (fun c10 => ?_) ?_
          · have c10 : (Int32.ofInt 3).toInt = (0) := c10
            exfalso
            omega
          refine And.intro (fun c11 => ?_) ?_
          · have c11 : (Int32.ofInt 3).toInt = (1) := c11
            exfalso
            omega
          refine And.intro (fun c12 => ?_) ?_
          · have c12 : (Int32.ofInt 3).toInt = (2) := c12
            exfalso
            omega
          refine And.intro (fun c13 => ?_) ?_
          · have c13 : (Int32.ofInt 3).toInt = (3) := c13
            intro v14 e15
            have g16 : s0.1 47 3 = v14 := by rw [e15]
            refine And.intro (fun c17 => ?_) (fun c17 => ?_)
            · have c17 : ¬ v14.toInt = 0 := c17
              intro v18 e19
              refine And.intro (Nat.le_of_ble_eq_true rfl) (And.intro ⟨12, rfl, by decide, i0⟩ ?_)
              intro v20 s22 h21
              have h21 : s22 = s0 ∧ (True) := h21
              have q25 := h21.1.symm
              subst q25
              intro v26 e27
              intro v28 e29
              refine And.intro (Nat.le_of_ble_eq_true rfl) (And.intro ⟨0, v28, rfl, by decide, i0⟩ ?_)
              intro v30 s32 h31
              have h31 : Iv s32 ∧ Kp s0 s32 ∧ vk s32 = ((vk s0).1, (vk s0).2) ∧ (v30 = v28) := h31
              have i33 := h31.1
              have k34 : Kp s0 s32 := Kx.tr Kx.rf (h31.2.1)
              have u35 : vk s32 = ((vk s0).1, (vk s0).2) := h31.2.2.1.trans rfl
              have q36 := h31.2.2.2
              show Iv s32 ∧ Kp s0 s32 ∧ vk s32 = ((vk s0).1, (vk s0).2) ∧ (True)
              exact ⟨i33, k34, u35, (trivial)⟩
            · have c17 : ¬ (¬ v14.toInt = 0) := c17
              refine And.intro (Nat.le_of_ble_eq_true rfl) (And.intro ⟨0, (Int32.ofInt 5), rfl, by decide, i0⟩ ?_)
              intro v37 s39 h38
              have h38 : Iv s39 ∧ Kp s0 s39 ∧ vk s39 = ((vk s0).1, (vk s0).2) ∧ (v37.toInt = -1) := h38
              have i40 := h38.1
              have k41 : Kp s0 s39 := Kx.tr Kx.rf (h38.2.1)
              have u42 : vk s39 = ((vk s0).1, (vk s0).2) := h38.2.2.1.trans rfl
              have q43 := h38.2.2.2
              intro v44 e45
              show Iv s39 ∧ Kp s0 s39 ∧ vk s39 = ((vk s0).1, (vk s0).2) ∧ (True)
              exact ⟨i40, k41, u42, (trivial)⟩
          refine And.intro (fun c46 => ?_) ?_
          · have c46 : (Int32.ofInt 3).toInt = (4) := c46
            exfalso
            omega
          refine And.intro (fun c47 => ?_) ?_
          · have c47 : (Int32.ofInt 3).toInt = (5) := c47
            exfalso
            omega
          refine And.intro (fun c48 => ?_) ?_
          · have c48 : (Int32.ofInt 3).toInt = (6) := c48
            exfalso
            omega
          exact trivial
        · have c9 : ¬ (¬ a1.toInt = 0) := c9
          intro v49 e50
          have g51 : s0.1 12 7 = v49 := by rw [e50]
          intro v52 e53
          refine And.intro (Nat.le_of_ble_eq_true rfl) (And.intro ⟨0, v52, rfl, by decide, i0⟩ ?_)
          intro v54 s56 h55
          have h55 : Iv s56 ∧ Kp s0 s56 ∧ vk s56 = ((vk s0).1, (vk s0).2) ∧ (v54 = v52) := h55
          have i57 := h55.1
          have k58 : Kp s0 s56 := Kx.tr Kx.rf (h55.2.1)
          have u59 : vk s56 = ((vk s0).1, (vk s0).2) := h55.2.2.1.trans rfl
          have q60 := h55.2.2.2
          show Iv s56 ∧ Kp s0 s56 ∧ vk s56 = ((vk s0).1, (vk s0).2) ∧ (True)
          exact ⟨i57, k58, u59, (trivial)⟩
      · have c8 : ¬ (¬ v1.toInt = 0) := c8
        refine And.intro (Nat.le_of_ble_eq_true rfl) (And.intro ⟨0, (Int32.ofInt 1), rfl, by decide, i0⟩ ?_)
        intro v61 s63 h62
        have h62 : Iv s63 ∧ Kp s0 s63 ∧ vk s63 = ((vk s0).1, (vk s0).2) ∧ (v61.toInt = -1) := h62
        have i64 := h62.1
        have k65 : Kp s0 s63 := Kx.tr Kx.rf (h62.2.1)
        have u66 : vk s63 = ((vk s0).1, (vk s0).2) := h62.2.2.1.trans rfl
        have q67 := h62.2.2.2
        intro v68 e69
        show Iv s63 ∧ Kp s0 s63 ∧ vk s63 = ((vk s0).1, (vk s0).2) ∧ (True)
        exact ⟨i64, k65, u66, (trivial)⟩
def o_X10_beat : List vg_I := [(0, .iload_n 2, 1, 0, 0, 0, 0), (1, .iconst 0, 1, 0, 0, 0, 0), (2, .bipush 47, 2, 0, 0, 0, 0), (4, .invokestatic 82, 3, 0, 1, 3, 478), (7, .ifCond .ne 10, 3, 0, 0, 0, 0), (10, .aload_n 0, 1, 0, 0, 0, 0), (11, .iconst 1, 1, 0, 0, 0, 0), (12, .invokevirtual 90, 3, 1, 10, 1, 484), (15, .i2l, 1, 0, 0, 0, 0), (16, .lreturn, 1, 0, 0, 0, 0), (17, .iload_n 1, 1, 0, 0, 0, 0), (18, .iconst 0, 1, 0, 0, 0, 0), (19, .iconst 2, 1, 0, 0, 0, 0), (20, .invokestatic 82, 3, 0, 1, 3, 478), (23, .ifCond .ne 10, 3, 0, 0, 0, 0), (26, .aload_n 0, 1, 0, 0, 0, 0), (27, .iconst 2, 1, 0, 0, 0, 0), (28, .invokevirtual 90, 3, 1, 10, 1, 484), (31, .i2l, 1, 0, 0, 0, 0), (32, .lreturn, 1, 0, 0, 0, 0), (33, .aload_n 0, 1, 0, 0, 0, 0), (34, .getfield 52, 3, 436, 10, 9, 0), (37, .iload_n 1, 1, 0, 0, 0, 0), (38, .aaload, 1, 0, 0, 0, 0), (39, .getfield 210, 3, 415, 4, 2, 0), (42, .iload_n 2, 1, 0, 0, 0, 0), (43, .if_icmp .gt 10, 3, 0, 0, 0, 0), (46, .aload_n 0, 1, 0, 0, 0, 0), (47, .iconst 5, 1, 0, 0, 0, 0), (48, .invokevirtual 90, 3, 1, 10, 1, 484), (51, .i2l, 1, 0, 0, 0, 0), (52, .lreturn, 1, 0, 0, 0, 0), (53, .aload_n 0, 1, 0, 0, 0, 0), (54, .aload_n 0, 1, 0, 0, 0, 0), (55, .getfield 52, 3, 436, 10, 9, 0), (58, .iload_n 1, 1, 0, 0, 0, 0), (59, .aaload, 1, 0, 0, 0, 0), (60, .iload_n 2, 1, 0, 0, 0, 0), (61, .invokevirtual 338, 3, 2, 4, 1, 923), (64, .invokevirtual 239, 3, 3, 10, 1, 800), (67, .lreturn, 1, 0, 0, 0, 0)]
set_option maxRecDepth 100000 in
set_option maxHeartbeats 4000000 in
theorem c_X10_beat (l : Launch) (G : vg_G) (hp : vg_Hp G) : vg_Ct l G vg_sh r_X10_beat := by
  refine vg_meth hp vg_sh_ok r_X10_beat k_X10_beat rfl (fun h => by cases h) o_X10_beat [r_X10_within, r_X10_refuse, r_X4_beatOf, r_X10_answerLong] false (by decide +kernel) (by decide +kernel) ⟨_, _, rfl, rfl⟩ (List.forall_mem_cons.mpr ⟨⟨c_X10_within l G hp, Nat.le_of_ble_eq_true rfl, Nat.le_of_ble_eq_true rfl⟩, List.forall_mem_cons.mpr ⟨⟨c_X10_refuse l G hp, Nat.le_of_ble_eq_true rfl, Nat.le_of_ble_eq_true rfl⟩, List.forall_mem_cons.mpr ⟨⟨c_X4_beatOf l G hp, Nat.le_of_ble_eq_true rfl, Nat.le_of_ble_eq_true rfl⟩, List.forall_mem_cons.mpr ⟨⟨c_X10_answerLong l G hp, Nat.le_of_ble_eq_true rfl, Nat.le_of_ble_eq_true rfl⟩, fun _ h => absurd h List.not_mem_nil⟩⟩⟩⟩) (fun h => by cases h) 600 ?_
  intro as s0 hpre
  obtain ⟨r, a1, a2, rfl, hr, i0⟩ := hpre
  simp only [List.mem_cons, List.not_mem_nil, or_false] at hr
  rcases hr with rfl
  ·
    have z0 : (Int32.ofInt 0).toInt = 0 := by decide
    have z1 : (Int32.ofInt 1).toInt = 1 := by decide
    have z2 : (Int32.ofInt 2).toInt = 2 := by decide
    have z5 : (Int32.ofInt 5).toInt = 5 := by decide
    have z47 : (Int32.ofInt 47).toInt = 47 := by decide
    refine ⟨Nat.le_of_ble_eq_true rfl, [], ?_, fun _ h => absurd h List.not_mem_nil⟩
    ·
      refine And.intro (Nat.le_of_ble_eq_true rfl) (And.intro ⟨a2, (Int32.ofInt 0), (Int32.ofInt 47), rfl, trivial⟩ ?_)
      intro v1 s3 h2
      have h2 : s3 = s0 ∧ ((v1.toInt = 1 ∧ (Int32.ofInt 0).toInt ≤ a2.toInt ∧ a2.toInt ≤ (Int32.ofInt 47).toInt) ∨ (v1.toInt = 0 ∧ (a2.toInt < (Int32.ofInt 0).toInt ∨ (Int32.ofInt 47).toInt < a2.toInt))) := h2
      have q6 := h2.1.symm
      subst q6
      have q7 := h2.2
      refine And.intro (fun c8 => ?_) (fun c8 => ?_)
      · have c8 : ¬ v1.toInt = 0 := c8
        refine And.intro (Nat.le_of_ble_eq_true rfl) (And.intro ⟨a1, (Int32.ofInt 0), (Int32.ofInt 2), rfl, trivial⟩ ?_)
        intro v9 s11 h10
        have h10 : s11 = s0 ∧ ((v9.toInt = 1 ∧ (Int32.ofInt 0).toInt ≤ a1.toInt ∧ a1.toInt ≤ (Int32.ofInt 2).toInt) ∨ (v9.toInt = 0 ∧ (a1.toInt < (Int32.ofInt 0).toInt ∨ (Int32.ofInt 2).toInt < a1.toInt))) := h10
        have q14 := h10.1.symm
        subst q14
        have q15 := h10.2
        refine And.intro (fun c16 => ?_) (fun c16 => ?_)
        · have c16 : ¬ v9.toInt = 0 := c16
          refine And.intro rfl (And.intro ⟨by omega, by omega⟩ ?_)
          refine And.intro (fun c17 => ?_) ?_
          · have c17 : a1.toInt = (0) := c17
            intro v18 e19
            have g20 : s0.1 41 2 = v18 := by rw [e19]
            have b21 : (0 : Int) ≤ v18.toInt ∧ v18.toInt ≤ 48 := by rw [e19]; exact Iv_41_2 i0
            refine And.intro (fun c22 => ?_) (fun c22 => ?_)
            · have c22 : a2.toInt < v18.toInt := c22
              refine And.intro rfl (And.intro ⟨by omega, by omega⟩ ?_)
              refine And.intro (fun c23 => ?_) ?_
              · have c23 : a1.toInt = (0) := c23
                refine And.intro (Nat.le_of_ble_eq_true rfl) (And.intro ⟨41, a2, rfl, by decide, i0, by omega⟩ ?_)
                intro v24 s26 h25
                have h25 : s26 = s0 ∧ (True) := h25
                have q29 := h25.1.symm
                subst q29
                refine And.intro (Nat.le_of_ble_eq_true rfl) (And.intro ⟨0, v24, rfl, by decide, i0⟩ ?_)
                intro v30 s32 h31
                have h31 : Iv s32 ∧ Kp s0 s32 ∧ vk s32 = ((vk s0).1, (vk s0).2) ∧ (v30 = v24) := h31
                have i33 := h31.1
                have k34 : Kp s0 s32 := Kx.tr Kx.rf (h31.2.1)
                have u35 : vk s32 = ((vk s0).1, (vk s0).2) := h31.2.2.1.trans rfl
                have q36 := h31.2.2.2
                show Iv s32 ∧ Kp s0 s32 ∧ vk s32 = ((vk s0).1, (vk s0).2) ∧ (True)
                exact ⟨i33, k34, u35, (trivial)⟩
              refine And.intro (fun c37 => ?_) ?_
              · have c37 : a1.toInt = (1) := c37
                exfalso
                omega
              refine And.intro (fun c38 => ?_) ?_
              · have c38 : a1.toInt = (2) := c38
                exfalso
                omega
              refine And.intro (fun c39 => ?_) ?_
              · have c39 : a1.toInt = (3) := c39
                exfalso
                omega
              refine And.intro (fun c40 => ?_) ?_
              · have c40 : a1.toInt = (4) := c40
                exfalso
                omega
              refine And.intro (fun c41 => ?_) ?_
              · have c41 : a1.toInt = (5) := c41
                exfalso
                omega
              refine And.intro (fun c42 => ?_) ?_
              · have c42 : a1.toInt = (6) := c42
                exfalso
                omega
              exact trivial
            · have c22 : ¬ (a2.toInt < v18.toInt) := c22
              refine And.intro (Nat.le_of_ble_eq_true rfl) (And.intro ⟨0, (Int32.ofInt 5), rfl, by decide, i0⟩ ?_)
              intro v43 s45 h44
              have h44 : Iv s45 ∧ Kp s0 s45 ∧ vk s45 = ((vk s0).1, (vk s0).2) ∧ (v43.toInt = -1) := h44
              have i46 := h44.1
              have k47 : Kp s0 s45 := Kx.tr Kx.rf (h44.2.1)
              have u48 : vk s45 = ((vk s0).1, (vk s0).2) := h44.2.2.1.trans rfl
              have q49 := h44.2.2.2
              intro v50 e51
              show Iv s45 ∧ Kp s0 s45 ∧ vk s45 = ((vk s0).1, (vk s0).2) ∧ (True)
              exact ⟨i46, k47, u48, (trivial)⟩
          refine And.intro (fun c52 => ?_) ?_
          · have c52 : a1.toInt = (1) := c52
            intro v53 e54
            have g55 : s0.1 43 2 = v53 := by rw [e54]
            have b56 : (0 : Int) ≤ v53.toInt ∧ v53.toInt ≤ 48 := by rw [e54]; exact Iv_43_2 i0
            refine And.intro (fun c57 => ?_) (fun c57 => ?_)
            · have c57 : a2.toInt < v53.toInt := c57
              refine And.intro rfl (And.intro ⟨by omega, by omega⟩ ?_)
              refine And.intro (fun c58 => ?_) ?_
              · have c58 : a1.toInt = (0) := c58
                exfalso
                omega
              refine And.intro (fun c59 => ?_) ?_
              · have c59 : a1.toInt = (1) := c59
                refine And.intro (Nat.le_of_ble_eq_true rfl) (And.intro ⟨43, a2, rfl, by decide, i0, by omega⟩ ?_)
                intro v60 s62 h61
                have h61 : s62 = s0 ∧ (True) := h61
                have q65 := h61.1.symm
                subst q65
                refine And.intro (Nat.le_of_ble_eq_true rfl) (And.intro ⟨0, v60, rfl, by decide, i0⟩ ?_)
                intro v66 s68 h67
                have h67 : Iv s68 ∧ Kp s0 s68 ∧ vk s68 = ((vk s0).1, (vk s0).2) ∧ (v66 = v60) := h67
                have i69 := h67.1
                have k70 : Kp s0 s68 := Kx.tr Kx.rf (h67.2.1)
                have u71 : vk s68 = ((vk s0).1, (vk s0).2) := h67.2.2.1.trans rfl
                have q72 := h67.2.2.2
                show Iv s68 ∧ Kp s0 s68 ∧ vk s68 = ((vk s0).1, (vk s0).2) ∧ (True)
                exact ⟨i69, k70, u71, (trivial)⟩
              refine And.intro (fun c73 => ?_) ?_
              · have c73 : a1.toInt = (2) := c73
                exfalso
                omega
              refine And.intro (fun c74 => ?_) ?_
              · have c74 : a1.toInt = (3) := c74
                exfalso
                omega
              refine And.intro (fun c75 => ?_) ?_
              · have c75 : a1.toInt = (4) := c75
                exfalso
                omega
              refine And.intro (fun c76 => ?_) ?_
              · have c76 : a1.toInt = (5) := c76
                exfalso
                omega
              refine And.intro (fun c77 => ?_) ?_
              · have c77 : a1.toInt = (6) := c77
                exfalso
                omega
              exact trivial
            · have c57 : ¬ (a2.toInt < v53.toInt) := c57
              refine And.intro (Nat.le_of_ble_eq_true rfl) (And.intro ⟨0, (Int32.ofInt 5), rfl, by decide, i0⟩ ?_)
              intro v78 s80 h79
              have h79 : Iv s80 ∧ Kp s0 s80 ∧ vk s80 = ((vk s0).1, (vk s0).2) ∧ (v78.toInt = -1) := h79
              have i81 := h79.1
              have k82 : Kp s0 s80 := Kx.tr Kx.rf (h79.2.1)
              have u83 : vk s80 = ((vk s0).1, (vk s0).2) := h79.2.2.1.trans rfl
              have q84 := h79.2.2.2
              intro v85 e86
              show Iv s80 ∧ Kp s0 s80 ∧ vk s80 = ((vk s0).1, (vk s0).2) ∧ (True)
              exact ⟨i81, k82, u83, (trivial)⟩
          refine And.intro (fun c87 => ?_) ?_
          · have c87 : a1.toInt = (2) := c87
            intro v88 e89
            have g90 : s0.1 45 2 = v88 := by rw [e89]
            have b91 : (0 : Int) ≤ v88.toInt ∧ v88.toInt ≤ 48 := by rw [e89]; exact Iv_45_2 i0
            refine And.intro (fun c92 => ?_) (fun c92 => ?_)
            · have c92 : a2.toInt < v88.toInt := c92
              refine And.intro rfl (And.intro ⟨by omega, by omega⟩ ?_)
              refine And.intro (fun c93 => ?_) ?_
              · have c93 : a1.toInt = (0) := c93
                exfalso
                omega
              refine And.intro (fun c94 => ?_) ?_
              · have c94 : a1.toInt = (1) := c94
                exfalso
                omega
              refine And.intro (fun c95 => ?_) ?_
              · have c95 : a1.toInt = (2) := c95
                refine And.intro (Nat.le_of_ble_eq_true rfl) (And.intro ⟨45, a2, rfl, by decide, i0, by omega⟩ ?_)
                intro v96 s98 h97
                have h97 : s98 = s0 ∧ (True) := h97
                have q101 := h97.1.symm
                subst q101
                refine And.intro (Nat.le_of_ble_eq_true rfl) (And.intro ⟨0, v96, rfl, by decide, i0⟩ ?_)
                intro v102 s104 h103
                have h103 : Iv s104 ∧ Kp s0 s104 ∧ vk s104 = ((vk s0).1, (vk s0).2) ∧ (v102 = v96) := h103
                have i105 := h103.1
                have k106 : Kp s0 s104 := Kx.tr Kx.rf (h103.2.1)
                have u107 : vk s104 = ((vk s0).1, (vk s0).2) := h103.2.2.1.trans rfl
                have q108 := h103.2.2.2
                show Iv s104 ∧ Kp s0 s104 ∧ vk s104 = ((vk s0).1, (vk s0).2) ∧ (True)
                exact ⟨i105, k106, u107, (trivial)⟩
              refine And.intro (fun c109 => ?_) ?_
              · have c109 : a1.toInt = (3) := c109
                exfalso
                omega
              refine And.intro (fun c110 => ?_) ?_
              · have c110 : a1.toInt = (4) := c110
                exfalso
                omega
              refine And.intro (fun c111 => ?_) ?_
              · have c111 : a1.toInt = (5) := c111
                exfalso
                omega
              refine And.intro (fun c112 => ?_) ?_
              · have c112 : a1.toInt = (6) := c112
                exfalso
                omega
              exact trivial
            · have c92 : ¬ (a2.toInt < v88.toInt) := c92
              refine And.intro (Nat.le_of_ble_eq_true rfl) (And.intro ⟨0, (Int32.ofInt 5), rfl, by decide, i0⟩ ?_)
              intro v113 s115 h114
              have h114 : Iv s115 ∧ Kp s0 s115 ∧ vk s115 = ((vk s0).1, (vk s0).2) ∧ (v113.toInt = -1) := h114
              have i116 := h114.1
              have k117 : Kp s0 s115 := Kx.tr Kx.rf (h114.2.1)
              have u118 : vk s115 = ((vk s0).1, (vk s0).2) := h114.2.2.1.trans rfl
              have q119 := h114.2.2.2
              intro v120 e121
              show Iv s115 ∧ Kp s0 s115 ∧ vk s115 = ((vk s0).1, (vk s0).2) ∧ (True)
              exact ⟨i116, k117, u118, (trivial)⟩
          refine And.intro (fun c122 => ?_) ?_
          · have c122 : a1.toInt = (3) := c122
            exfalso
            omega
          refine And.intro (fun c123 => ?_) ?_
          · have c123 : a1.toInt = (4) := c123
            exfalso
            omega
          refine And.intro (fun c124 => ?_) ?_
          · have c124 : a1.toInt = (5) := c124
            exfalso
            omega
          refine And.intro (fun c125 => ?_) ?_
          · have c125 : a1.toInt = (6) := c125
            exfalso
            omega
          exact trivial
        · have c16 : ¬ (¬ v9.toInt = 0) := c16
          refine And.intro (Nat.le_of_ble_eq_true rfl) (And.intro ⟨0, (Int32.ofInt 2), rfl, by decide, i0⟩ ?_)
          intro v126 s128 h127
          have h127 : Iv s128 ∧ Kp s0 s128 ∧ vk s128 = ((vk s0).1, (vk s0).2) ∧ (v126.toInt = -1) := h127
          have i129 := h127.1
          have k130 : Kp s0 s128 := Kx.tr Kx.rf (h127.2.1)
          have u131 : vk s128 = ((vk s0).1, (vk s0).2) := h127.2.2.1.trans rfl
          have q132 := h127.2.2.2
          intro v133 e134
          show Iv s128 ∧ Kp s0 s128 ∧ vk s128 = ((vk s0).1, (vk s0).2) ∧ (True)
          exact ⟨i129, k130, u131, (trivial)⟩
      · have c8 : ¬ (¬ v1.toInt = 0) := c8
        refine And.intro (Nat.le_of_ble_eq_true rfl) (And.intro ⟨0, (Int32.ofInt 1), rfl, by decide, i0⟩ ?_)
        intro v135 s137 h136
        have h136 : Iv s137 ∧ Kp s0 s137 ∧ vk s137 = ((vk s0).1, (vk s0).2) ∧ (v135.toInt = -1) := h136
        have i138 := h136.1
        have k139 : Kp s0 s137 := Kx.tr Kx.rf (h136.2.1)
        have u140 : vk s137 = ((vk s0).1, (vk s0).2) := h136.2.2.1.trans rfl
        have q141 := h136.2.2.2
        intro v142 e143
        show Iv s137 ∧ Kp s0 s137 ∧ vk s137 = ((vk s0).1, (vk s0).2) ∧ (True)
        exact ⟨i138, k139, u140, (trivial)⟩
def o_X10_tonal : List vg_I := [(0, .iload_n 1, 1, 0, 0, 0, 0), (1, .iconst 0, 1, 0, 0, 0, 0), (2, .iconst 2, 1, 0, 0, 0, 0), (3, .invokestatic 82, 3, 0, 1, 3, 478), (6, .ifCond .ne 9, 3, 0, 0, 0, 0), (9, .aload_n 0, 1, 0, 0, 0, 0), (10, .iconst 2, 1, 0, 0, 0, 0), (11, .invokevirtual 90, 3, 1, 10, 1, 484), (14, .ireturn, 1, 0, 0, 0, 0), (15, .aload_n 0, 1, 0, 0, 0, 0), (16, .getfield 52, 3, 436, 10, 9, 0), (19, .iload_n 1, 1, 0, 0, 0, 0), (20, .aaload, 1, 0, 0, 0, 0), (21, .getfield 210, 3, 415, 4, 2, 0), (24, .bipush 24, 2, 0, 0, 0, 0), (26, .if_icmp .gt 9, 3, 0, 0, 0, 0), (29, .aload_n 0, 1, 0, 0, 0, 0), (30, .iconst 5, 1, 0, 0, 0, 0), (31, .invokevirtual 90, 3, 1, 10, 1, 484), (34, .ireturn, 1, 0, 0, 0, 0), (35, .aload_n 0, 1, 0, 0, 0, 0), (36, .aload_n 0, 1, 0, 0, 0, 0), (37, .getfield 52, 3, 436, 10, 9, 0), (40, .iload_n 1, 1, 0, 0, 0, 0), (41, .aaload, 1, 0, 0, 0, 0), (42, .iconst 2, 1, 0, 0, 0, 0), (43, .bipush 24, 2, 0, 0, 0, 0), (45, .invokevirtual 341, 3, 2, 4, 2, 932), (48, .invokevirtual 113, 3, 3, 10, 1, 520), (51, .ireturn, 1, 0, 0, 0, 0)]
set_option maxRecDepth 100000 in
set_option maxHeartbeats 4000000 in
theorem c_X10_tonal (l : Launch) (G : vg_G) (hp : vg_Hp G) : vg_Ct l G vg_sh r_X10_tonal := by
  refine vg_meth hp vg_sh_ok r_X10_tonal k_X10_tonal rfl (fun h => by cases h) o_X10_tonal [r_X10_within, r_X10_refuse, r_X4_greatestBeat, r_X10_answer] false (by decide +kernel) (by decide +kernel) ⟨_, _, rfl, rfl⟩ (List.forall_mem_cons.mpr ⟨⟨c_X10_within l G hp, Nat.le_of_ble_eq_true rfl, Nat.le_of_ble_eq_true rfl⟩, List.forall_mem_cons.mpr ⟨⟨c_X10_refuse l G hp, Nat.le_of_ble_eq_true rfl, Nat.le_of_ble_eq_true rfl⟩, List.forall_mem_cons.mpr ⟨⟨c_X4_greatestBeat l G hp, Nat.le_of_ble_eq_true rfl, Nat.le_of_ble_eq_true rfl⟩, List.forall_mem_cons.mpr ⟨⟨c_X10_answer l G hp, Nat.le_of_ble_eq_true rfl, Nat.le_of_ble_eq_true rfl⟩, fun _ h => absurd h List.not_mem_nil⟩⟩⟩⟩) (fun h => by cases h) 600 ?_
  intro as s0 hpre
  obtain ⟨r, a1, rfl, hr, i0⟩ := hpre
  simp only [List.mem_cons, List.not_mem_nil, or_false] at hr
  rcases hr with rfl
  ·
    have z0 : (Int32.ofInt 0).toInt = 0 := by decide
    have z2 : (Int32.ofInt 2).toInt = 2 := by decide
    have z5 : (Int32.ofInt 5).toInt = 5 := by decide
    have z24 : (Int32.ofInt 24).toInt = 24 := by decide
    refine ⟨Nat.le_of_ble_eq_true rfl, [], ?_, fun _ h => absurd h List.not_mem_nil⟩
    ·
      refine And.intro (Nat.le_of_ble_eq_true rfl) (And.intro ⟨a1, (Int32.ofInt 0), (Int32.ofInt 2), rfl, trivial⟩ ?_)
      intro v1 s3 h2
      have h2 : s3 = s0 ∧ ((v1.toInt = 1 ∧ (Int32.ofInt 0).toInt ≤ a1.toInt ∧ a1.toInt ≤ (Int32.ofInt 2).toInt) ∨ (v1.toInt = 0 ∧ (a1.toInt < (Int32.ofInt 0).toInt ∨ (Int32.ofInt 2).toInt < a1.toInt))) := h2
      have q6 := h2.1.symm
      subst q6
      have q7 := h2.2
      refine And.intro (fun c8 => ?_) (fun c8 => ?_)
      · have c8 : ¬ v1.toInt = 0 := c8
        refine And.intro rfl (And.intro ⟨by omega, by omega⟩ ?_)
        refine And.intro (fun c9 => ?_) ?_
        · have c9 : a1.toInt = (0) := c9
          intro v10 e11
          have g12 : s0.1 41 2 = v10 := by rw [e11]
          have b13 : (0 : Int) ≤ v10.toInt ∧ v10.toInt ≤ 48 := by rw [e11]; exact Iv_41_2 i0
          refine And.intro (fun c14 => ?_) (fun c14 => ?_)
          · have c14 : (Int32.ofInt 24).toInt < v10.toInt := c14
            refine And.intro rfl (And.intro ⟨by omega, by omega⟩ ?_)
            refine And.intro (fun c15 => ?_) ?_
            · have c15 : a1.toInt = (0) := c15
              refine And.intro (Nat.le_of_ble_eq_true rfl) (And.intro ⟨41, (Int32.ofInt 2), (Int32.ofInt 24), rfl, by decide, i0, by omega⟩ ?_)
              intro v16 s18 h17
              have h17 : s18 = s0 ∧ (True) := h17
              have q21 := h17.1.symm
              subst q21
              refine And.intro (Nat.le_of_ble_eq_true rfl) (And.intro ⟨0, v16, rfl, by decide, i0⟩ ?_)
              intro v22 s24 h23
              have h23 : Iv s24 ∧ Kp s0 s24 ∧ vk s24 = ((vk s0).1, (vk s0).2) ∧ (v22 = v16 ∧ v22.toInt = v16.toInt) := h23
              have i25 := h23.1
              have k26 : Kp s0 s24 := Kx.tr Kx.rf (h23.2.1)
              have u27 : vk s24 = ((vk s0).1, (vk s0).2) := h23.2.2.1.trans rfl
              have q28 := h23.2.2.2
              show Iv s24 ∧ Kp s0 s24 ∧ vk s24 = ((vk s0).1, (vk s0).2) ∧ (True)
              exact ⟨i25, k26, u27, (trivial)⟩
            refine And.intro (fun c29 => ?_) ?_
            · have c29 : a1.toInt = (1) := c29
              exfalso
              omega
            refine And.intro (fun c30 => ?_) ?_
            · have c30 : a1.toInt = (2) := c30
              exfalso
              omega
            refine And.intro (fun c31 => ?_) ?_
            · have c31 : a1.toInt = (3) := c31
              exfalso
              omega
            refine And.intro (fun c32 => ?_) ?_
            · have c32 : a1.toInt = (4) := c32
              exfalso
              omega
            refine And.intro (fun c33 => ?_) ?_
            · have c33 : a1.toInt = (5) := c33
              exfalso
              omega
            refine And.intro (fun c34 => ?_) ?_
            · have c34 : a1.toInt = (6) := c34
              exfalso
              omega
            exact trivial
          · have c14 : ¬ ((Int32.ofInt 24).toInt < v10.toInt) := c14
            refine And.intro (Nat.le_of_ble_eq_true rfl) (And.intro ⟨0, (Int32.ofInt 5), rfl, by decide, i0⟩ ?_)
            intro v35 s37 h36
            have h36 : Iv s37 ∧ Kp s0 s37 ∧ vk s37 = ((vk s0).1, (vk s0).2) ∧ (v35.toInt = -1) := h36
            have i38 := h36.1
            have k39 : Kp s0 s37 := Kx.tr Kx.rf (h36.2.1)
            have u40 : vk s37 = ((vk s0).1, (vk s0).2) := h36.2.2.1.trans rfl
            have q41 := h36.2.2.2
            show Iv s37 ∧ Kp s0 s37 ∧ vk s37 = ((vk s0).1, (vk s0).2) ∧ (True)
            exact ⟨i38, k39, u40, (trivial)⟩
        refine And.intro (fun c42 => ?_) ?_
        · have c42 : a1.toInt = (1) := c42
          intro v43 e44
          have g45 : s0.1 43 2 = v43 := by rw [e44]
          have b46 : (0 : Int) ≤ v43.toInt ∧ v43.toInt ≤ 48 := by rw [e44]; exact Iv_43_2 i0
          refine And.intro (fun c47 => ?_) (fun c47 => ?_)
          · have c47 : (Int32.ofInt 24).toInt < v43.toInt := c47
            refine And.intro rfl (And.intro ⟨by omega, by omega⟩ ?_)
            refine And.intro (fun c48 => ?_) ?_
            · have c48 : a1.toInt = (0) := c48
              exfalso
              omega
            refine And.intro (fun c49 => ?_) ?_
            · have c49 : a1.toInt = (1) := c49
              refine And.intro (Nat.le_of_ble_eq_true rfl) (And.intro ⟨43, (Int32.ofInt 2), (Int32.ofInt 24), rfl, by decide, i0, by omega⟩ ?_)
              intro v50 s52 h51
              have h51 : s52 = s0 ∧ (True) := h51
              have q55 := h51.1.symm
              subst q55
              refine And.intro (Nat.le_of_ble_eq_true rfl) (And.intro ⟨0, v50, rfl, by decide, i0⟩ ?_)
              intro v56 s58 h57
              have h57 : Iv s58 ∧ Kp s0 s58 ∧ vk s58 = ((vk s0).1, (vk s0).2) ∧ (v56 = v50 ∧ v56.toInt = v50.toInt) := h57
              have i59 := h57.1
              have k60 : Kp s0 s58 := Kx.tr Kx.rf (h57.2.1)
              have u61 : vk s58 = ((vk s0).1, (vk s0).2) := h57.2.2.1.trans rfl
              have q62 := h57.2.2.2
              show Iv s58 ∧ Kp s0 s58 ∧ vk s58 = ((vk s0).1, (vk s0).2) ∧ (True)
              exact ⟨i59, k60, u61, (trivial)⟩
            refine And.intro (fun c63 => ?_) ?_
            · have c63 : a1.toInt = (2) := c63
              exfalso
              omega
            refine And.intro (fun c64 => ?_) ?_
            · have c64 : a1.toInt = (3) := c64
              exfalso
              omega
            refine And.intro (fun c65 => ?_) ?_
            · have c65 : a1.toInt = (4) := c65
              exfalso
              omega
            refine And.intro (fun c66 => ?_) ?_
            · have c66 : a1.toInt = (5) := c66
              exfalso
              omega
            refine And.intro (fun c67 => ?_) ?_
            · have c67 : a1.toInt = (6) := c67
              exfalso
              omega
            exact trivial
          · have c47 : ¬ ((Int32.ofInt 24).toInt < v43.toInt) := c47
            refine And.intro (Nat.le_of_ble_eq_true rfl) (And.intro ⟨0, (Int32.ofInt 5), rfl, by decide, i0⟩ ?_)
            intro v68 s70 h69
            have h69 : Iv s70 ∧ Kp s0 s70 ∧ vk s70 = ((vk s0).1, (vk s0).2) ∧ (v68.toInt = -1) := h69
            have i71 := h69.1
            have k72 : Kp s0 s70 := Kx.tr Kx.rf (h69.2.1)
            have u73 : vk s70 = ((vk s0).1, (vk s0).2) := h69.2.2.1.trans rfl
            have q74 := h69.2.2.2
            show Iv s70 ∧ Kp s0 s70 ∧ vk s70 = ((vk s0).1, (vk s0).2) ∧ (True)
            exact ⟨i71, k72, u73, (trivial)⟩
        refine And.intro (fun c75 => ?_) ?_
        · have c75 : a1.toInt = (2) := c75
          intro v76 e77
          have g78 : s0.1 45 2 = v76 := by rw [e77]
          have b79 : (0 : Int) ≤ v76.toInt ∧ v76.toInt ≤ 48 := by rw [e77]; exact Iv_45_2 i0
          refine And.intro (fun c80 => ?_) (fun c80 => ?_)
          · have c80 : (Int32.ofInt 24).toInt < v76.toInt := c80
            refine And.intro rfl (And.intro ⟨by omega, by omega⟩ ?_)
            refine And.intro (fun c81 => ?_) ?_
            · have c81 : a1.toInt = (0) := c81
              exfalso
              omega
            refine And.intro (fun c82 => ?_) ?_
            · have c82 : a1.toInt = (1) := c82
              exfalso
              omega
            refine And.intro (fun c83 => ?_) ?_
            · have c83 : a1.toInt = (2) := c83
              refine And.intro (Nat.le_of_ble_eq_true rfl) (And.intro ⟨45, (Int32.ofInt 2), (Int32.ofInt 24), rfl, by decide, i0, by omega⟩ ?_)
              intro v84 s86 h85
              have h85 : s86 = s0 ∧ (True) := h85
              have q89 := h85.1.symm
              subst q89
              refine And.intro (Nat.le_of_ble_eq_true rfl) (And.intro ⟨0, v84, rfl, by decide, i0⟩ ?_)
              intro v90 s92 h91
              have h91 : Iv s92 ∧ Kp s0 s92 ∧ vk s92 = ((vk s0).1, (vk s0).2) ∧ (v90 = v84 ∧ v90.toInt = v84.toInt) := h91
              have i93 := h91.1
              have k94 : Kp s0 s92 := Kx.tr Kx.rf (h91.2.1)
              have u95 : vk s92 = ((vk s0).1, (vk s0).2) := h91.2.2.1.trans rfl
              have q96 := h91.2.2.2
              show Iv s92 ∧ Kp s0 s92 ∧ vk s92 = ((vk s0).1, (vk s0).2) ∧ (True)
              exact ⟨i93, k94, u95, (trivial)⟩
            refine And.intro (fun c97 => ?_) ?_
            · have c97 : a1.toInt = (3) := c97
              exfalso
              omega
            refine And.intro (fun c98 => ?_) ?_
            · have c98 : a1.toInt = (4) := c98
              exfalso
              omega
            refine And.intro (fun c99 => ?_) ?_
            · have c99 : a1.toInt = (5) := c99
              exfalso
              omega
            refine And.intro (fun c100 => ?_) ?_
            · have c100 : a1.toInt = (6) := c100
              exfalso
              omega
            exact trivial
          · have c80 : ¬ ((Int32.ofInt 24).toInt < v76.toInt) := c80
            refine And.intro (Nat.le_of_ble_eq_true rfl) (And.intro ⟨0, (Int32.ofInt 5), rfl, by decide, i0⟩ ?_)
            intro v101 s103 h102
            have h102 : Iv s103 ∧ Kp s0 s103 ∧ vk s103 = ((vk s0).1, (vk s0).2) ∧ (v101.toInt = -1) := h102
            have i104 := h102.1
            have k105 : Kp s0 s103 := Kx.tr Kx.rf (h102.2.1)
            have u106 : vk s103 = ((vk s0).1, (vk s0).2) := h102.2.2.1.trans rfl
            have q107 := h102.2.2.2
            show Iv s103 ∧ Kp s0 s103 ∧ vk s103 = ((vk s0).1, (vk s0).2) ∧ (True)
            exact ⟨i104, k105, u106, (trivial)⟩
        refine And.intro (fun c108 => ?_) ?_
        · have c108 : a1.toInt = (3) := c108
          exfalso
          omega
        refine And.intro (fun c109 => ?_) ?_
        · have c109 : a1.toInt = (4) := c109
          exfalso
          omega
        refine And.intro (fun c110 => ?_) ?_
        · have c110 : a1.toInt = (5) := c110
          exfalso
          omega
        refine And.intro (fun c111 => ?_) ?_
        · have c111 : a1.toInt = (6) := c111
          exfalso
          omega
        exact trivial
      · have c8 : ¬ (¬ v1.toInt = 0) := c8
        refine And.intro (Nat.le_of_ble_eq_true rfl) (And.intro ⟨0, (Int32.ofInt 2), rfl, by decide, i0⟩ ?_)
        intro v112 s114 h113
        have h113 : Iv s114 ∧ Kp s0 s114 ∧ vk s114 = ((vk s0).1, (vk s0).2) ∧ (v112.toInt = -1) := h113
        have i115 := h113.1
        have k116 : Kp s0 s114 := Kx.tr Kx.rf (h113.2.1)
        have u117 : vk s114 = ((vk s0).1, (vk s0).2) := h113.2.2.1.trans rfl
        have q118 := h113.2.2.2
        show Iv s114 ∧ Kp s0 s114 ∧ vk s114 = ((vk s0).1, (vk s0).2) ∧ (True)
        exact ⟨i115, k116, u117, (trivial)⟩
def o_X10_out : List vg_I := [(0, .iload_n 1, 1, 0, 0, 0, 0), (1, .invokestatic 86, 3, 0, 1, 1, 481), (4, .ifCond .eq 14, 3, 0, 0, 0, 0), (7, .iload_n 2, 1, 0, 0, 0, 0), (8, .iconst 0, 1, 0, 0, 0, 0), (9, .sipush 999, 3, 0, 0, 0, 0), (12, .invokestatic 82, 3, 1, 1, 3, 478), (15, .ifCond .ne 9, 3, 0, 0, 0, 0), (18, .aload_n 0, 1, 0, 0, 0, 0), (19, .iconst 1, 1, 0, 0, 0, 0), (20, .invokevirtual 90, 3, 2, 10, 1, 484), (23, .ireturn, 1, 0, 0, 0, 0), (24, .aload_n 0, 1, 0, 0, 0, 0), (25, .getfield 63, 3, 438, 10, 11, 0), (28, .aload_n 0, 1, 0, 0, 0, 0), (29, .getfield 19, 3, 431, 10, 4, 0), (32, .getfield 127, 3, 179, 5, 0, 0), (35, .invokevirtual 372, 3, 3, 5, 1, 1013), (38, .iconst 0, 1, 0, 0, 0, 0), (39, .istore_n 3, 1, 0, 0, 0, 0), (40, .iconst 0, 1, 0, 0, 0, 0), (41, .istore 4, 2, 0, 0, 0, 0), (43, .iload 4, 2, 0, 0, 0, 0), (45, .iload_n 2, 1, 0, 0, 0, 0), (46, .if_icmp .gt 18, 3, 0, 0, 0, 0), (49, .aload_n 0, 1, 0, 0, 0, 0), (50, .getfield 63, 3, 438, 10, 11, 0), (53, .iload_n 1, 1, 0, 0, 0, 0), (54, .invokevirtual 376, 3, 4, 5, 1, 641), (57, .istore_n 3, 1, 0, 0, 0, 0), (58, .iinc 4 1, 3, 0, 0, 0, 0), (61, .goto (-18), 3, 0, 0, 0, 0), (64, .aload_n 0, 1, 0, 0, 0, 0), (65, .iload_n 3, 1, 0, 0, 0, 0), (66, .invokevirtual 113, 3, 5, 10, 1, 520), (69, .ireturn, 1, 0, 0, 0, 0)]
set_option maxRecDepth 100000 in
set_option maxHeartbeats 4000000 in
theorem c_X10_out (l : Launch) (G : vg_G) (hp : vg_Hp G) : vg_Ct l G vg_sh r_X10_out := by
  refine vg_meth hp vg_sh_ok r_X10_out k_X10_out rfl (fun h => by cases h) o_X10_out [r_X10_isNumber, r_X10_within, r_X10_refuse, r_X5_beginTone, r_X5_advance, r_X10_answer] false (by decide +kernel) (by decide +kernel) ⟨_, _, rfl, rfl⟩ (List.forall_mem_cons.mpr ⟨⟨c_X10_isNumber l G hp, Nat.le_of_ble_eq_true rfl, Nat.le_of_ble_eq_true rfl⟩, List.forall_mem_cons.mpr ⟨⟨c_X10_within l G hp, Nat.le_of_ble_eq_true rfl, Nat.le_of_ble_eq_true rfl⟩, List.forall_mem_cons.mpr ⟨⟨c_X10_refuse l G hp, Nat.le_of_ble_eq_true rfl, Nat.le_of_ble_eq_true rfl⟩, List.forall_mem_cons.mpr ⟨⟨c_X5_beginTone l G hp, Nat.le_of_ble_eq_true rfl, Nat.le_of_ble_eq_true rfl⟩, List.forall_mem_cons.mpr ⟨⟨c_X5_advance l G hp, Nat.le_of_ble_eq_true rfl, Nat.le_of_ble_eq_true rfl⟩, List.forall_mem_cons.mpr ⟨⟨c_X10_answer l G hp, Nat.le_of_ble_eq_true rfl, Nat.le_of_ble_eq_true rfl⟩, fun _ h => absurd h List.not_mem_nil⟩⟩⟩⟩⟩⟩) (fun h => by cases h) 600 ?_
  intro as s0 hpre
  obtain ⟨r, a1, a2, rfl, hr, i0⟩ := hpre
  simp only [List.mem_cons, List.not_mem_nil, or_false] at hr
  rcases hr with rfl
  ·
    have z0 : (Int32.ofInt 0).toInt = 0 := by decide
    have z1 : (Int32.ofInt 1).toInt = 1 := by decide
    have z999 : (Int32.ofInt 999).toInt = 999 := by decide
    refine ⟨Nat.le_of_ble_eq_true rfl, [(43, [true, true, true, true, true], (fun L t => ∃ (x3 : Int32) (x4 : Int32), L = [some (.ref 0), some (.int a1), some (.int a2), some (.int x3), some (.int x4)] ∧ (0 : Int) ≤ x4.toInt ∧ x4.toInt ≤ (1000 : Int) ∧ (-30000 : Int) ≤ a1.toInt ∧ a1.toInt ≤ (30000 : Int) ∧ (0 : Int) ≤ a2.toInt ∧ a2.toInt ≤ (999 : Int) ∧ Iv t ∧ Kp s0 t ∧ vk t = ((vk s0).1, (vk s0).2)), (fun L _ => (0 + (1000 - (vg_li L 4).toInt) * 1000000000000).toNat))], ?_, List.forall_mem_cons.mpr ⟨?_, fun _ h => absurd h List.not_mem_nil⟩⟩
    ·
      refine And.intro (Nat.le_of_ble_eq_true rfl) (And.intro ⟨a1, rfl, trivial⟩ ?_)
      intro v1 s3 h2
      have h2 : s3 = s0 ∧ ((v1.toInt = 1 ∧ -30000 ≤ a1.toInt ∧ a1.toInt ≤ 30000) ∨ (v1.toInt = 0 ∧ (a1.toInt < -30000 ∨ 30000 < a1.toInt))) := h2
      have q6 := h2.1.symm
      subst q6
      have q7 := h2.2
      refine And.intro (fun c8 => ?_) (fun c8 => ?_)
      · have c8 : v1.toInt = 0 := c8
        refine And.intro (Nat.le_of_ble_eq_true rfl) (And.intro ⟨0, (Int32.ofInt 1), rfl, by decide, i0⟩ ?_)
        intro v9 s11 h10
        have h10 : Iv s11 ∧ Kp s0 s11 ∧ vk s11 = ((vk s0).1, (vk s0).2) ∧ (v9.toInt = -1) := h10
        have i12 := h10.1
        have k13 : Kp s0 s11 := Kx.tr Kx.rf (h10.2.1)
        have u14 : vk s11 = ((vk s0).1, (vk s0).2) := h10.2.2.1.trans rfl
        have q15 := h10.2.2.2
        show Iv s11 ∧ Kp s0 s11 ∧ vk s11 = ((vk s0).1, (vk s0).2) ∧ (True)
        exact ⟨i12, k13, u14, (trivial)⟩
      · have c8 : ¬ (v1.toInt = 0) := c8
        refine And.intro (Nat.le_of_ble_eq_true rfl) (And.intro ⟨a2, (Int32.ofInt 0), (Int32.ofInt 999), rfl, trivial⟩ ?_)
        intro v16 s18 h17
        have h17 : s18 = s0 ∧ ((v16.toInt = 1 ∧ (Int32.ofInt 0).toInt ≤ a2.toInt ∧ a2.toInt ≤ (Int32.ofInt 999).toInt) ∨ (v16.toInt = 0 ∧ (a2.toInt < (Int32.ofInt 0).toInt ∨ (Int32.ofInt 999).toInt < a2.toInt))) := h17
        have q21 := h17.1.symm
        subst q21
        have q22 := h17.2
        refine And.intro (fun c23 => ?_) (fun c23 => ?_)
        · have c23 : ¬ v16.toInt = 0 := c23
          refine And.intro (Nat.le_of_ble_eq_true rfl) (And.intro ⟨22, 4, rfl, by decide, by decide, i0⟩ ?_)
          intro s25 h24
          have h24 : Iv s25 ∧ Kp s0 s25 ∧ vk s25 = ((vk s0).1, (vk s0).2) ∧ (True) := h24
          have i26 := h24.1
          have k27 : Kp s0 s25 := Kx.tr Kx.rf (h24.2.1)
          have u28 : vk s25 = ((vk s0).1, (vk s0).2) := h24.2.2.1.trans rfl
          exact ⟨rfl, ⟨(Int32.ofInt 0), (Int32.ofInt 0), rfl, (by omega), (by omega), (by omega), (by omega), (by omega), (by omega), i26, k27, u28⟩, trivial⟩
        · have c23 : ¬ (¬ v16.toInt = 0) := c23
          refine And.intro (Nat.le_of_ble_eq_true rfl) (And.intro ⟨0, (Int32.ofInt 1), rfl, by decide, i0⟩ ?_)
          intro v29 s31 h30
          have h30 : Iv s31 ∧ Kp s0 s31 ∧ vk s31 = ((vk s0).1, (vk s0).2) ∧ (v29.toInt = -1) := h30
          have i32 := h30.1
          have k33 : Kp s0 s31 := Kx.tr Kx.rf (h30.2.1)
          have u34 : vk s31 = ((vk s0).1, (vk s0).2) := h30.2.2.1.trans rfl
          have q35 := h30.2.2.2
          show Iv s31 ∧ Kp s0 s31 ∧ vk s31 = ((vk s0).1, (vk s0).2) ∧ (True)
          exact ⟨i32, k33, u34, (trivial)⟩
    ·
      intro L s44 hL
      obtain ⟨w36, w37, rfl, b38, b39, b40, b41, b42, b43, i45, k46, u47⟩ := hL
      refine And.intro (fun c48 => ?_) (fun c48 => ?_)
      · have c48 : a2.toInt < w37.toInt := c48
        refine And.intro (Nat.le_of_ble_eq_true rfl) (And.intro ⟨0, w36, rfl, by decide, i45⟩ ?_)
        intro v49 s51 h50
        have h50 : Iv s51 ∧ Kp s44 s51 ∧ vk s51 = ((vk s44).1, (vk s44).2) ∧ (v49 = w36 ∧ v49.toInt = w36.toInt) := h50
        have i52 := h50.1
        have k53 : Kp s0 s51 := Kx.tr k46 (h50.2.1)
        have u54 : vk s51 = ((vk s0).1, (vk s0).2) := h50.2.2.1.trans u47
        have q55 := h50.2.2.2
        show Iv s51 ∧ Kp s0 s51 ∧ vk s51 = ((vk s0).1, (vk s0).2) ∧ (True)
        exact ⟨i52, k53, u54, (trivial)⟩
      · have c48 : ¬ (a2.toInt < w37.toInt) := c48
        refine And.intro (Nat.le_of_ble_eq_true rfl) (And.intro ⟨22, a1, rfl, by decide, i45⟩ ?_)
        intro v56 s58 h57
        have h57 : Iv s58 ∧ Kp s44 s58 ∧ vk s58 = ((vk s44).1, (vk s44).2) ∧ (True) := h57
        have i59 := h57.1
        have k60 : Kp s0 s58 := Kx.tr k46 (h57.2.1)
        have u61 : vk s58 = ((vk s0).1, (vk s0).2) := h57.2.2.1.trans u47
        intro v62 e63
        have b64 := vg_add e63 (by omega) (by omega)
        exact ⟨rfl, ⟨v56, v62, rfl, (by omega), (by omega), (by omega), (by omega), (by omega), (by omega), i59, k60, u61⟩, (by show (0 + (1000 - v62.toInt) * 1000000000000).toNat < (0 + (1000 - w37.toInt) * 1000000000000).toNat; omega)⟩
def o_X10_next : List vg_I := [(0, .iload_n 1, 1, 0, 0, 0, 0), (1, .iconst 0, 1, 0, 0, 0, 0), (2, .aload_n 0, 1, 0, 0, 0, 0), (3, .getfield 26, 3, 432, 10, 5, 0), (6, .getfield 148, 3, 240, 2, 0, 0), (9, .invokestatic 82, 3, 0, 1, 3, 478), (12, .ifCond .ne 9, 3, 0, 0, 0, 0), (15, .aload_n 0, 1, 0, 0, 0, 0), (16, .iconst 1, 1, 0, 0, 0, 0), (17, .invokevirtual 90, 3, 1, 10, 1, 484), (20, .ireturn, 1, 0, 0, 0, 0), (21, .aload_n 0, 1, 0, 0, 0, 0), (22, .aload_n 0, 1, 0, 0, 0, 0), (23, .getfield 26, 3, 432, 10, 5, 0), (26, .iload_n 1, 1, 0, 0, 0, 0), (27, .invokevirtual 382, 3, 2, 2, 1, 1026), (30, .invokevirtual 113, 3, 3, 10, 1, 520), (33, .ireturn, 1, 0, 0, 0, 0)]
set_option maxRecDepth 100000 in
set_option maxHeartbeats 4000000 in
theorem c_X10_next (l : Launch) (G : vg_G) (hp : vg_Hp G) : vg_Ct l G vg_sh r_X10_next := by
  refine vg_meth hp vg_sh_ok r_X10_next k_X10_next rfl (fun h => by cases h) o_X10_next [r_X10_within, r_X10_refuse, r_X2_choose, r_X10_answer] false (by decide +kernel) (by decide +kernel) ⟨_, _, rfl, rfl⟩ (List.forall_mem_cons.mpr ⟨⟨c_X10_within l G hp, Nat.le_of_ble_eq_true rfl, Nat.le_of_ble_eq_true rfl⟩, List.forall_mem_cons.mpr ⟨⟨c_X10_refuse l G hp, Nat.le_of_ble_eq_true rfl, Nat.le_of_ble_eq_true rfl⟩, List.forall_mem_cons.mpr ⟨⟨c_X2_choose l G hp, Nat.le_of_ble_eq_true rfl, Nat.le_of_ble_eq_true rfl⟩, List.forall_mem_cons.mpr ⟨⟨c_X10_answer l G hp, Nat.le_of_ble_eq_true rfl, Nat.le_of_ble_eq_true rfl⟩, fun _ h => absurd h List.not_mem_nil⟩⟩⟩⟩) (fun h => by cases h) 600 ?_
  intro as s0 hpre
  obtain ⟨r, a1, rfl, hr, i0⟩ := hpre
  simp only [List.mem_cons, List.not_mem_nil, or_false] at hr
  rcases hr with rfl
  ·
    have z0 : (Int32.ofInt 0).toInt = 0 := by decide
    have z1 : (Int32.ofInt 1).toInt = 1 := by decide
    refine ⟨Nat.le_of_ble_eq_true rfl, [], ?_, fun _ h => absurd h List.not_mem_nil⟩
    ·
      intro v1 e2
      have g3 : s0.1 7 0 = v1 := by rw [e2]
      have b4 : (1 : Int) ≤ v1.toInt ∧ v1.toInt ≤ 16 := by rw [e2]; exact Iv_7_0 i0
      refine And.intro (Nat.le_of_ble_eq_true rfl) (And.intro ⟨a1, (Int32.ofInt 0), v1, rfl, trivial⟩ ?_)
      intro v5 s7 h6
      have h6 : s7 = s0 ∧ ((v5.toInt = 1 ∧ (Int32.ofInt 0).toInt ≤ a1.toInt ∧ a1.toInt ≤ v1.toInt) ∨ (v5.toInt = 0 ∧ (a1.toInt < (Int32.ofInt 0).toInt ∨ v1.toInt < a1.toInt))) := h6
      have q10 := h6.1.symm
      subst q10
      have q11 := h6.2
      refine And.intro (fun c12 => ?_) (fun c12 => ?_)
      · have c12 : ¬ v5.toInt = 0 := c12
        refine And.intro (Nat.le_of_ble_eq_true rfl) (And.intro ⟨7, a1, rfl, by decide, i0⟩ ?_)
        intro v13 s15 h14
        have h14 : s15 = s0 ∧ (True) := h14
        have q18 := h14.1.symm
        subst q18
        refine And.intro (Nat.le_of_ble_eq_true rfl) (And.intro ⟨0, v13, rfl, by decide, i0⟩ ?_)
        intro v19 s21 h20
        have h20 : Iv s21 ∧ Kp s0 s21 ∧ vk s21 = ((vk s0).1, (vk s0).2) ∧ (v19 = v13 ∧ v19.toInt = v13.toInt) := h20
        have i22 := h20.1
        have k23 : Kp s0 s21 := Kx.tr Kx.rf (h20.2.1)
        have u24 : vk s21 = ((vk s0).1, (vk s0).2) := h20.2.2.1.trans rfl
        have q25 := h20.2.2.2
        show Iv s21 ∧ Kp s0 s21 ∧ vk s21 = ((vk s0).1, (vk s0).2) ∧ (True)
        exact ⟨i22, k23, u24, (trivial)⟩
      · have c12 : ¬ (¬ v5.toInt = 0) := c12
        refine And.intro (Nat.le_of_ble_eq_true rfl) (And.intro ⟨0, (Int32.ofInt 1), rfl, by decide, i0⟩ ?_)
        intro v26 s28 h27
        have h27 : Iv s28 ∧ Kp s0 s28 ∧ vk s28 = ((vk s0).1, (vk s0).2) ∧ (v26.toInt = -1) := h27
        have i29 := h27.1
        have k30 : Kp s0 s28 := Kx.tr Kx.rf (h27.2.1)
        have u31 : vk s28 = ((vk s0).1, (vk s0).2) := h27.2.2.1.trans rfl
        have q32 := h27.2.2.2
        show Iv s28 ∧ Kp s0 s28 ∧ vk s28 = ((vk s0).1, (vk s0).2) ∧ (True)
        exact ⟨i29, k30, u31, (trivial)⟩
def o_X10_ahead : List vg_I := [(0, .iload_n 1, 1, 0, 0, 0, 0), (1, .iconst 1, 1, 0, 0, 0, 0), (2, .sipush 200, 3, 0, 0, 0, 0), (5, .invokestatic 82, 3, 0, 1, 3, 478), (8, .ifCond .eq 21, 3, 0, 0, 0, 0), (11, .iload_n 2, 1, 0, 0, 0, 0), (12, .iconst 0, 1, 0, 0, 0, 0), (13, .iconst 2, 1, 0, 0, 0, 0), (14, .invokestatic 82, 3, 0, 1, 3, 478), (17, .ifCond .eq 12, 3, 0, 0, 0, 0), (20, .iload_n 3, 1, 0, 0, 0, 0), (21, .iconst 0, 1, 0, 0, 0, 0), (22, .iconst 2, 1, 0, 0, 0, 0), (23, .invokestatic 82, 3, 0, 1, 3, 478), (26, .ifCond .ne 10, 3, 0, 0, 0, 0), (29, .aload_n 0, 1, 0, 0, 0, 0), (30, .iconst 1, 1, 0, 0, 0, 0), (31, .invokevirtual 90, 3, 1, 10, 1, 484), (34, .i2l, 1, 0, 0, 0, 0), (35, .lreturn, 1, 0, 0, 0, 0), (36, .aload_n 0, 1, 0, 0, 0, 0), (37, .getfield 63, 3, 438, 10, 11, 0), (40, .aload_n 0, 1, 0, 0, 0, 0), (41, .getfield 19, 3, 431, 10, 4, 0), (44, .invokevirtual 385, 3, 2, 5, 1, 1031), (47, .aload_n 0, 1, 0, 0, 0, 0), (48, .getfield 66, 3, 439, 10, 12, 0), (51, .aload_n 0, 1, 0, 0, 0, 0), (52, .getfield 26, 3, 432, 10, 5, 0), (55, .iload_n 2, 1, 0, 0, 0, 0), (56, .invokevirtual 389, 3, 3, 2, 2, 1035), (59, .iconst 0, 1, 0, 0, 0, 0), (60, .istore 4, 2, 0, 0, 0, 0), (62, .iload 4, 2, 0, 0, 0, 0), (64, .iload_n 1, 1, 0, 0, 0, 0), (65, .if_icmp .ge 38, 3, 0, 0, 0, 0), (68, .aload_n 0, 1, 0, 0, 0, 0), (69, .getfield 66, 3, 439, 10, 12, 0), (72, .aload_n 0, 1, 0, 0, 0, 0), (73, .getfield 63, 3, 438, 10, 11, 0), (76, .aload_n 0, 1, 0, 0, 0, 0), (77, .getfield 10, 3, 430, 10, 3, 0), (80, .aload_n 0, 1, 0, 0, 0, 0), (81, .getfield 110, 3, 428, 10, 1, 0), (84, .iload 4, 2, 0, 0, 0, 0), (86, .iadd, 1, 0, 0, 0, 0), (87, .invokevirtual 393, 3, 4, 7, 1, 620), (90, .invokevirtual 376, 3, 5, 5, 1, 641), (93, .invokevirtual 396, 3, 6, 2, 1, 721), (96, .pop, 1, 0, 0, 0, 0), (97, .iinc 4 1, 3, 0, 0, 0, 0), (100, .goto (-38), 3, 0, 0, 0, 0), (103, .iload_n 3, 1, 0, 0, 0, 0), (104, .lookupswitch 53 #[(0, 28), (1, 41)], 28, 0, 0, 0, 0), (132, .aload_n 0, 1, 0, 0, 0, 0), (133, .aload_n 0, 1, 0, 0, 0, 0), (134, .getfield 66, 3, 439, 10, 12, 0), (137, .invokevirtual 299, 3, 7, 2, 0, 857), (140, .i2l, 1, 0, 0, 0, 0), (141, .invokevirtual 239, 3, 8, 10, 1, 800), (144, .lreturn, 1, 0, 0, 0, 0), (145, .aload_n 0, 1, 0, 0, 0, 0), (146, .aload_n 0, 1, 0, 0, 0, 0), (147, .getfield 66, 3, 439, 10, 12, 0), (150, .getfield 252, 3, 256, 2, 8, 0), (153, .invokevirtual 239, 3, 8, 10, 1, 800), (156, .lreturn, 1, 0, 0, 0, 0), (157, .aload_n 0, 1, 0, 0, 0, 0), (158, .aload_n 0, 1, 0, 0, 0, 0), (159, .getfield 66, 3, 439, 10, 12, 0), (162, .getfield 399, 3, 258, 2, 9, 0), (165, .invokevirtual 239, 3, 8, 10, 1, 800), (168, .lreturn, 1, 0, 0, 0, 0)]
set_option maxRecDepth 100000 in
set_option maxHeartbeats 4000000 in
theorem c_X10_ahead (l : Launch) (G : vg_G) (hp : vg_Hp G) : vg_Ct l G vg_sh r_X10_ahead := by
  refine vg_meth hp vg_sh_ok r_X10_ahead k_X10_ahead rfl (fun h => by cases h) o_X10_ahead [r_X10_within, r_X10_refuse, r_X5_copyFrom, r_X2_beginLike, r_X7_numberAt, r_X5_advance, r_X2_take, r_X2_unevenness, r_X10_answerLong] false (by decide +kernel) (by decide +kernel) ⟨_, _, rfl, rfl⟩ (List.forall_mem_cons.mpr ⟨⟨c_X10_within l G hp, Nat.le_of_ble_eq_true rfl, Nat.le_of_ble_eq_true rfl⟩, List.forall_mem_cons.mpr ⟨⟨c_X10_refuse l G hp, Nat.le_of_ble_eq_true rfl, Nat.le_of_ble_eq_true rfl⟩, List.forall_mem_cons.mpr ⟨⟨c_X5_copyFrom l G hp, Nat.le_of_ble_eq_true rfl, Nat.le_of_ble_eq_true rfl⟩, List.forall_mem_cons.mpr ⟨⟨c_X2_beginLike l G hp, Nat.le_of_ble_eq_true rfl, Nat.le_of_ble_eq_true rfl⟩, List.forall_mem_cons.mpr ⟨⟨c_X7_numberAt l G hp, Nat.le_of_ble_eq_true rfl, Nat.le_of_ble_eq_true rfl⟩, List.forall_mem_cons.mpr ⟨⟨c_X5_advance l G hp, Nat.le_of_ble_eq_true rfl, Nat.le_of_ble_eq_true rfl⟩, List.forall_mem_cons.mpr ⟨⟨c_X2_take l G hp, Nat.le_of_ble_eq_true rfl, Nat.le_of_ble_eq_true rfl⟩, List.forall_mem_cons.mpr ⟨⟨c_X2_unevenness l G hp, Nat.le_of_ble_eq_true rfl, Nat.le_of_ble_eq_true rfl⟩, List.forall_mem_cons.mpr ⟨⟨c_X10_answerLong l G hp, Nat.le_of_ble_eq_true rfl, Nat.le_of_ble_eq_true rfl⟩, fun _ h => absurd h List.not_mem_nil⟩⟩⟩⟩⟩⟩⟩⟩⟩) (fun h => by cases h) 600 ?_
  intro as s0 hpre
  obtain ⟨r, a1, a2, a3, rfl, hr, i0⟩ := hpre
  simp only [List.mem_cons, List.not_mem_nil, or_false] at hr
  rcases hr with rfl
  ·
    have z0 : (Int32.ofInt 0).toInt = 0 := by decide
    have z1 : (Int32.ofInt 1).toInt = 1 := by decide
    have z2 : (Int32.ofInt 2).toInt = 2 := by decide
    have z200 : (Int32.ofInt 200).toInt = 200 := by decide
    refine ⟨Nat.le_of_ble_eq_true rfl, [(62, [true, true, false, true, true], (fun L t => ∃ (x4 : Int32), L = [some (.ref 0), some (.int a1), none, some (.int a3), some (.int x4)] ∧ (0 : Int) ≤ x4.toInt ∧ x4.toInt ≤ (200 : Int) ∧ (1 : Int) ≤ a1.toInt ∧ a1.toInt ≤ (200 : Int) ∧ (0 : Int) ≤ a3.toInt ∧ a3.toInt ≤ (2 : Int) ∧ Iv t ∧ Kp s0 t ∧ vk t = ((vk s0).1, (vk s0).2)), (fun L _ => (0 + (200 - (vg_li L 4).toInt) * 1000000000000).toNat))], ?_, List.forall_mem_cons.mpr ⟨?_, fun _ h => absurd h List.not_mem_nil⟩⟩
    ·
      refine And.intro (Nat.le_of_ble_eq_true rfl) (And.intro ⟨a1, (Int32.ofInt 1), (Int32.ofInt 200), rfl, trivial⟩ ?_)
      intro v1 s3 h2
      have h2 : s3 = s0 ∧ ((v1.toInt = 1 ∧ (Int32.ofInt 1).toInt ≤ a1.toInt ∧ a1.toInt ≤ (Int32.ofInt 200).toInt) ∨ (v1.toInt = 0 ∧ (a1.toInt < (Int32.ofInt 1).toInt ∨ (Int32.ofInt 200).toInt < a1.toInt))) := h2
      have q6 := h2.1.symm
      subst q6
      have q7 := h2.2
      refine And.intro (fun c8 => ?_) (fun c8 => ?_)
      · have c8 : v1.toInt = 0 := c8
        refine And.intro (Nat.le_of_ble_eq_true rfl) (And.intro ⟨0, (Int32.ofInt 1), rfl, by decide, i0⟩ ?_)
        intro v9 s11 h10
        have h10 : Iv s11 ∧ Kp s0 s11 ∧ vk s11 = ((vk s0).1, (vk s0).2) ∧ (v9.toInt = -1) := h10
        have i12 := h10.1
        have k13 : Kp s0 s11 := Kx.tr Kx.rf (h10.2.1)
        have u14 : vk s11 = ((vk s0).1, (vk s0).2) := h10.2.2.1.trans rfl
        have q15 := h10.2.2.2
        intro v16 e17
        show Iv s11 ∧ Kp s0 s11 ∧ vk s11 = ((vk s0).1, (vk s0).2) ∧ (True)
        exact ⟨i12, k13, u14, (trivial)⟩
      · have c8 : ¬ (v1.toInt = 0) := c8
        refine And.intro (Nat.le_of_ble_eq_true rfl) (And.intro ⟨a2, (Int32.ofInt 0), (Int32.ofInt 2), rfl, trivial⟩ ?_)
        intro v18 s20 h19
        have h19 : s20 = s0 ∧ ((v18.toInt = 1 ∧ (Int32.ofInt 0).toInt ≤ a2.toInt ∧ a2.toInt ≤ (Int32.ofInt 2).toInt) ∨ (v18.toInt = 0 ∧ (a2.toInt < (Int32.ofInt 0).toInt ∨ (Int32.ofInt 2).toInt < a2.toInt))) := h19
        have q23 := h19.1.symm
        subst q23
        have q24 := h19.2
        refine And.intro (fun c25 => ?_) (fun c25 => ?_)
        · have c25 : v18.toInt = 0 := c25
          refine And.intro (Nat.le_of_ble_eq_true rfl) (And.intro ⟨0, (Int32.ofInt 1), rfl, by decide, i0⟩ ?_)
          intro v26 s28 h27
          have h27 : Iv s28 ∧ Kp s0 s28 ∧ vk s28 = ((vk s0).1, (vk s0).2) ∧ (v26.toInt = -1) := h27
          have i29 := h27.1
          have k30 : Kp s0 s28 := Kx.tr Kx.rf (h27.2.1)
          have u31 : vk s28 = ((vk s0).1, (vk s0).2) := h27.2.2.1.trans rfl
          have q32 := h27.2.2.2
          intro v33 e34
          show Iv s28 ∧ Kp s0 s28 ∧ vk s28 = ((vk s0).1, (vk s0).2) ∧ (True)
          exact ⟨i29, k30, u31, (trivial)⟩
        · have c25 : ¬ (v18.toInt = 0) := c25
          refine And.intro (Nat.le_of_ble_eq_true rfl) (And.intro ⟨a3, (Int32.ofInt 0), (Int32.ofInt 2), rfl, trivial⟩ ?_)
          intro v35 s37 h36
          have h36 : s37 = s0 ∧ ((v35.toInt = 1 ∧ (Int32.ofInt 0).toInt ≤ a3.toInt ∧ a3.toInt ≤ (Int32.ofInt 2).toInt) ∨ (v35.toInt = 0 ∧ (a3.toInt < (Int32.ofInt 0).toInt ∨ (Int32.ofInt 2).toInt < a3.toInt))) := h36
          have q40 := h36.1.symm
          subst q40
          have q41 := h36.2
          refine And.intro (fun c42 => ?_) (fun c42 => ?_)
          · have c42 : ¬ v35.toInt = 0 := c42
            refine And.intro (Nat.le_of_ble_eq_true rfl) (And.intro ⟨22, 3, rfl, by decide, by decide, i0⟩ ?_)
            intro s44 h43
            have h43 : Iv s44 ∧ Kp s0 s44 ∧ vk s44 = ((vk s0).1, (vk s0).2) ∧ (True) := h43
            have i45 := h43.1
            have k46 : Kp s0 s44 := Kx.tr Kx.rf (h43.2.1)
            have u47 : vk s44 = ((vk s0).1, (vk s0).2) := h43.2.2.1.trans rfl
            refine And.intro (Nat.le_of_ble_eq_true rfl) (And.intro ⟨26, 7, a2, rfl, by decide, by decide, i45⟩ ?_)
            intro s49 h48
            have h48 : Iv s49 ∧ Kp s44 s49 ∧ vk s49 = ((vk s44).1, (vk s44).2) ∧ (True) := h48
            have i50 := h48.1
            have k51 : Kp s0 s49 := Kx.tr k46 (h48.2.1)
            have u52 : vk s49 = ((vk s0).1, (vk s0).2) := h48.2.2.1.trans u47
            exact ⟨rfl, ⟨(Int32.ofInt 0), rfl, (by omega), (by omega), (by omega), (by omega), (by omega), (by omega), i50, k51, u52⟩, trivial⟩
          · have c42 : ¬ (¬ v35.toInt = 0) := c42
            refine And.intro (Nat.le_of_ble_eq_true rfl) (And.intro ⟨0, (Int32.ofInt 1), rfl, by decide, i0⟩ ?_)
            intro v53 s55 h54
            have h54 : Iv s55 ∧ Kp s0 s55 ∧ vk s55 = ((vk s0).1, (vk s0).2) ∧ (v53.toInt = -1) := h54
            have i56 := h54.1
            have k57 : Kp s0 s55 := Kx.tr Kx.rf (h54.2.1)
            have u58 : vk s55 = ((vk s0).1, (vk s0).2) := h54.2.2.1.trans rfl
            have q59 := h54.2.2.2
            intro v60 e61
            show Iv s55 ∧ Kp s0 s55 ∧ vk s55 = ((vk s0).1, (vk s0).2) ∧ (True)
            exact ⟨i56, k57, u58, (trivial)⟩
    ·
      intro L s69 hL
      obtain ⟨w62, rfl, b63, b64, b65, b66, b67, b68, i70, k71, u72⟩ := hL
      refine And.intro (fun c73 => ?_) (fun c73 => ?_)
      · have c73 : a1.toInt ≤ w62.toInt := c73
        refine And.intro (fun c74 => ?_) (fun c74 => ?_)
        · have c74 : a3.toInt = (0) := c74
          refine And.intro (Nat.le_of_ble_eq_true rfl) (And.intro ⟨26, rfl, by decide, i70⟩ ?_)
          intro v75 s77 h76
          have h76 : s77 = s69 ∧ (True) := h76
          have q80 := h76.1.symm
          subst q80
          intro v81 e82
          refine And.intro (Nat.le_of_ble_eq_true rfl) (And.intro ⟨0, v81, rfl, by decide, i70⟩ ?_)
          intro v83 s85 h84
          have h84 : Iv s85 ∧ Kp s69 s85 ∧ vk s85 = ((vk s69).1, (vk s69).2) ∧ (v83 = v81) := h84
          have i86 := h84.1
          have k87 : Kp s0 s85 := Kx.tr k71 (h84.2.1)
          have u88 : vk s85 = ((vk s0).1, (vk s0).2) := h84.2.2.1.trans u72
          have q89 := h84.2.2.2
          show Iv s85 ∧ Kp s0 s85 ∧ vk s85 = ((vk s0).1, (vk s0).2) ∧ (True)
          exact ⟨i86, k87, u88, (trivial)⟩
        have c74 : ¬ (a3.toInt = (0)) := c74
        refine And.intro (fun c90 => ?_) (fun c90 => ?_)
        · have c90 : a3.toInt = (1) := c90
          intro v91 e92
          refine And.intro (Nat.le_of_ble_eq_true rfl) (And.intro ⟨0, v91, rfl, by decide, i70⟩ ?_)
          intro v93 s95 h94
          have h94 : Iv s95 ∧ Kp s69 s95 ∧ vk s95 = ((vk s69).1, (vk s69).2) ∧ (v93 = v91) := h94
          have i96 := h94.1
          have k97 : Kp s0 s95 := Kx.tr k71 (h94.2.1)
          have u98 : vk s95 = ((vk s0).1, (vk s0).2) := h94.2.2.1.trans u72
          have q99 := h94.2.2.2
          show Iv s95 ∧ Kp s0 s95 ∧ vk s95 = ((vk s0).1, (vk s0).2) ∧ (True)
          exact ⟨i96, k97, u98, (trivial)⟩
        have c90 : ¬ (a3.toInt = (1)) := c90
        intro v100 e101
        refine And.intro (Nat.le_of_ble_eq_true rfl) (And.intro ⟨0, v100, rfl, by decide, i70⟩ ?_)
        intro v102 s104 h103
        have h103 : Iv s104 ∧ Kp s69 s104 ∧ vk s104 = ((vk s69).1, (vk s69).2) ∧ (v102 = v100) := h103
        have i105 := h103.1
        have k106 : Kp s0 s104 := Kx.tr k71 (h103.2.1)
        have u107 : vk s104 = ((vk s0).1, (vk s0).2) := h103.2.2.1.trans u72
        have q108 := h103.2.2.2
        show Iv s104 ∧ Kp s0 s104 ∧ vk s104 = ((vk s0).1, (vk s0).2) ∧ (True)
        exact ⟨i105, k106, u107, (trivial)⟩
      · have c73 : ¬ (a1.toInt ≤ w62.toInt) := c73
        intro v109 e110
        have g111 : s69.1 0 1 = v109 := by rw [e110]
        intro v112 e113
        refine And.intro (Nat.le_of_ble_eq_true rfl) (And.intro ⟨1, v112, rfl, by decide, i70⟩ ?_)
        intro v114 s116 h115
        have h115 : s116 = s69 ∧ (True) := h115
        have q119 := h115.1.symm
        subst q119
        refine And.intro (Nat.le_of_ble_eq_true rfl) (And.intro ⟨22, v114, rfl, by decide, i70⟩ ?_)
        intro v120 s122 h121
        have h121 : Iv s122 ∧ Kp s69 s122 ∧ vk s122 = ((vk s69).1, (vk s69).2) ∧ (True) := h121
        have i123 := h121.1
        have k124 : Kp s0 s122 := Kx.tr k71 (h121.2.1)
        have u125 : vk s122 = ((vk s0).1, (vk s0).2) := h121.2.2.1.trans u72
        refine And.intro (Nat.le_of_ble_eq_true rfl) (And.intro ⟨26, v120, rfl, by decide, i123⟩ ?_)
        intro v126 s128 h127
        have h127 : Iv s128 ∧ Kp s122 s128 ∧ vk s128 = ((vk s122).1, (vk s122).2) ∧ (True) := h127
        have i129 := h127.1
        have k130 : Kp s0 s128 := Kx.tr k124 (h127.2.1)
        have u131 : vk s128 = ((vk s0).1, (vk s0).2) := h127.2.2.1.trans u125
        intro v132 e133
        have b134 := vg_add e133 (by omega) (by omega)
        exact ⟨rfl, ⟨v132, rfl, (by omega), (by omega), (by omega), (by omega), (by omega), (by omega), i129, k130, u131⟩, (by show (0 + (200 - v132.toInt) * 1000000000000).toNat < (0 + (200 - w62.toInt) * 1000000000000).toNat; omega)⟩
def o_X10_hitClocksAhead : List vg_I := [(0, .aload_n 0, 1, 0, 0, 0, 0), (1, .getfield 63, 3, 438, 10, 11, 0), (4, .aload_n 0, 1, 0, 0, 0, 0), (5, .getfield 19, 3, 431, 10, 4, 0), (8, .invokevirtual 385, 3, 0, 5, 1, 1031), (11, .aload_n 0, 1, 0, 0, 0, 0), (12, .getfield 63, 3, 438, 10, 11, 0), (15, .getfield 127, 3, 179, 5, 0, 0), (18, .iload_n 2, 1, 0, 0, 0, 0), (19, .putfield 141, 3, 150, 6, 4, 0), (22, .iconst 0, 1, 0, 0, 0, 0), (23, .istore_n 3, 1, 0, 0, 0, 0), (24, .iload_n 3, 1, 0, 0, 0, 0), (25, .iload_n 1, 1, 0, 0, 0, 0), (26, .if_icmp .ge 30, 3, 0, 0, 0, 0), (29, .aload_n 0, 1, 0, 0, 0, 0), (30, .getfield 63, 3, 438, 10, 11, 0), (33, .aload_n 0, 1, 0, 0, 0, 0), (34, .getfield 10, 3, 430, 10, 3, 0), (37, .aload_n 0, 1, 0, 0, 0, 0), (38, .getfield 110, 3, 428, 10, 1, 0), (41, .iload_n 3, 1, 0, 0, 0, 0), (42, .iadd, 1, 0, 0, 0, 0), (43, .invokevirtual 393, 3, 1, 7, 1, 620), (46, .invokevirtual 376, 3, 2, 5, 1, 641), (49, .pop, 1, 0, 0, 0, 0), (50, .iinc 3 1, 3, 0, 0, 0, 0), (53, .goto (-29), 3, 0, 0, 0, 0), (56, .aload_n 0, 1, 0, 0, 0, 0), (57, .getfield 63, 3, 438, 10, 11, 0), (60, .getfield 231, 3, 190, 5, 6, 0), (63, .ireturn, 1, 0, 0, 0, 0)]
set_option maxRecDepth 100000 in
set_option maxHeartbeats 4000000 in
theorem c_X10_hitClocksAhead (l : Launch) (G : vg_G) (hp : vg_Hp G) : vg_Ct l G vg_sh r_X10_hitClocksAhead := by
  refine vg_meth hp vg_sh_ok r_X10_hitClocksAhead k_X10_hitClocksAhead rfl (fun h => by cases h) o_X10_hitClocksAhead [r_X5_copyFrom, r_X7_numberAt, r_X5_advance] false (by decide +kernel) (by decide +kernel) ⟨_, _, rfl, rfl⟩ (List.forall_mem_cons.mpr ⟨⟨c_X5_copyFrom l G hp, Nat.le_of_ble_eq_true rfl, Nat.le_of_ble_eq_true rfl⟩, List.forall_mem_cons.mpr ⟨⟨c_X7_numberAt l G hp, Nat.le_of_ble_eq_true rfl, Nat.le_of_ble_eq_true rfl⟩, List.forall_mem_cons.mpr ⟨⟨c_X5_advance l G hp, Nat.le_of_ble_eq_true rfl, Nat.le_of_ble_eq_true rfl⟩, fun _ h => absurd h List.not_mem_nil⟩⟩⟩) (fun h => by cases h) 600 ?_
  intro as s0 hpre
  obtain ⟨r, a1, a2, rfl, hr, i0, p0⟩ := hpre
  simp only [List.mem_cons, List.not_mem_nil, or_false] at hr
  rcases hr with rfl
  ·
    have z0 : (Int32.ofInt 0).toInt = 0 := by decide
    have z1 : (Int32.ofInt 1).toInt = 1 := by decide
    refine ⟨Nat.le_of_ble_eq_true rfl, [(24, [true, true, false, true], (fun L t => ∃ (x3 : Int32), L = [some (.ref 0), some (.int a1), none, some (.int x3)] ∧ (0 : Int) ≤ x3.toInt ∧ x3.toInt ≤ (400 : Int) ∧ Iv t ∧ Kp s0 t ∧ vk t = ((vk s0).1, (vk s0).2)), (fun L _ => (0 + (400 - (vg_li L 3).toInt) * 1000000000000).toNat))], ?_, List.forall_mem_cons.mpr ⟨?_, fun _ h => absurd h List.not_mem_nil⟩⟩
    ·
      refine And.intro (Nat.le_of_ble_eq_true rfl) (And.intro ⟨22, 3, rfl, by decide, by decide, i0⟩ ?_)
      intro s2 h1
      have h1 : Iv s2 ∧ Kp s0 s2 ∧ vk s2 = ((vk s0).1, (vk s0).2) ∧ (True) := h1
      have i3 := h1.1
      have k4 : Kp s0 s2 := Kx.tr Kx.rf (h1.2.1)
      have u5 : vk s2 = ((vk s0).1, (vk s0).2) := h1.2.2.1.trans rfl
      intro s6 e7
      have i8 : Iv s6 := Iv.c1 (lo := 1) (hi := 60000) i3 e7 rfl (by omega) (by omega)
      have k9 : Kp s0 s6 := Kx.u1 k4 e7 rfl
      have u10 : vk s6 = ((vk s0).1, (vk s0).2) := vk_k1 u5 e7 rfl
      exact ⟨rfl, ⟨(Int32.ofInt 0), rfl, (by omega), (by omega), i8, k9, u10⟩, trivial⟩
    ·
      intro L s14 hL
      obtain ⟨w11, rfl, b12, b13, i15, k16, u17⟩ := hL
      refine And.intro (fun c18 => ?_) (fun c18 => ?_)
      · have c18 : a1.toInt ≤ w11.toInt := c18
        intro v19 e20
        have g21 : s14.1 22 6 = v19 := by rw [e20]
        show Iv s14 ∧ Kp s0 s14 ∧ vk s14 = ((vk s0).1, (vk s0).2) ∧ (True)
        exact ⟨i15, k16, u17, (trivial)⟩
      · have c18 : ¬ (a1.toInt ≤ w11.toInt) := c18
        intro v22 e23
        have g24 : s14.1 0 1 = v22 := by rw [e23]
        intro v25 e26
        refine And.intro (Nat.le_of_ble_eq_true rfl) (And.intro ⟨1, v25, rfl, by decide, i15⟩ ?_)
        intro v27 s29 h28
        have h28 : s29 = s14 ∧ (True) := h28
        have q32 := h28.1.symm
        subst q32
        refine And.intro (Nat.le_of_ble_eq_true rfl) (And.intro ⟨22, v27, rfl, by decide, i15⟩ ?_)
        intro v33 s35 h34
        have h34 : Iv s35 ∧ Kp s14 s35 ∧ vk s35 = ((vk s14).1, (vk s14).2) ∧ (True) := h34
        have i36 := h34.1
        have k37 : Kp s0 s35 := Kx.tr k16 (h34.2.1)
        have u38 : vk s35 = ((vk s0).1, (vk s0).2) := h34.2.2.1.trans u17
        intro v39 e40
        have b41 := vg_add e40 (by omega) (by omega)
        exact ⟨rfl, ⟨v39, rfl, (by omega), (by omega), i36, k37, u38⟩, (by show (0 + (400 - v39.toInt) * 1000000000000).toNat < (0 + (400 - w11.toInt) * 1000000000000).toNat; omega)⟩
def o_X10_strain : List vg_I := [(0, .iload_n 1, 1, 0, 0, 0, 0), (1, .iconst 1, 1, 0, 0, 0, 0), (2, .sipush 200, 3, 0, 0, 0, 0), (5, .invokestatic 82, 3, 0, 1, 3, 478), (8, .ifCond .eq 13, 3, 0, 0, 0, 0), (11, .iload_n 2, 1, 0, 0, 0, 0), (12, .iconst 1, 1, 0, 0, 0, 0), (13, .ldc 122, 2, 532, 0, 0, 60000), (15, .invokestatic 82, 3, 0, 1, 3, 478), (18, .ifCond .ne 9, 3, 0, 0, 0, 0), (21, .aload_n 0, 1, 0, 0, 0, 0), (22, .iconst 1, 1, 0, 0, 0, 0), (23, .invokevirtual 90, 3, 1, 10, 1, 484), (26, .ireturn, 1, 0, 0, 0, 0), (27, .aload_n 0, 1, 0, 0, 0, 0), (28, .aload_n 0, 1, 0, 0, 0, 0), (29, .iload_n 1, 1, 0, 0, 0, 0), (30, .iload_n 2, 1, 0, 0, 0, 0), (31, .invokevirtual 402, 3, 2, 10, 2, 1045), (34, .invokevirtual 113, 3, 3, 10, 1, 520), (37, .ireturn, 1, 0, 0, 0, 0)]
set_option maxRecDepth 100000 in
set_option maxHeartbeats 4000000 in
theorem c_X10_strain (l : Launch) (G : vg_G) (hp : vg_Hp G) : vg_Ct l G vg_sh r_X10_strain := by
  refine vg_meth hp vg_sh_ok r_X10_strain k_X10_strain rfl (fun h => by cases h) o_X10_strain [r_X10_within, r_X10_refuse, r_X10_hitClocksAhead, r_X10_answer] false (by decide +kernel) (by decide +kernel) ⟨_, _, rfl, rfl⟩ (List.forall_mem_cons.mpr ⟨⟨c_X10_within l G hp, Nat.le_of_ble_eq_true rfl, Nat.le_of_ble_eq_true rfl⟩, List.forall_mem_cons.mpr ⟨⟨c_X10_refuse l G hp, Nat.le_of_ble_eq_true rfl, Nat.le_of_ble_eq_true rfl⟩, List.forall_mem_cons.mpr ⟨⟨c_X10_hitClocksAhead l G hp, Nat.le_of_ble_eq_true rfl, Nat.le_of_ble_eq_true rfl⟩, List.forall_mem_cons.mpr ⟨⟨c_X10_answer l G hp, Nat.le_of_ble_eq_true rfl, Nat.le_of_ble_eq_true rfl⟩, fun _ h => absurd h List.not_mem_nil⟩⟩⟩⟩) (fun h => by cases h) 600 ?_
  intro as s0 hpre
  obtain ⟨r, a1, a2, rfl, hr, i0⟩ := hpre
  simp only [List.mem_cons, List.not_mem_nil, or_false] at hr
  rcases hr with rfl
  ·
    have z1 : (Int32.ofInt 1).toInt = 1 := by decide
    have z200 : (Int32.ofInt 200).toInt = 200 := by decide
    have z60000 : (Int32.ofInt 60000).toInt = 60000 := by decide
    refine ⟨Nat.le_of_ble_eq_true rfl, [], ?_, fun _ h => absurd h List.not_mem_nil⟩
    ·
      refine And.intro (Nat.le_of_ble_eq_true rfl) (And.intro ⟨a1, (Int32.ofInt 1), (Int32.ofInt 200), rfl, trivial⟩ ?_)
      intro v1 s3 h2
      have h2 : s3 = s0 ∧ ((v1.toInt = 1 ∧ (Int32.ofInt 1).toInt ≤ a1.toInt ∧ a1.toInt ≤ (Int32.ofInt 200).toInt) ∨ (v1.toInt = 0 ∧ (a1.toInt < (Int32.ofInt 1).toInt ∨ (Int32.ofInt 200).toInt < a1.toInt))) := h2
      have q6 := h2.1.symm
      subst q6
      have q7 := h2.2
      refine And.intro (fun c8 => ?_) (fun c8 => ?_)
      · have c8 : v1.toInt = 0 := c8
        refine And.intro (Nat.le_of_ble_eq_true rfl) (And.intro ⟨0, (Int32.ofInt 1), rfl, by decide, i0⟩ ?_)
        intro v9 s11 h10
        have h10 : Iv s11 ∧ Kp s0 s11 ∧ vk s11 = ((vk s0).1, (vk s0).2) ∧ (v9.toInt = -1) := h10
        have i12 := h10.1
        have k13 : Kp s0 s11 := Kx.tr Kx.rf (h10.2.1)
        have u14 : vk s11 = ((vk s0).1, (vk s0).2) := h10.2.2.1.trans rfl
        have q15 := h10.2.2.2
        show Iv s11 ∧ Kp s0 s11 ∧ vk s11 = ((vk s0).1, (vk s0).2) ∧ (True)
        exact ⟨i12, k13, u14, (trivial)⟩
      · have c8 : ¬ (v1.toInt = 0) := c8
        refine And.intro (Nat.le_of_ble_eq_true rfl) (And.intro ⟨a2, (Int32.ofInt 1), (Int32.ofInt 60000), rfl, trivial⟩ ?_)
        intro v16 s18 h17
        have h17 : s18 = s0 ∧ ((v16.toInt = 1 ∧ (Int32.ofInt 1).toInt ≤ a2.toInt ∧ a2.toInt ≤ (Int32.ofInt 60000).toInt) ∨ (v16.toInt = 0 ∧ (a2.toInt < (Int32.ofInt 1).toInt ∨ (Int32.ofInt 60000).toInt < a2.toInt))) := h17
        have q21 := h17.1.symm
        subst q21
        have q22 := h17.2
        refine And.intro (fun c23 => ?_) (fun c23 => ?_)
        · have c23 : ¬ v16.toInt = 0 := c23
          refine And.intro (Nat.le_of_ble_eq_true rfl) (And.intro ⟨0, a1, a2, rfl, by decide, i0, by omega⟩ ?_)
          intro v24 s26 h25
          have h25 : Iv s26 ∧ Kp s0 s26 ∧ vk s26 = ((vk s0).1, (vk s0).2) ∧ (True) := h25
          have i27 := h25.1
          have k28 : Kp s0 s26 := Kx.tr Kx.rf (h25.2.1)
          have u29 : vk s26 = ((vk s0).1, (vk s0).2) := h25.2.2.1.trans rfl
          refine And.intro (Nat.le_of_ble_eq_true rfl) (And.intro ⟨0, v24, rfl, by decide, i27⟩ ?_)
          intro v30 s32 h31
          have h31 : Iv s32 ∧ Kp s26 s32 ∧ vk s32 = ((vk s26).1, (vk s26).2) ∧ (v30 = v24 ∧ v30.toInt = v24.toInt) := h31
          have i33 := h31.1
          have k34 : Kp s0 s32 := Kx.tr k28 (h31.2.1)
          have u35 : vk s32 = ((vk s0).1, (vk s0).2) := h31.2.2.1.trans u29
          have q36 := h31.2.2.2
          show Iv s32 ∧ Kp s0 s32 ∧ vk s32 = ((vk s0).1, (vk s0).2) ∧ (True)
          exact ⟨i33, k34, u35, (trivial)⟩
        · have c23 : ¬ (¬ v16.toInt = 0) := c23
          refine And.intro (Nat.le_of_ble_eq_true rfl) (And.intro ⟨0, (Int32.ofInt 1), rfl, by decide, i0⟩ ?_)
          intro v37 s39 h38
          have h38 : Iv s39 ∧ Kp s0 s39 ∧ vk s39 = ((vk s0).1, (vk s0).2) ∧ (v37.toInt = -1) := h38
          have i40 := h38.1
          have k41 : Kp s0 s39 := Kx.tr Kx.rf (h38.2.1)
          have u42 : vk s39 = ((vk s0).1, (vk s0).2) := h38.2.2.1.trans rfl
          have q43 := h38.2.2.2
          show Iv s39 ∧ Kp s0 s39 ∧ vk s39 = ((vk s0).1, (vk s0).2) ∧ (True)
          exact ⟨i40, k41, u42, (trivial)⟩
def o_X10_calmed : List vg_I := [(0, .iload_n 1, 1, 0, 0, 0, 0), (1, .iconst 1, 1, 0, 0, 0, 0), (2, .bipush 60, 2, 0, 0, 0, 0), (4, .invokestatic 82, 3, 0, 1, 3, 478), (7, .ifCond .eq 14, 3, 0, 0, 0, 0), (10, .iload_n 2, 1, 0, 0, 0, 0), (11, .iconst 1, 1, 0, 0, 0, 0), (12, .sipush 400, 3, 0, 0, 0, 0), (15, .invokestatic 82, 3, 0, 1, 3, 478), (18, .ifCond .ne 9, 3, 0, 0, 0, 0), (21, .aload_n 0, 1, 0, 0, 0, 0), (22, .iconst 1, 1, 0, 0, 0, 0), (23, .invokevirtual 90, 3, 1, 10, 1, 484), (26, .ireturn, 1, 0, 0, 0, 0), (27, .aload_n 0, 1, 0, 0, 0, 0), (28, .iload_n 1, 1, 0, 0, 0, 0), (29, .iload_n 2, 1, 0, 0, 0, 0), (30, .invokevirtual 402, 3, 2, 10, 2, 1045), (33, .ifCond .le 9, 3, 0, 0, 0, 0), (36, .aload_n 0, 1, 0, 0, 0, 0), (37, .iconst 5, 1, 0, 0, 0, 0), (38, .invokevirtual 90, 3, 1, 10, 1, 484), (41, .ireturn, 1, 0, 0, 0, 0), (42, .aload_n 0, 1, 0, 0, 0, 0), (43, .iconst 1, 1, 0, 0, 0, 0), (44, .aload_n 0, 1, 0, 0, 0, 0), (45, .getfield 63, 3, 438, 10, 11, 0), (48, .getfield 405, 3, 193, 5, 8, 0), (51, .invokestatic 408, 3, 3, 1, 2, 1053), (54, .invokevirtual 113, 3, 4, 10, 1, 520), (57, .ireturn, 1, 0, 0, 0, 0)]
set_option maxRecDepth 100000 in
set_option maxHeartbeats 4000000 in
theorem c_X10_calmed (l : Launch) (G : vg_G) (hp : vg_Hp G) : vg_Ct l G vg_sh r_X10_calmed := by
  refine vg_meth hp vg_sh_ok r_X10_calmed k_X10_calmed rfl (fun h => by cases h) o_X10_calmed [r_X10_within, r_X10_refuse, r_X10_hitClocksAhead, r_J9_max_7cf53, r_X10_answer] false (by decide +kernel) (by decide +kernel) ⟨_, _, rfl, rfl⟩ (List.forall_mem_cons.mpr ⟨⟨c_X10_within l G hp, Nat.le_of_ble_eq_true rfl, Nat.le_of_ble_eq_true rfl⟩, List.forall_mem_cons.mpr ⟨⟨c_X10_refuse l G hp, Nat.le_of_ble_eq_true rfl, Nat.le_of_ble_eq_true rfl⟩, List.forall_mem_cons.mpr ⟨⟨c_X10_hitClocksAhead l G hp, Nat.le_of_ble_eq_true rfl, Nat.le_of_ble_eq_true rfl⟩, List.forall_mem_cons.mpr ⟨⟨c_J9_max_7cf53 l G hp, Nat.le_of_ble_eq_true rfl, Nat.le_of_ble_eq_true rfl⟩, List.forall_mem_cons.mpr ⟨⟨c_X10_answer l G hp, Nat.le_of_ble_eq_true rfl, Nat.le_of_ble_eq_true rfl⟩, fun _ h => absurd h List.not_mem_nil⟩⟩⟩⟩⟩) (fun h => by cases h) 600 ?_
  intro as s0 hpre
  obtain ⟨r, a1, a2, rfl, hr, i0⟩ := hpre
  simp only [List.mem_cons, List.not_mem_nil, or_false] at hr
  rcases hr with rfl
  ·
    have z1 : (Int32.ofInt 1).toInt = 1 := by decide
    have z5 : (Int32.ofInt 5).toInt = 5 := by decide
    have z60 : (Int32.ofInt 60).toInt = 60 := by decide
    have z400 : (Int32.ofInt 400).toInt = 400 := by decide
    refine ⟨Nat.le_of_ble_eq_true rfl, [], ?_, fun _ h => absurd h List.not_mem_nil⟩
    ·
      refine And.intro (Nat.le_of_ble_eq_true rfl) (And.intro ⟨a1, (Int32.ofInt 1), (Int32.ofInt 60), rfl, trivial⟩ ?_)
      intro v1 s3 h2
      have h2 : s3 = s0 ∧ ((v1.toInt = 1 ∧ (Int32.ofInt 1).toInt ≤ a1.toInt ∧ a1.toInt ≤ (Int32.ofInt 60).toInt) ∨ (v1.toInt = 0 ∧ (a1.toInt < (Int32.ofInt 1).toInt ∨ (Int32.ofInt 60).toInt < a1.toInt))) := h2
      have q6 := h2.1.symm
      subst q6
      have q7 := h2.2
      refine And.intro (fun c8 => ?_) (fun c8 => ?_)
      · have c8 : v1.toInt = 0 := c8
        refine And.intro (Nat.le_of_ble_eq_true rfl) (And.intro ⟨0, (Int32.ofInt 1), rfl, by decide, i0⟩ ?_)
        intro v9 s11 h10
        have h10 : Iv s11 ∧ Kp s0 s11 ∧ vk s11 = ((vk s0).1, (vk s0).2) ∧ (v9.toInt = -1) := h10
        have i12 := h10.1
        have k13 : Kp s0 s11 := Kx.tr Kx.rf (h10.2.1)
        have u14 : vk s11 = ((vk s0).1, (vk s0).2) := h10.2.2.1.trans rfl
        have q15 := h10.2.2.2
        show Iv s11 ∧ Kp s0 s11 ∧ vk s11 = ((vk s0).1, (vk s0).2) ∧ (True)
        exact ⟨i12, k13, u14, (trivial)⟩
      · have c8 : ¬ (v1.toInt = 0) := c8
        refine And.intro (Nat.le_of_ble_eq_true rfl) (And.intro ⟨a2, (Int32.ofInt 1), (Int32.ofInt 400), rfl, trivial⟩ ?_)
        intro v16 s18 h17
        have h17 : s18 = s0 ∧ ((v16.toInt = 1 ∧ (Int32.ofInt 1).toInt ≤ a2.toInt ∧ a2.toInt ≤ (Int32.ofInt 400).toInt) ∨ (v16.toInt = 0 ∧ (a2.toInt < (Int32.ofInt 1).toInt ∨ (Int32.ofInt 400).toInt < a2.toInt))) := h17
        have q21 := h17.1.symm
        subst q21
        have q22 := h17.2
        refine And.intro (fun c23 => ?_) (fun c23 => ?_)
        · have c23 : ¬ v16.toInt = 0 := c23
          refine And.intro (Nat.le_of_ble_eq_true rfl) (And.intro ⟨0, a1, a2, rfl, by decide, i0, by omega⟩ ?_)
          intro v24 s26 h25
          have h25 : Iv s26 ∧ Kp s0 s26 ∧ vk s26 = ((vk s0).1, (vk s0).2) ∧ (True) := h25
          have i27 := h25.1
          have k28 : Kp s0 s26 := Kx.tr Kx.rf (h25.2.1)
          have u29 : vk s26 = ((vk s0).1, (vk s0).2) := h25.2.2.1.trans rfl
          refine And.intro (fun c30 => ?_) (fun c30 => ?_)
          · have c30 : v24.toInt ≤ 0 := c30
            intro v31 e32
            have g33 : s26.1 22 8 = v31 := by rw [e32]
            refine And.intro (Nat.le_of_ble_eq_true rfl) (And.intro ⟨(Int32.ofInt 1), v31, rfl, trivial⟩ ?_)
            intro v34 s36 h35
            have h35 : s36 = s26 ∧ ((Int32.ofInt 1).toInt ≤ v34.toInt ∧ v31.toInt ≤ v34.toInt ∧ (v34.toInt = (Int32.ofInt 1).toInt ∨ v34.toInt = v31.toInt)) := h35
            have q39 := h35.1.symm
            subst q39
            have q40 := h35.2
            refine And.intro (Nat.le_of_ble_eq_true rfl) (And.intro ⟨0, v34, rfl, by decide, i27⟩ ?_)
            intro v41 s43 h42
            have h42 : Iv s43 ∧ Kp s26 s43 ∧ vk s43 = ((vk s26).1, (vk s26).2) ∧ (v41 = v34 ∧ v41.toInt = v34.toInt) := h42
            have i44 := h42.1
            have k45 : Kp s0 s43 := Kx.tr k28 (h42.2.1)
            have u46 : vk s43 = ((vk s0).1, (vk s0).2) := h42.2.2.1.trans u29
            have q47 := h42.2.2.2
            show Iv s43 ∧ Kp s0 s43 ∧ vk s43 = ((vk s0).1, (vk s0).2) ∧ (True)
            exact ⟨i44, k45, u46, (trivial)⟩
          · have c30 : ¬ (v24.toInt ≤ 0) := c30
            refine And.intro (Nat.le_of_ble_eq_true rfl) (And.intro ⟨0, (Int32.ofInt 5), rfl, by decide, i27⟩ ?_)
            intro v48 s50 h49
            have h49 : Iv s50 ∧ Kp s26 s50 ∧ vk s50 = ((vk s26).1, (vk s26).2) ∧ (v48.toInt = -1) := h49
            have i51 := h49.1
            have k52 : Kp s0 s50 := Kx.tr k28 (h49.2.1)
            have u53 : vk s50 = ((vk s0).1, (vk s0).2) := h49.2.2.1.trans u29
            have q54 := h49.2.2.2
            show Iv s50 ∧ Kp s0 s50 ∧ vk s50 = ((vk s0).1, (vk s0).2) ∧ (True)
            exact ⟨i51, k52, u53, (trivial)⟩
        · have c23 : ¬ (¬ v16.toInt = 0) := c23
          refine And.intro (Nat.le_of_ble_eq_true rfl) (And.intro ⟨0, (Int32.ofInt 1), rfl, by decide, i0⟩ ?_)
          intro v55 s57 h56
          have h56 : Iv s57 ∧ Kp s0 s57 ∧ vk s57 = ((vk s0).1, (vk s0).2) ∧ (v55.toInt = -1) := h56
          have i58 := h56.1
          have k59 : Kp s0 s57 := Kx.tr Kx.rf (h56.2.1)
          have u60 : vk s57 = ((vk s0).1, (vk s0).2) := h56.2.2.1.trans rfl
          have q61 := h56.2.2.2
          show Iv s57 ∧ Kp s0 s57 ∧ vk s57 = ((vk s0).1, (vk s0).2) ∧ (True)
          exact ⟨i58, k59, u60, (trivial)⟩
def o_X10_tone : List vg_I := [(0, .iload_n 1, 1, 0, 0, 0, 0), (1, .invokestatic 86, 3, 0, 1, 1, 481), (4, .ifCond .eq 12, 3, 0, 0, 0, 0), (7, .iload_n 2, 1, 0, 0, 0, 0), (8, .iconst 0, 1, 0, 0, 0, 0), (9, .iconst 5, 1, 0, 0, 0, 0), (10, .invokestatic 82, 3, 1, 1, 3, 478), (13, .ifCond .ne 9, 3, 0, 0, 0, 0), (16, .aload_n 0, 1, 0, 0, 0, 0), (17, .iconst 1, 1, 0, 0, 0, 0), (18, .invokevirtual 90, 3, 2, 10, 1, 484), (21, .ireturn, 1, 0, 0, 0, 0), (22, .aload_n 0, 1, 0, 0, 0, 0), (23, .getfield 59, 3, 437, 10, 10, 0), (26, .iload_n 1, 1, 0, 0, 0, 0), (27, .invokevirtual 345, 3, 3, 0, 1, 941), (30, .aload_n 0, 1, 0, 0, 0, 0), (31, .getfield 72, 3, 440, 10, 13, 0), (34, .aload_n 0, 1, 0, 0, 0, 0), (35, .getfield 63, 3, 438, 10, 11, 0), (38, .aload_n 0, 1, 0, 0, 0, 0), (39, .getfield 19, 3, 431, 10, 4, 0), (42, .getfield 127, 3, 179, 5, 0, 0), (45, .iload_n 1, 1, 0, 0, 0, 0), (46, .invokevirtual 348, 3, 4, 9, 3, 948), (49, .aload_n 0, 1, 0, 0, 0, 0), (50, .getfield 72, 3, 440, 10, 13, 0), (53, .getfield 352, 3, 370, 9, 3, 0), (56, .ifCond .ne 9, 3, 0, 0, 0, 0), (59, .aload_n 0, 1, 0, 0, 0, 0), (60, .iconst 5, 1, 0, 0, 0, 0), (61, .invokevirtual 90, 3, 2, 10, 1, 484), (64, .ireturn, 1, 0, 0, 0, 0), (65, .iload_n 2, 1, 0, 0, 0, 0), (66, .tableswitch 94 0 4 #[34, 46, 58, 70, 82], 34, 0, 0, 0, 0), (100, .aload_n 0, 1, 0, 0, 0, 0), (101, .aload_n 0, 1, 0, 0, 0, 0), (102, .getfield 72, 3, 440, 10, 13, 0), (105, .getfield 355, 3, 372, 9, 4, 0), (108, .invokevirtual 113, 3, 5, 10, 1, 520), (111, .ireturn, 1, 0, 0, 0, 0), (112, .aload_n 0, 1, 0, 0, 0, 0), (113, .aload_n 0, 1, 0, 0, 0, 0), (114, .getfield 72, 3, 440, 10, 13, 0), (117, .getfield 358, 3, 374, 9, 5, 0), (120, .invokevirtual 113, 3, 5, 10, 1, 520), (123, .ireturn, 1, 0, 0, 0, 0), (124, .aload_n 0, 1, 0, 0, 0, 0), (125, .aload_n 0, 1, 0, 0, 0, 0), (126, .getfield 72, 3, 440, 10, 13, 0), (129, .invokevirtual 361, 3, 6, 9, 0, 981), (132, .invokevirtual 113, 3, 5, 10, 1, 520), (135, .ireturn, 1, 0, 0, 0, 0), (136, .aload_n 0, 1, 0, 0, 0, 0), (137, .aload_n 0, 1, 0, 0, 0, 0), (138, .getfield 72, 3, 440, 10, 13, 0), (141, .invokevirtual 363, 3, 7, 9, 0, 989), (144, .invokevirtual 113, 3, 5, 10, 1, 520), (147, .ireturn, 1, 0, 0, 0, 0), (148, .aload_n 0, 1, 0, 0, 0, 0), (149, .aload_n 0, 1, 0, 0, 0, 0), (150, .getfield 72, 3, 440, 10, 13, 0), (153, .invokevirtual 366, 3, 8, 9, 0, 999), (156, .invokevirtual 113, 3, 5, 10, 1, 520), (159, .ireturn, 1, 0, 0, 0, 0), (160, .aload_n 0, 1, 0, 0, 0, 0), (161, .aload_n 0, 1, 0, 0, 0, 0), (162, .getfield 72, 3, 440, 10, 13, 0), (165, .invokevirtual 369, 3, 9, 9, 0, 1003), (168, .invokevirtual 113, 3, 5, 10, 1, 520), (171, .ireturn, 1, 0, 0, 0, 0)]
set_option maxRecDepth 100000 in
set_option maxHeartbeats 4000000 in
theorem c_X10_tone (l : Launch) (G : vg_G) (hp : vg_Hp G) : vg_Ct l G vg_sh r_X10_tone := by
  refine vg_meth hp vg_sh_ok r_X10_tone k_X10_tone rfl (fun h => by cases h) o_X10_tone [r_X10_isNumber, r_X10_within, r_X10_refuse, r_X0_add, r_X9_follow, r_X10_answer, r_X9_total, r_X9_unlike, r_X9_changes, r_X9_longestRun] false (by decide +kernel) (by decide +kernel) ⟨_, _, rfl, rfl⟩ (List.forall_mem_cons.mpr ⟨⟨c_X10_isNumber l G hp, Nat.le_of_ble_eq_true rfl, Nat.le_of_ble_eq_true rfl⟩, List.forall_mem_cons.mpr ⟨⟨c_X10_within l G hp, Nat.le_of_ble_eq_true rfl, Nat.le_of_ble_eq_true rfl⟩, List.forall_mem_cons.mpr ⟨⟨c_X10_refuse l G hp, Nat.le_of_ble_eq_true rfl, Nat.le_of_ble_eq_true rfl⟩, List.forall_mem_cons.mpr ⟨⟨c_X0_add l G hp, Nat.le_of_ble_eq_true rfl, Nat.le_of_ble_eq_true rfl⟩, List.forall_mem_cons.mpr ⟨⟨c_X9_follow l G hp, Nat.le_of_ble_eq_true rfl, Nat.le_of_ble_eq_true rfl⟩, List.forall_mem_cons.mpr ⟨⟨c_X10_answer l G hp, Nat.le_of_ble_eq_true rfl, Nat.le_of_ble_eq_true rfl⟩, List.forall_mem_cons.mpr ⟨⟨c_X9_total l G hp, Nat.le_of_ble_eq_true rfl, Nat.le_of_ble_eq_true rfl⟩, List.forall_mem_cons.mpr ⟨⟨c_X9_unlike l G hp, Nat.le_of_ble_eq_true rfl, Nat.le_of_ble_eq_true rfl⟩, List.forall_mem_cons.mpr ⟨⟨c_X9_changes l G hp, Nat.le_of_ble_eq_true rfl, Nat.le_of_ble_eq_true rfl⟩, List.forall_mem_cons.mpr ⟨⟨c_X9_longestRun l G hp, Nat.le_of_ble_eq_true rfl, Nat.le_of_ble_eq_true rfl⟩, fun _ h => absurd h List.not_mem_nil⟩⟩⟩⟩⟩⟩⟩⟩⟩⟩) (fun h => by cases h) 600 ?_
  intro as s0 hpre
  obtain ⟨r, a1, a2, rfl, hr, i0⟩ := hpre
  simp only [List.mem_cons, List.not_mem_nil, or_false] at hr
  rcases hr with rfl
  ·
    have z0 : (Int32.ofInt 0).toInt = 0 := by decide
    have z1 : (Int32.ofInt 1).toInt = 1 := by decide
    have z5 : (Int32.ofInt 5).toInt = 5 := by decide
    refine ⟨Nat.le_of_ble_eq_true rfl, [], ?_, fun _ h => absurd h List.not_mem_nil⟩
    ·
      refine And.intro (Nat.le_of_ble_eq_true rfl) (And.intro ⟨a1, rfl, trivial⟩ ?_)
      intro v1 s3 h2
      have h2 : s3 = s0 ∧ ((v1.toInt = 1 ∧ -30000 ≤ a1.toInt ∧ a1.toInt ≤ 30000) ∨ (v1.toInt = 0 ∧ (a1.toInt < -30000 ∨ 30000 < a1.toInt))) := h2
      have q6 := h2.1.symm
      subst q6
      have q7 := h2.2
      refine And.intro (fun c8 => ?_) (fun c8 => ?_)
      · have c8 : v1.toInt = 0 := c8
        refine And.intro (Nat.le_of_ble_eq_true rfl) (And.intro ⟨0, (Int32.ofInt 1), rfl, by decide, i0⟩ ?_)
        intro v9 s11 h10
        have h10 : Iv s11 ∧ Kp s0 s11 ∧ vk s11 = ((vk s0).1, (vk s0).2) ∧ (v9.toInt = -1) := h10
        have i12 := h10.1
        have k13 : K_X10_tone s0 s11 := Kx.tr Kx.rf ((h10.2.1).px)
        have u14 : vk s11 = ((vk s0).1, (vk s0).2) := h10.2.2.1.trans rfl
        have q15 := h10.2.2.2
        show Iv s11 ∧ K_X10_tone s0 s11 ∧ vk s11 = ((vk s0).1, (vk s0).2) ∧ (((-30000 ≤ a1.toInt ∧ a1.toInt ≤ 30000 ∧ 0 ≤ a2.toInt ∧ a2.toInt ≤ 5) ∧ vg_adk (s0.1 20 1).toInt (s0.1 21) a1 (s11.1 20 1).toInt (s11.1 21)) ∨ (¬ (-30000 ≤ a1.toInt ∧ a1.toInt ≤ 30000 ∧ 0 ≤ a2.toInt ∧ a2.toInt ≤ 5) ∧ (s11.1 20 1).toInt = (s0.1 20 1).toInt ∧ ∀ j : Nat, s11.1 21 j = s0.1 21 j))
        exact ⟨i12, k13, u14, (by first | exact Or.inl ⟨by omega, None⟩ | exact Or.inr ⟨by omega, congrArg Int32.toInt (h10.2.1.1 20 1 rfl), fun j => h10.2.1.1 21 j rfl⟩)⟩
      · have c8 : ¬ (v1.toInt = 0) := c8
        refine And.intro (Nat.le_of_ble_eq_true rfl) (And.intro ⟨a2, (Int32.ofInt 0), (Int32.ofInt 5), rfl, trivial⟩ ?_)
        intro v16 s18 h17
        have h17 : s18 = s0 ∧ ((v16.toInt = 1 ∧ (Int32.ofInt 0).toInt ≤ a2.toInt ∧ a2.toInt ≤ (Int32.ofInt 5).toInt) ∨ (v16.toInt = 0 ∧ (a2.toInt < (Int32.ofInt 0).toInt ∨ (Int32.ofInt 5).toInt < a2.toInt))) := h17
        have q21 := h17.1.symm
        subst q21
        have q22 := h17.2
        refine And.intro (fun c23 => ?_) (fun c23 => ?_)
        · have c23 : ¬ v16.toInt = 0 := c23
          refine And.intro (Nat.le_of_ble_eq_true rfl) (And.intro ⟨20, a1, rfl, by decide, i0⟩ ?_)
          intro s25 h24
          have h24 : Iv s25 ∧ K_X0_add s0 s25 ∧ vk s25 = ((vk s0).1, (vk s0).2) ∧ (vg_adk (s0.1 20 1).toInt (s0.1 21) a1 (s25.1 20 1).toInt (s25.1 21)) := h24
          have i26 := h24.1
          have k27 : K_X10_tone s0 s25 := Kx.tr Kx.rf ((h24.2.1).xx (by decide))
          have u28 : vk s25 = ((vk s0).1, (vk s0).2) := h24.2.2.1.trans rfl
          have q29 := h24.2.2.2
          have y30 : vg_adk (s0.1 20 1).toInt (s0.1 21) a1 (s25.1 20 1).toInt (s25.1 21) := q29
          refine And.intro (Nat.le_of_ble_eq_true rfl) (And.intro ⟨31, 22, 4, a1, rfl, by decide, by decide, by decide, i26⟩ ?_)
          intro s32 h31
          have h31 : Iv s32 ∧ Kr s25 s32 ∧ vk s32 = ((vk s25).1, (vk s25).2) ∧ (0 ≤ (s32.1 31 4).toInt ∧ 0 ≤ (s32.1 31 5).toInt ∧ (s32.1 31 4).toInt + (s32.1 31 5).toInt ≤ 1000) := h31
          have i33 := h31.1
          have k34 : K_X10_tone s0 s32 := Kx.tr k27 ((h31.2.1).rx)
          have u35 : vk s32 = ((vk s0).1, (vk s0).2) := h31.2.2.1.trans u28
          have q36 := h31.2.2.2
          have y37 : vg_adk (s0.1 20 1).toInt (s0.1 21) a1 (s32.1 20 1).toInt (s32.1 21) := by rw [h31.2.1.1 20 1 rfl, show s32.1 21 = s25.1 21 from funext (fun j => h31.2.1.1 21 j rfl)]; exact y30
          intro v38 e39
          have g40 : s32.1 31 3 = v38 := by rw [e39]
          refine And.intro (fun c41 => ?_) (fun c41 => ?_)
          · have c41 : ¬ v38.toInt = 0 := c41
            refine And.intro (fun c42 => ?_) ?_
            · have c42 : a2.toInt < (0) ∨ (4) < a2.toInt := c42
              refine And.intro (Nat.le_of_ble_eq_true rfl) (And.intro ⟨31, rfl, by decide, i33, by omega⟩ ?_)
              intro v43 s45 h44
              have h44 : s45 = s32 ∧ (True) := h44
              have q48 := h44.1.symm
              subst q48
              refine And.intro (Nat.le_of_ble_eq_true rfl) (And.intro ⟨0, v43, rfl, by decide, i33⟩ ?_)
              intro v49 s51 h50
              have h50 : Iv s51 ∧ Kp s32 s51 ∧ vk s51 = ((vk s32).1, (vk s32).2) ∧ (v49 = v43 ∧ v49.toInt = v43.toInt) := h50
              have i52 := h50.1
              have k53 : K_X10_tone s0 s51 := Kx.tr k34 ((h50.2.1).px)
              have u54 : vk s51 = ((vk s0).1, (vk s0).2) := h50.2.2.1.trans u35
              have q55 := h50.2.2.2
              have y56 : vg_adk (s0.1 20 1).toInt (s0.1 21) a1 (s51.1 20 1).toInt (s51.1 21) := by rw [h50.2.1.1 20 1 rfl, show s51.1 21 = s32.1 21 from funext (fun j => h50.2.1.1 21 j rfl)]; exact y37
              show Iv s51 ∧ K_X10_tone s0 s51 ∧ vk s51 = ((vk s0).1, (vk s0).2) ∧ (((-30000 ≤ a1.toInt ∧ a1.toInt ≤ 30000 ∧ 0 ≤ a2.toInt ∧ a2.toInt ≤ 5) ∧ vg_adk (s0.1 20 1).toInt (s0.1 21) a1 (s51.1 20 1).toInt (s51.1 21)) ∨ (¬ (-30000 ≤ a1.toInt ∧ a1.toInt ≤ 30000 ∧ 0 ≤ a2.toInt ∧ a2.toInt ≤ 5) ∧ (s51.1 20 1).toInt = (s0.1 20 1).toInt ∧ ∀ j : Nat, s51.1 21 j = s0.1 21 j))
              exact ⟨i52, k53, u54, (by first | exact Or.inl ⟨by omega, y56⟩ | exact Or.inr ⟨by omega, congrArg Int32.toInt (h50.2.1.1 20 1 rfl), fun j => h50.2.1.1 21 j rfl⟩)⟩
            refine And.intro (fun c57 => ?_) ?_
            · have c57 : a2.toInt = (0) := c57
              intro v58 e59
              have g60 : s32.1 31 4 = v58 := by rw [e59]
              refine And.intro (Nat.le_of_ble_eq_true rfl) (And.intro ⟨0, v58, rfl, by decide, i33⟩ ?_)
              intro v61 s63 h62
              have h62 : Iv s63 ∧ Kp s32 s63 ∧ vk s63 = ((vk s32).1, (vk s32).2) ∧ (v61 = v58 ∧ v61.toInt = v58.toInt) := h62
              have i64 := h62.1
              have k65 : K_X10_tone s0 s63 := Kx.tr k34 ((h62.2.1).px)
              have u66 : vk s63 = ((vk s0).1, (vk s0).2) := h62.2.2.1.trans u35
              have q67 := h62.2.2.2
              have y68 : vg_adk (s0.1 20 1).toInt (s0.1 21) a1 (s63.1 20 1).toInt (s63.1 21) := by rw [h62.2.1.1 20 1 rfl, show s63.1 21 = s32.1 21 from funext (fun j => h62.2.1.1 21 j rfl)]; exact y37
              show Iv s63 ∧ K_X10_tone s0 s63 ∧ vk s63 = ((vk s0).1, (vk s0).2) ∧ (((-30000 ≤ a1.toInt ∧ a1.toInt ≤ 30000 ∧ 0 ≤ a2.toInt ∧ a2.toInt ≤ 5) ∧ vg_adk (s0.1 20 1).toInt (s0.1 21) a1 (s63.1 20 1).toInt (s63.1 21)) ∨ (¬ (-30000 ≤ a1.toInt ∧ a1.toInt ≤ 30000 ∧ 0 ≤ a2.toInt ∧ a2.toInt ≤ 5) ∧ (s63.1 20 1).toInt = (s0.1 20 1).toInt ∧ ∀ j : Nat, s63.1 21 j = s0.1 21 j))
              exact ⟨i64, k65, u66, (by first | exact Or.inl ⟨by omega, y68⟩ | exact Or.inr ⟨by omega, congrArg Int32.toInt (h62.2.1.1 20 1 rfl), fun j => h62.2.1.1 21 j rfl⟩)⟩
            refine And.intro (fun c69 => ?_) ?_
            · have c69 : a2.toInt = (1) := c69
              intro v70 e71
              have g72 : s32.1 31 5 = v70 := by rw [e71]
              refine And.intro (Nat.le_of_ble_eq_true rfl) (And.intro ⟨0, v70, rfl, by decide, i33⟩ ?_)
              intro v73 s75 h74
              have h74 : Iv s75 ∧ Kp s32 s75 ∧ vk s75 = ((vk s32).1, (vk s32).2) ∧ (v73 = v70 ∧ v73.toInt = v70.toInt) := h74
              have i76 := h74.1
              have k77 : K_X10_tone s0 s75 := Kx.tr k34 ((h74.2.1).px)
              have u78 : vk s75 = ((vk s0).1, (vk s0).2) := h74.2.2.1.trans u35
              have q79 := h74.2.2.2
              have y80 : vg_adk (s0.1 20 1).toInt (s0.1 21) a1 (s75.1 20 1).toInt (s75.1 21) := by rw [h74.2.1.1 20 1 rfl, show s75.1 21 = s32.1 21 from funext (fun j => h74.2.1.1 21 j rfl)]; exact y37
              show Iv s75 ∧ K_X10_tone s0 s75 ∧ vk s75 = ((vk s0).1, (vk s0).2) ∧ (((-30000 ≤ a1.toInt ∧ a1.toInt ≤ 30000 ∧ 0 ≤ a2.toInt ∧ a2.toInt ≤ 5) ∧ vg_adk (s0.1 20 1).toInt (s0.1 21) a1 (s75.1 20 1).toInt (s75.1 21)) ∨ (¬ (-30000 ≤ a1.toInt ∧ a1.toInt ≤ 30000 ∧ 0 ≤ a2.toInt ∧ a2.toInt ≤ 5) ∧ (s75.1 20 1).toInt = (s0.1 20 1).toInt ∧ ∀ j : Nat, s75.1 21 j = s0.1 21 j))
              exact ⟨i76, k77, u78, (by first | exact Or.inl ⟨by omega, y80⟩ | exact Or.inr ⟨by omega, congrArg Int32.toInt (h74.2.1.1 20 1 rfl), fun j => h74.2.1.1 21 j rfl⟩)⟩
            refine And.intro (fun c81 => ?_) ?_
            · have c81 : a2.toInt = (2) := c81
              refine And.intro (Nat.le_of_ble_eq_true rfl) (And.intro ⟨31, rfl, by decide, i33, by omega⟩ ?_)
              intro v82 s84 h83
              have h83 : s84 = s32 ∧ (True) := h83
              have q87 := h83.1.symm
              subst q87
              refine And.intro (Nat.le_of_ble_eq_true rfl) (And.intro ⟨0, v82, rfl, by decide, i33⟩ ?_)
              intro v88 s90 h89
              have h89 : Iv s90 ∧ Kp s32 s90 ∧ vk s90 = ((vk s32).1, (vk s32).2) ∧ (v88 = v82 ∧ v88.toInt = v82.toInt) := h89
              have i91 := h89.1
              have k92 : K_X10_tone s0 s90 := Kx.tr k34 ((h89.2.1).px)
              have u93 : vk s90 = ((vk s0).1, (vk s0).2) := h89.2.2.1.trans u35
              have q94 := h89.2.2.2
              have y95 : vg_adk (s0.1 20 1).toInt (s0.1 21) a1 (s90.1 20 1).toInt (s90.1 21) := by rw [h89.2.1.1 20 1 rfl, show s90.1 21 = s32.1 21 from funext (fun j => h89.2.1.1 21 j rfl)]; exact y37
              show Iv s90 ∧ K_X10_tone s0 s90 ∧ vk s90 = ((vk s0).1, (vk s0).2) ∧ (((-30000 ≤ a1.toInt ∧ a1.toInt ≤ 30000 ∧ 0 ≤ a2.toInt ∧ a2.toInt ≤ 5) ∧ vg_adk (s0.1 20 1).toInt (s0.1 21) a1 (s90.1 20 1).toInt (s90.1 21)) ∨ (¬ (-30000 ≤ a1.toInt ∧ a1.toInt ≤ 30000 ∧ 0 ≤ a2.toInt ∧ a2.toInt ≤ 5) ∧ (s90.1 20 1).toInt = (s0.1 20 1).toInt ∧ ∀ j : Nat, s90.1 21 j = s0.1 21 j))
              exact ⟨i91, k92, u93, (by first | exact Or.inl ⟨by omega, y95⟩ | exact Or.inr ⟨by omega, congrArg Int32.toInt (h89.2.1.1 20 1 rfl), fun j => h89.2.1.1 21 j rfl⟩)⟩
            refine And.intro (fun c96 => ?_) ?_
            · have c96 : a2.toInt = (3) := c96
              refine And.intro (Nat.le_of_ble_eq_true rfl) (And.intro ⟨31, rfl, by decide, i33, by omega⟩ ?_)
              intro v97 s99 h98
              have h98 : s99 = s32 ∧ (True) := h98
              have q102 := h98.1.symm
              subst q102
              refine And.intro (Nat.le_of_ble_eq_true rfl) (And.intro ⟨0, v97, rfl, by decide, i33⟩ ?_)
              intro v103 s105 h104
              have h104 : Iv s105 ∧ Kp s32 s105 ∧ vk s105 = ((vk s32).1, (vk s32).2) ∧ (v103 = v97 ∧ v103.toInt = v97.toInt) := h104
              have i106 := h104.1
              have k107 : K_X10_tone s0 s105 := Kx.tr k34 ((h104.2.1).px)
              have u108 : vk s105 = ((vk s0).1, (vk s0).2) := h104.2.2.1.trans u35
              have q109 := h104.2.2.2
              have y110 : vg_adk (s0.1 20 1).toInt (s0.1 21) a1 (s105.1 20 1).toInt (s105.1 21) := by rw [h104.2.1.1 20 1 rfl, show s105.1 21 = s32.1 21 from funext (fun j => h104.2.1.1 21 j rfl)]; exact y37
              show Iv s105 ∧ K_X10_tone s0 s105 ∧ vk s105 = ((vk s0).1, (vk s0).2) ∧ (((-30000 ≤ a1.toInt ∧ a1.toInt ≤ 30000 ∧ 0 ≤ a2.toInt ∧ a2.toInt ≤ 5) ∧ vg_adk (s0.1 20 1).toInt (s0.1 21) a1 (s105.1 20 1).toInt (s105.1 21)) ∨ (¬ (-30000 ≤ a1.toInt ∧ a1.toInt ≤ 30000 ∧ 0 ≤ a2.toInt ∧ a2.toInt ≤ 5) ∧ (s105.1 20 1).toInt = (s0.1 20 1).toInt ∧ ∀ j : Nat, s105.1 21 j = s0.1 21 j))
              exact ⟨i106, k107, u108, (by first | exact Or.inl ⟨by omega, y110⟩ | exact Or.inr ⟨by omega, congrArg Int32.toInt (h104.2.1.1 20 1 rfl), fun j => h104.2.1.1 21 j rfl⟩)⟩
            refine And.intro (fun c111 => ?_) ?_
            · have c111 : a2.toInt = (4) := c111
              refine And.intro (Nat.le_of_ble_eq_true rfl) (And.intro ⟨31, rfl, by decide, i33, by omega⟩ ?_)
              intro v112 s114 h113
              have h113 : s114 = s32 ∧ (True) := h113
              have q117 := h113.1.symm
              subst q117
              refine And.intro (Nat.le_of_ble_eq_true rfl) (And.intro ⟨0, v112, rfl, by decide, i33⟩ ?_)
              intro v118 s120 h119
              have h119 : Iv s120 ∧ Kp s32 s120 ∧ vk s120 = ((vk s32).1, (vk s32).2) ∧ (v118 = v112 ∧ v118.toInt = v112.toInt) := h119
              have i121 := h119.1
              have k122 : K_X10_tone s0 s120 := Kx.tr k34 ((h119.2.1).px)
              have u123 : vk s120 = ((vk s0).1, (vk s0).2) := h119.2.2.1.trans u35
              have q124 := h119.2.2.2
              have y125 : vg_adk (s0.1 20 1).toInt (s0.1 21) a1 (s120.1 20 1).toInt (s120.1 21) := by rw [h119.2.1.1 20 1 rfl, show s120.1 21 = s32.1 21 from funext (fun j => h119.2.1.1 21 j rfl)]; exact y37
              show Iv s120 ∧ K_X10_tone s0 s120 ∧ vk s120 = ((vk s0).1, (vk s0).2) ∧ (((-30000 ≤ a1.toInt ∧ a1.toInt ≤ 30000 ∧ 0 ≤ a2.toInt ∧ a2.toInt ≤ 5) ∧ vg_adk (s0.1 20 1).toInt (s0.1 21) a1 (s120.1 20 1).toInt (s120.1 21)) ∨ (¬ (-30000 ≤ a1.toInt ∧ a1.toInt ≤ 30000 ∧ 0 ≤ a2.toInt ∧ a2.toInt ≤ 5) ∧ (s120.1 20 1).toInt = (s0.1 20 1).toInt ∧ ∀ j : Nat, s120.1 21 j = s0.1 21 j))
              exact ⟨i121, k122, u123, (by first | exact Or.inl ⟨by omega, y125⟩ | exact Or.inr ⟨by omega, congrArg Int32.toInt (h119.2.1.1 20 1 rfl), fun j => h119.2.1.1 21 j rfl⟩)⟩
            exact trivial
          · have c41 : ¬ (¬ v38.toInt = 0) := c41
            refine And.intro (Nat.le_of_ble_eq_true rfl) (And.intro ⟨0, (Int32.ofInt 5), rfl, by decide, i33⟩ ?_)
            intro v126 s128 h127
            have h127 : Iv s128 ∧ Kp s32 s128 ∧ vk s128 = ((vk s32).1, (vk s32).2) ∧ (v126.toInt = -1) := h127
            have i129 := h127.1
            have k130 : K_X10_tone s0 s128 := Kx.tr k34 ((h127.2.1).px)
            have u131 : vk s128 = ((vk s0).1, (vk s0).2) := h127.2.2.1.trans u35
            have q132 := h127.2.2.2
            have y133 : vg_adk (s0.1 20 1).toInt (s0.1 21) a1 (s128.1 20 1).toInt (s128.1 21) := by rw [h127.2.1.1 20 1 rfl, show s128.1 21 = s32.1 21 from funext (fun j => h127.2.1.1 21 j rfl)]; exact y37
            show Iv s128 ∧ K_X10_tone s0 s128 ∧ vk s128 = ((vk s0).1, (vk s0).2) ∧ (((-30000 ≤ a1.toInt ∧ a1.toInt ≤ 30000 ∧ 0 ≤ a2.toInt ∧ a2.toInt ≤ 5) ∧ vg_adk (s0.1 20 1).toInt (s0.1 21) a1 (s128.1 20 1).toInt (s128.1 21)) ∨ (¬ (-30000 ≤ a1.toInt ∧ a1.toInt ≤ 30000 ∧ 0 ≤ a2.toInt ∧ a2.toInt ≤ 5) ∧ (s128.1 20 1).toInt = (s0.1 20 1).toInt ∧ ∀ j : Nat, s128.1 21 j = s0.1 21 j))
            exact ⟨i129, k130, u131, (by first | exact Or.inl ⟨by omega, y133⟩ | exact Or.inr ⟨by omega, congrArg Int32.toInt (h127.2.1.1 20 1 rfl), fun j => h127.2.1.1 21 j rfl⟩)⟩
        · have c23 : ¬ (¬ v16.toInt = 0) := c23
          refine And.intro (Nat.le_of_ble_eq_true rfl) (And.intro ⟨0, (Int32.ofInt 1), rfl, by decide, i0⟩ ?_)
          intro v134 s136 h135
          have h135 : Iv s136 ∧ Kp s0 s136 ∧ vk s136 = ((vk s0).1, (vk s0).2) ∧ (v134.toInt = -1) := h135
          have i137 := h135.1
          have k138 : K_X10_tone s0 s136 := Kx.tr Kx.rf ((h135.2.1).px)
          have u139 : vk s136 = ((vk s0).1, (vk s0).2) := h135.2.2.1.trans rfl
          have q140 := h135.2.2.2
          show Iv s136 ∧ K_X10_tone s0 s136 ∧ vk s136 = ((vk s0).1, (vk s0).2) ∧ (((-30000 ≤ a1.toInt ∧ a1.toInt ≤ 30000 ∧ 0 ≤ a2.toInt ∧ a2.toInt ≤ 5) ∧ vg_adk (s0.1 20 1).toInt (s0.1 21) a1 (s136.1 20 1).toInt (s136.1 21)) ∨ (¬ (-30000 ≤ a1.toInt ∧ a1.toInt ≤ 30000 ∧ 0 ≤ a2.toInt ∧ a2.toInt ≤ 5) ∧ (s136.1 20 1).toInt = (s0.1 20 1).toInt ∧ ∀ j : Nat, s136.1 21 j = s0.1 21 j))
          exact ⟨i137, k138, u139, (by first | exact Or.inl ⟨by omega, None⟩ | exact Or.inr ⟨by omega, congrArg Int32.toInt (h135.2.1.1 20 1 rfl), fun j => h135.2.1.1 21 j rfl⟩)⟩
def o_X10_idle : List vg_I := [(0, .iload_n 1, 1, 0, 0, 0, 0), (1, .invokestatic 86, 3, 0, 1, 1, 481), (4, .ifCond .eq 34, 3, 0, 0, 0, 0), (7, .iload_n 2, 1, 0, 0, 0, 0), (8, .iconst 1, 1, 0, 0, 0, 0), (9, .bipush 60, 2, 0, 0, 0, 0), (11, .invokestatic 82, 3, 1, 1, 3, 478), (14, .ifCond .eq 24, 3, 0, 0, 0, 0), (17, .iload_n 3, 1, 0, 0, 0, 0), (18, .iconst 1, 1, 0, 0, 0, 0), (19, .sipush 1000, 3, 0, 0, 0, 0), (22, .invokestatic 82, 3, 1, 1, 3, 478), (25, .ifCond .eq 13, 3, 0, 0, 0, 0), (28, .iload 4, 2, 0, 0, 0, 0), (30, .iconst 0, 1, 0, 0, 0, 0), (31, .iconst 1, 1, 0, 0, 0, 0), (32, .invokestatic 82, 3, 1, 1, 3, 478), (35, .ifCond .ne 9, 3, 0, 0, 0, 0), (38, .aload_n 0, 1, 0, 0, 0, 0), (39, .iconst 1, 1, 0, 0, 0, 0), (40, .invokevirtual 90, 3, 2, 10, 1, 484), (43, .ireturn, 1, 0, 0, 0, 0), (44, .iload_n 1, 1, 0, 0, 0, 0), (45, .iload_n 2, 1, 0, 0, 0, 0), (46, .iadd, 1, 0, 0, 0, 0), (47, .iconst 1, 1, 0, 0, 0, 0), (48, .isub, 1, 0, 0, 0, 0), (49, .invokestatic 86, 3, 0, 1, 1, 481), (52, .ifCond .ne 9, 3, 0, 0, 0, 0), (55, .aload_n 0, 1, 0, 0, 0, 0), (56, .iconst 1, 1, 0, 0, 0, 0), (57, .invokevirtual 90, 3, 2, 10, 1, 484), (60, .ireturn, 1, 0, 0, 0, 0), (61, .iconst 0, 1, 0, 0, 0, 0), (62, .istore 5, 2, 0, 0, 0, 0), (64, .sipush 1001, 3, 0, 0, 0, 0), (67, .istore 6, 2, 0, 0, 0, 0), (69, .iload_n 1, 1, 0, 0, 0, 0), (70, .istore 7, 2, 0, 0, 0, 0), (72, .iconst 0, 1, 0, 0, 0, 0), (73, .istore 8, 2, 0, 0, 0, 0), (75, .iload 8, 2, 0, 0, 0, 0), (77, .iload_n 2, 1, 0, 0, 0, 0), (78, .if_icmp .ge 82, 3, 0, 0, 0, 0), (81, .aload_n 0, 1, 0, 0, 0, 0), (82, .getfield 72, 3, 440, 10, 13, 0), (85, .aload_n 0, 1, 0, 0, 0, 0), (86, .getfield 63, 3, 438, 10, 11, 0), (89, .aload_n 0, 1, 0, 0, 0, 0), (90, .getfield 19, 3, 431, 10, 4, 0), (93, .getfield 127, 3, 179, 5, 0, 0), (96, .iload_n 1, 1, 0, 0, 0, 0), (97, .iload 8, 2, 0, 0, 0, 0), (99, .iadd, 1, 0, 0, 0, 0), (100, .invokevirtual 348, 3, 3, 9, 3, 948), (103, .aload_n 0, 1, 0, 0, 0, 0), (104, .getfield 72, 3, 440, 10, 13, 0), (107, .getfield 352, 3, 370, 9, 3, 0), (110, .ifCond .eq 44, 3, 0, 0, 0, 0), (113, .aload_n 0, 1, 0, 0, 0, 0), (114, .getfield 72, 3, 440, 10, 13, 0), (117, .getfield 358, 3, 374, 9, 5, 0), (120, .iload_n 3, 1, 0, 0, 0, 0), (121, .if_icmp .gt 33, 3, 0, 0, 0, 0), (124, .iinc 5 1, 3, 0, 0, 0, 0), (127, .aload_n 0, 1, 0, 0, 0, 0), (128, .getfield 72, 3, 440, 10, 13, 0), (131, .getfield 358, 3, 374, 9, 5, 0), (134, .iload 6, 2, 0, 0, 0, 0), (136, .if_icmp .ge 18, 3, 0, 0, 0, 0), (139, .aload_n 0, 1, 0, 0, 0, 0), (140, .getfield 72, 3, 440, 10, 13, 0), (143, .getfield 358, 3, 374, 9, 5, 0), (146, .istore 6, 2, 0, 0, 0, 0), (148, .iload_n 1, 1, 0, 0, 0, 0), (149, .iload 8, 2, 0, 0, 0, 0), (151, .iadd, 1, 0, 0, 0, 0), (152, .istore 7, 2, 0, 0, 0, 0), (154, .iinc 8 1, 3, 0, 0, 0, 0), (157, .goto (-82), 3, 0, 0, 0, 0), (160, .iload 4, 2, 0, 0, 0, 0), (162, .ifCond .ne 10, 3, 0, 0, 0, 0), (165, .aload_n 0, 1, 0, 0, 0, 0), (166, .iload 5, 2, 0, 0, 0, 0), (168, .invokevirtual 113, 3, 4, 10, 1, 520), (171, .ireturn, 1, 0, 0, 0, 0), (172, .iload 5, 2, 0, 0, 0, 0), (174, .ifCond .ne 11, 3, 0, 0, 0, 0), (177, .aload_n 0, 1, 0, 0, 0, 0), (178, .iconst 5, 1, 0, 0, 0, 0), (179, .invokevirtual 90, 3, 2, 10, 1, 484), (182, .goto 9, 3, 0, 0, 0, 0), (185, .aload_n 0, 1, 0, 0, 0, 0), (186, .iload 7, 2, 0, 0, 0, 0), (188, .invokevirtual 113, 3, 4, 10, 1, 520), (191, .ireturn, 1, 0, 0, 0, 0)]
set_option maxRecDepth 100000 in
set_option maxHeartbeats 4000000 in
theorem c_X10_idle (l : Launch) (G : vg_G) (hp : vg_Hp G) : vg_Ct l G vg_sh r_X10_idle := by
  refine vg_meth hp vg_sh_ok r_X10_idle k_X10_idle rfl (fun h => by cases h) o_X10_idle [r_X10_isNumber, r_X10_within, r_X10_refuse, r_X9_follow, r_X10_answer] false (by decide +kernel) (by decide +kernel) ⟨_, _, rfl, rfl⟩ (List.forall_mem_cons.mpr ⟨⟨c_X10_isNumber l G hp, Nat.le_of_ble_eq_true rfl, Nat.le_of_ble_eq_true rfl⟩, List.forall_mem_cons.mpr ⟨⟨c_X10_within l G hp, Nat.le_of_ble_eq_true rfl, Nat.le_of_ble_eq_true rfl⟩, List.forall_mem_cons.mpr ⟨⟨c_X10_refuse l G hp, Nat.le_of_ble_eq_true rfl, Nat.le_of_ble_eq_true rfl⟩, List.forall_mem_cons.mpr ⟨⟨c_X9_follow l G hp, Nat.le_of_ble_eq_true rfl, Nat.le_of_ble_eq_true rfl⟩, List.forall_mem_cons.mpr ⟨⟨c_X10_answer l G hp, Nat.le_of_ble_eq_true rfl, Nat.le_of_ble_eq_true rfl⟩, fun _ h => absurd h List.not_mem_nil⟩⟩⟩⟩⟩) (fun h => by cases h) 600 ?_
  intro as s0 hpre
  obtain ⟨r, a1, a2, a3, a4, rfl, hr, i0⟩ := hpre
  simp only [List.mem_cons, List.not_mem_nil, or_false] at hr
  rcases hr with rfl
  ·
    have z0 : (Int32.ofInt 0).toInt = 0 := by decide
    have z1 : (Int32.ofInt 1).toInt = 1 := by decide
    have z5 : (Int32.ofInt 5).toInt = 5 := by decide
    have z60 : (Int32.ofInt 60).toInt = 60 := by decide
    have z1000 : (Int32.ofInt 1000).toInt = 1000 := by decide
    have z1001 : (Int32.ofInt 1001).toInt = 1001 := by decide
    refine ⟨Nat.le_of_ble_eq_true rfl, [(75, [true, true, true, true, true, true, true, true, true], (fun L t => ∃ (x5 : Int32) (x6 : Int32) (x7 : Int32) (x8 : Int32), L = [some (.ref 0), some (.int a1), some (.int a2), some (.int a3), some (.int a4), some (.int x5), some (.int x6), some (.int x7), some (.int x8)] ∧ (0 : Int) ≤ x8.toInt ∧ x8.toInt ≤ (60 : Int) ∧ (-30000 : Int) ≤ a1.toInt ∧ a1.toInt ≤ (30000 : Int) ∧ (1 : Int) ≤ a2.toInt ∧ a2.toInt ≤ (60 : Int) ∧ (1 : Int) ≤ a3.toInt ∧ a3.toInt ≤ (1000 : Int) ∧ (0 : Int) ≤ a4.toInt ∧ a4.toInt ≤ (1 : Int) ∧ Iv t ∧ Kr s0 t ∧ vk t = ((vk s0).1, (vk s0).2)), (fun L _ => (0 + (60 - (vg_li L 8).toInt) * 1000000000000).toNat))], ?_, List.forall_mem_cons.mpr ⟨?_, fun _ h => absurd h List.not_mem_nil⟩⟩
    ·
      refine And.intro (Nat.le_of_ble_eq_true rfl) (And.intro ⟨a1, rfl, trivial⟩ ?_)
      intro v1 s3 h2
      have h2 : s3 = s0 ∧ ((v1.toInt = 1 ∧ -30000 ≤ a1.toInt ∧ a1.toInt ≤ 30000) ∨ (v1.toInt = 0 ∧ (a1.toInt < -30000 ∨ 30000 < a1.toInt))) := h2
      have q6 := h2.1.symm
      subst q6
      have q7 := h2.2
      refine And.intro (fun c8 => ?_) (fun c8 => ?_)
      · have c8 : v1.toInt = 0 := c8
        refine And.intro (Nat.le_of_ble_eq_true rfl) (And.intro ⟨0, (Int32.ofInt 1), rfl, by decide, i0⟩ ?_)
        intro v9 s11 h10
        have h10 : Iv s11 ∧ Kp s0 s11 ∧ vk s11 = ((vk s0).1, (vk s0).2) ∧ (v9.toInt = -1) := h10
        have i12 := h10.1
        have k13 : Kr s0 s11 := Kx.tr Kx.rf (((h10.2.1).pc).cr)
        have u14 : vk s11 = ((vk s0).1, (vk s0).2) := h10.2.2.1.trans rfl
        have q15 := h10.2.2.2
        show Iv s11 ∧ Kr s0 s11 ∧ vk s11 = ((vk s0).1, (vk s0).2) ∧ (True)
        exact ⟨i12, k13, u14, (trivial)⟩
      · have c8 : ¬ (v1.toInt = 0) := c8
        refine And.intro (Nat.le_of_ble_eq_true rfl) (And.intro ⟨a2, (Int32.ofInt 1), (Int32.ofInt 60), rfl, trivial⟩ ?_)
        intro v16 s18 h17
        have h17 : s18 = s0 ∧ ((v16.toInt = 1 ∧ (Int32.ofInt 1).toInt ≤ a2.toInt ∧ a2.toInt ≤ (Int32.ofInt 60).toInt) ∨ (v16.toInt = 0 ∧ (a2.toInt < (Int32.ofInt 1).toInt ∨ (Int32.ofInt 60).toInt < a2.toInt))) := h17
        have q21 := h17.1.symm
        subst q21
        have q22 := h17.2
        refine And.intro (fun c23 => ?_) (fun c23 => ?_)
        · have c23 : v16.toInt = 0 := c23
          refine And.intro (Nat.le_of_ble_eq_true rfl) (And.intro ⟨0, (Int32.ofInt 1), rfl, by decide, i0⟩ ?_)
          intro v24 s26 h25
          have h25 : Iv s26 ∧ Kp s0 s26 ∧ vk s26 = ((vk s0).1, (vk s0).2) ∧ (v24.toInt = -1) := h25
          have i27 := h25.1
          have k28 : Kr s0 s26 := Kx.tr Kx.rf (((h25.2.1).pc).cr)
          have u29 : vk s26 = ((vk s0).1, (vk s0).2) := h25.2.2.1.trans rfl
          have q30 := h25.2.2.2
          show Iv s26 ∧ Kr s0 s26 ∧ vk s26 = ((vk s0).1, (vk s0).2) ∧ (True)
          exact ⟨i27, k28, u29, (trivial)⟩
        · have c23 : ¬ (v16.toInt = 0) := c23
          refine And.intro (Nat.le_of_ble_eq_true rfl) (And.intro ⟨a3, (Int32.ofInt 1), (Int32.ofInt 1000), rfl, trivial⟩ ?_)
          intro v31 s33 h32
          have h32 : s33 = s0 ∧ ((v31.toInt = 1 ∧ (Int32.ofInt 1).toInt ≤ a3.toInt ∧ a3.toInt ≤ (Int32.ofInt 1000).toInt) ∨ (v31.toInt = 0 ∧ (a3.toInt < (Int32.ofInt 1).toInt ∨ (Int32.ofInt 1000).toInt < a3.toInt))) := h32
          have q36 := h32.1.symm
          subst q36
          have q37 := h32.2
          refine And.intro (fun c38 => ?_) (fun c38 => ?_)
          · have c38 : v31.toInt = 0 := c38
            refine And.intro (Nat.le_of_ble_eq_true rfl) (And.intro ⟨0, (Int32.ofInt 1), rfl, by decide, i0⟩ ?_)
            intro v39 s41 h40
            have h40 : Iv s41 ∧ Kp s0 s41 ∧ vk s41 = ((vk s0).1, (vk s0).2) ∧ (v39.toInt = -1) := h40
            have i42 := h40.1
            have k43 : Kr s0 s41 := Kx.tr Kx.rf (((h40.2.1).pc).cr)
            have u44 : vk s41 = ((vk s0).1, (vk s0).2) := h40.2.2.1.trans rfl
            have q45 := h40.2.2.2
            show Iv s41 ∧ Kr s0 s41 ∧ vk s41 = ((vk s0).1, (vk s0).2) ∧ (True)
            exact ⟨i42, k43, u44, (trivial)⟩
          · have c38 : ¬ (v31.toInt = 0) := c38
            refine And.intro (Nat.le_of_ble_eq_true rfl) (And.intro ⟨a4, (Int32.ofInt 0), (Int32.ofInt 1), rfl, trivial⟩ ?_)
            intro v46 s48 h47
            have h47 : s48 = s0 ∧ ((v46.toInt = 1 ∧ (Int32.ofInt 0).toInt ≤ a4.toInt ∧ a4.toInt ≤ (Int32.ofInt 1).toInt) ∨ (v46.toInt = 0 ∧ (a4.toInt < (Int32.ofInt 0).toInt ∨ (Int32.ofInt 1).toInt < a4.toInt))) := h47
            have q51 := h47.1.symm
            subst q51
            have q52 := h47.2
            refine And.intro (fun c53 => ?_) (fun c53 => ?_)
            · have c53 : ¬ v46.toInt = 0 := c53
              intro v54 e55
              have b56 := vg_add e55 (by omega) (by omega)
              intro v57 e58
              have b59 := vg_sub e58 (by omega) (by omega)
              refine And.intro (Nat.le_of_ble_eq_true rfl) (And.intro ⟨v57, rfl, trivial⟩ ?_)
              intro v60 s62 h61
              have h61 : s62 = s0 ∧ ((v60.toInt = 1 ∧ -30000 ≤ v57.toInt ∧ v57.toInt ≤ 30000) ∨ (v60.toInt = 0 ∧ (v57.toInt < -30000 ∨ 30000 < v57.toInt))) := h61
              have q65 := h61.1.symm
              subst q65
              have q66 := h61.2
              refine And.intro (fun c67 => ?_) (fun c67 => ?_)
              · have c67 : ¬ v60.toInt = 0 := c67
                exact ⟨rfl, ⟨(Int32.ofInt 0), (Int32.ofInt 1001), a1, (Int32.ofInt 0), rfl, (by omega), (by omega), (by omega), (by omega), (by omega), (by omega), (by omega), (by omega), (by omega), (by omega), i0, Kx.rf, rfl⟩, trivial⟩
              · have c67 : ¬ (¬ v60.toInt = 0) := c67
                refine And.intro (Nat.le_of_ble_eq_true rfl) (And.intro ⟨0, (Int32.ofInt 1), rfl, by decide, i0⟩ ?_)
                intro v68 s70 h69
                have h69 : Iv s70 ∧ Kp s0 s70 ∧ vk s70 = ((vk s0).1, (vk s0).2) ∧ (v68.toInt = -1) := h69
                have i71 := h69.1
                have k72 : Kr s0 s70 := Kx.tr Kx.rf (((h69.2.1).pc).cr)
                have u73 : vk s70 = ((vk s0).1, (vk s0).2) := h69.2.2.1.trans rfl
                have q74 := h69.2.2.2
                show Iv s70 ∧ Kr s0 s70 ∧ vk s70 = ((vk s0).1, (vk s0).2) ∧ (True)
                exact ⟨i71, k72, u73, (trivial)⟩
            · have c53 : ¬ (¬ v46.toInt = 0) := c53
              refine And.intro (Nat.le_of_ble_eq_true rfl) (And.intro ⟨0, (Int32.ofInt 1), rfl, by decide, i0⟩ ?_)
              intro v75 s77 h76
              have h76 : Iv s77 ∧ Kp s0 s77 ∧ vk s77 = ((vk s0).1, (vk s0).2) ∧ (v75.toInt = -1) := h76
              have i78 := h76.1
              have k79 : Kr s0 s77 := Kx.tr Kx.rf (((h76.2.1).pc).cr)
              have u80 : vk s77 = ((vk s0).1, (vk s0).2) := h76.2.2.1.trans rfl
              have q81 := h76.2.2.2
              show Iv s77 ∧ Kr s0 s77 ∧ vk s77 = ((vk s0).1, (vk s0).2) ∧ (True)
              exact ⟨i78, k79, u80, (trivial)⟩
    ·
      intro L s96 hL
      obtain ⟨w82, w83, w84, w85, rfl, b86, b87, b88, b89, b90, b91, b92, b93, b94, b95, i97, k98, u99⟩ := hL
      refine And.intro (fun c100 => ?_) (fun c100 => ?_)
      · have c100 : a2.toInt ≤ w85.toInt := c100
        refine And.intro (fun c101 => ?_) (fun c101 => ?_)
        · have c101 : ¬ a4.toInt = 0 := c101
          refine And.intro (fun c102 => ?_) (fun c102 => ?_)
          · have c102 : ¬ w82.toInt = 0 := c102
            refine And.intro (Nat.le_of_ble_eq_true rfl) (And.intro ⟨0, w84, rfl, by decide, i97⟩ ?_)
            intro v103 s105 h104
            have h104 : Iv s105 ∧ Kp s96 s105 ∧ vk s105 = ((vk s96).1, (vk s96).2) ∧ (v103 = w84 ∧ v103.toInt = w84.toInt) := h104
            have i106 := h104.1
            have k107 : Kr s0 s105 := Kx.tr k98 (((h104.2.1).pc).cr)
            have u108 : vk s105 = ((vk s0).1, (vk s0).2) := h104.2.2.1.trans u99
            have q109 := h104.2.2.2
            show Iv s105 ∧ Kr s0 s105 ∧ vk s105 = ((vk s0).1, (vk s0).2) ∧ (True)
            exact ⟨i106, k107, u108, (trivial)⟩
          · have c102 : ¬ (¬ w82.toInt = 0) := c102
            refine And.intro (Nat.le_of_ble_eq_true rfl) (And.intro ⟨0, (Int32.ofInt 5), rfl, by decide, i97⟩ ?_)
            intro v110 s112 h111
            have h111 : Iv s112 ∧ Kp s96 s112 ∧ vk s112 = ((vk s96).1, (vk s96).2) ∧ (v110.toInt = -1) := h111
            have i113 := h111.1
            have k114 : Kr s0 s112 := Kx.tr k98 (((h111.2.1).pc).cr)
            have u115 : vk s112 = ((vk s0).1, (vk s0).2) := h111.2.2.1.trans u99
            have q116 := h111.2.2.2
            show Iv s112 ∧ Kr s0 s112 ∧ vk s112 = ((vk s0).1, (vk s0).2) ∧ (True)
            exact ⟨i113, k114, u115, (trivial)⟩
        · have c101 : ¬ (¬ a4.toInt = 0) := c101
          refine And.intro (Nat.le_of_ble_eq_true rfl) (And.intro ⟨0, w82, rfl, by decide, i97⟩ ?_)
          intro v117 s119 h118
          have h118 : Iv s119 ∧ Kp s96 s119 ∧ vk s119 = ((vk s96).1, (vk s96).2) ∧ (v117 = w82 ∧ v117.toInt = w82.toInt) := h118
          have i120 := h118.1
          have k121 : Kr s0 s119 := Kx.tr k98 (((h118.2.1).pc).cr)
          have u122 : vk s119 = ((vk s0).1, (vk s0).2) := h118.2.2.1.trans u99
          have q123 := h118.2.2.2
          show Iv s119 ∧ Kr s0 s119 ∧ vk s119 = ((vk s0).1, (vk s0).2) ∧ (True)
          exact ⟨i120, k121, u122, (trivial)⟩
      · have c100 : ¬ (a2.toInt ≤ w85.toInt) := c100
        intro v124 e125
        have b126 := vg_add e125 (by omega) (by omega)
        refine And.intro (Nat.le_of_ble_eq_true rfl) (And.intro ⟨31, 22, 4, v124, rfl, by decide, by decide, by decide, i97⟩ ?_)
        intro s128 h127
        have h127 : Iv s128 ∧ Kr s96 s128 ∧ vk s128 = ((vk s96).1, (vk s96).2) ∧ (0 ≤ (s128.1 31 4).toInt ∧ 0 ≤ (s128.1 31 5).toInt ∧ (s128.1 31 4).toInt + (s128.1 31 5).toInt ≤ 1000) := h127
        have i129 := h127.1
        have k130 : Kr s0 s128 := Kx.tr k98 (h127.2.1)
        have u131 : vk s128 = ((vk s0).1, (vk s0).2) := h127.2.2.1.trans u99
        have q132 := h127.2.2.2
        intro v133 e134
        have g135 : s128.1 31 3 = v133 := by rw [e134]
        refine And.intro (fun c136 => ?_) (fun c136 => ?_)
        · have c136 : v133.toInt = 0 := c136
          intro v137 e138
          have b139 := vg_add e138 (by omega) (by omega)
          exact ⟨rfl, ⟨w82, w83, w84, v137, rfl, (by omega), (by omega), (by omega), (by omega), (by omega), (by omega), (by omega), (by omega), (by omega), (by omega), i129, k130, u131⟩, (by show (0 + (60 - v137.toInt) * 1000000000000).toNat < (0 + (60 - w85.toInt) * 1000000000000).toNat; omega)⟩
        · have c136 : ¬ (v133.toInt = 0) := c136
          intro v140 e141
          have g142 : s128.1 31 5 = v140 := by rw [e141]
          have b143 : v140.toInt = (s128.1 31 5).toInt := congrArg Int32.toInt e141
          refine And.intro (fun c144 => ?_) (fun c144 => ?_)
          · have c144 : a3.toInt < v140.toInt := c144
            intro v145 e146
            have b147 := vg_add e146 (by omega) (by omega)
            exact ⟨rfl, ⟨w82, w83, w84, v145, rfl, (by omega), (by omega), (by omega), (by omega), (by omega), (by omega), (by omega), (by omega), (by omega), (by omega), i129, k130, u131⟩, (by show (0 + (60 - v145.toInt) * 1000000000000).toNat < (0 + (60 - w85.toInt) * 1000000000000).toNat; omega)⟩
          · have c144 : ¬ (a3.toInt < v140.toInt) := c144
            intro v148 e149
            intro v150 e151
            have w152 : v140 = v150 := by rw [e151, g142]
            subst w152
            refine And.intro (fun c153 => ?_) (fun c153 => ?_)
            · have c153 : w83.toInt ≤ v140.toInt := c153
              intro v154 e155
              have b156 := vg_add e155 (by omega) (by omega)
              exact ⟨rfl, ⟨v148, w83, w84, v154, rfl, (by omega), (by omega), (by omega), (by omega), (by omega), (by omega), (by omega), (by omega), (by omega), (by omega), i129, k130, u131⟩, (by show (0 + (60 - v154.toInt) * 1000000000000).toNat < (0 + (60 - w85.toInt) * 1000000000000).toNat; omega)⟩
            · have c153 : ¬ (w83.toInt ≤ v140.toInt) := c153
              intro v157 e158
              have w159 : v140 = v157 := by rw [e158, g142]
              subst w159
              intro v160 e161
              have b162 := vg_add e161 (by omega) (by omega)
              intro v163 e164
              have b165 := vg_add e164 (by omega) (by omega)
              exact ⟨rfl, ⟨v148, v140, v160, v163, rfl, (by omega), (by omega), (by omega), (by omega), (by omega), (by omega), (by omega), (by omega), (by omega), (by omega), i129, k130, u131⟩, (by show (0 + (60 - v163.toInt) * 1000000000000).toNat < (0 + (60 - w85.toInt) * 1000000000000).toNat; omega)⟩
def o_X10_half : List vg_I := [(0, .iload_n 1, 1, 0, 0, 0, 0), (1, .invokestatic 193, 3, 0, 1, 1, 601), (4, .ifCond .eq 12, 3, 0, 0, 0, 0), (7, .iload_n 2, 1, 0, 0, 0, 0), (8, .iconst 0, 1, 0, 0, 0, 0), (9, .iconst 3, 1, 0, 0, 0, 0), (10, .invokestatic 82, 3, 1, 1, 3, 478), (13, .ifCond .ne 9, 3, 0, 0, 0, 0), (16, .aload_n 0, 1, 0, 0, 0, 0), (17, .iconst 1, 1, 0, 0, 0, 0), (18, .invokevirtual 90, 3, 2, 10, 1, 484), (21, .ireturn, 1, 0, 0, 0, 0), (22, .iload_n 2, 1, 0, 0, 0, 0), (23, .tableswitch 72 0 2 #[25, 38, 59], 25, 0, 0, 0, 0), (48, .aload_n 0, 1, 0, 0, 0, 0), (49, .aload_n 0, 1, 0, 0, 0, 0), (50, .getfield 40, 3, 434, 10, 7, 0), (53, .iload_n 1, 1, 0, 0, 0, 0), (54, .invokevirtual 190, 3, 3, 8, 1, 583), (57, .invokevirtual 113, 3, 4, 10, 1, 520), (60, .ireturn, 1, 0, 0, 0, 0), (61, .aload_n 0, 1, 0, 0, 0, 0), (62, .aload_n 0, 1, 0, 0, 0, 0), (63, .getfield 40, 3, 434, 10, 7, 0), (66, .iload_n 1, 1, 0, 0, 0, 0), (67, .invokevirtual 332, 3, 5, 8, 1, 914), (70, .ifCond .eq 7, 3, 0, 0, 0, 0), (73, .iconst 1, 1, 0, 0, 0, 0), (74, .goto 4, 3, 0, 0, 0, 0), (77, .iconst 0, 1, 0, 0, 0, 0), (78, .invokevirtual 113, 3, 4, 10, 1, 520), (81, .ireturn, 1, 0, 0, 0, 0), (82, .aload_n 0, 1, 0, 0, 0, 0), (83, .aload_n 0, 1, 0, 0, 0, 0), (84, .getfield 40, 3, 434, 10, 7, 0), (87, .iload_n 1, 1, 0, 0, 0, 0), (88, .invokevirtual 335, 3, 6, 8, 1, 918), (91, .invokevirtual 113, 3, 4, 10, 1, 520), (94, .ireturn, 1, 0, 0, 0, 0), (95, .aload_n 0, 1, 0, 0, 0, 0), (96, .aload_n 0, 1, 0, 0, 0, 0), (97, .getfield 40, 3, 434, 10, 7, 0), (100, .iload_n 1, 1, 0, 0, 0, 0), (101, .invokevirtual 319, 3, 7, 8, 1, 876), (104, .invokevirtual 113, 3, 4, 10, 1, 520), (107, .ireturn, 1, 0, 0, 0, 0)]
set_option maxRecDepth 100000 in
set_option maxHeartbeats 4000000 in
theorem c_X10_half (l : Launch) (G : vg_G) (hp : vg_Hp G) : vg_Ct l G vg_sh r_X10_half := by
  refine vg_meth hp vg_sh_ok r_X10_half k_X10_half rfl (fun h => by cases h) o_X10_half [r_X8_isKind, r_X10_within, r_X10_refuse, r_X8_sumOf, r_X10_answer, r_X8_isHalfBand, r_X8_shiftOf, r_X8_plainOf] false (by decide +kernel) (by decide +kernel) ⟨_, _, rfl, rfl⟩ (List.forall_mem_cons.mpr ⟨⟨c_X8_isKind l G hp, Nat.le_of_ble_eq_true rfl, Nat.le_of_ble_eq_true rfl⟩, List.forall_mem_cons.mpr ⟨⟨c_X10_within l G hp, Nat.le_of_ble_eq_true rfl, Nat.le_of_ble_eq_true rfl⟩, List.forall_mem_cons.mpr ⟨⟨c_X10_refuse l G hp, Nat.le_of_ble_eq_true rfl, Nat.le_of_ble_eq_true rfl⟩, List.forall_mem_cons.mpr ⟨⟨c_X8_sumOf l G hp, Nat.le_of_ble_eq_true rfl, Nat.le_of_ble_eq_true rfl⟩, List.forall_mem_cons.mpr ⟨⟨c_X10_answer l G hp, Nat.le_of_ble_eq_true rfl, Nat.le_of_ble_eq_true rfl⟩, List.forall_mem_cons.mpr ⟨⟨c_X8_isHalfBand l G hp, Nat.le_of_ble_eq_true rfl, Nat.le_of_ble_eq_true rfl⟩, List.forall_mem_cons.mpr ⟨⟨c_X8_shiftOf l G hp, Nat.le_of_ble_eq_true rfl, Nat.le_of_ble_eq_true rfl⟩, List.forall_mem_cons.mpr ⟨⟨c_X8_plainOf l G hp, Nat.le_of_ble_eq_true rfl, Nat.le_of_ble_eq_true rfl⟩, fun _ h => absurd h List.not_mem_nil⟩⟩⟩⟩⟩⟩⟩⟩) (fun h => by cases h) 600 ?_
  intro as s0 hpre
  obtain ⟨r, a1, a2, rfl, hr, i0⟩ := hpre
  simp only [List.mem_cons, List.not_mem_nil, or_false] at hr
  rcases hr with rfl
  ·
    have z0 : (Int32.ofInt 0).toInt = 0 := by decide
    have z1 : (Int32.ofInt 1).toInt = 1 := by decide
    have z3 : (Int32.ofInt 3).toInt = 3 := by decide
    refine ⟨Nat.le_of_ble_eq_true rfl, [], ?_, fun _ h => absurd h List.not_mem_nil⟩
    ·
      refine And.intro (Nat.le_of_ble_eq_true rfl) (And.intro ⟨a1, rfl, trivial⟩ ?_)
      intro v1 s3 h2
      have h2 : s3 = s0 ∧ ((v1.toInt = 1 ∧ 0 ≤ a1.toInt ∧ a1.toInt ≤ 3) ∨ (v1.toInt = 0 ∧ (a1.toInt < 0 ∨ 3 < a1.toInt))) := h2
      have q6 := h2.1.symm
      subst q6
      have q7 := h2.2
      refine And.intro (fun c8 => ?_) (fun c8 => ?_)
      · have c8 : v1.toInt = 0 := c8
        refine And.intro (Nat.le_of_ble_eq_true rfl) (And.intro ⟨0, (Int32.ofInt 1), rfl, by decide, i0⟩ ?_)
        intro v9 s11 h10
        have h10 : Iv s11 ∧ Kp s0 s11 ∧ vk s11 = ((vk s0).1, (vk s0).2) ∧ (v9.toInt = -1) := h10
        have i12 := h10.1
        have k13 : Kp s0 s11 := Kx.tr Kx.rf (h10.2.1)
        have u14 : vk s11 = ((vk s0).1, (vk s0).2) := h10.2.2.1.trans rfl
        have q15 := h10.2.2.2
        show Iv s11 ∧ Kp s0 s11 ∧ vk s11 = ((vk s0).1, (vk s0).2) ∧ (((0 ≤ a1.toInt ∧ a1.toInt ≤ 3 ∧ 0 ≤ a2.toInt ∧ a2.toInt ≤ 3) ∧ ((a2.toInt = 0 ∧ ((a1.toInt = 3 → v9 = vg_rs (s0.1 17) 7) ∧ (a1.toInt = 0 → v9.toInt = 4) ∧ (a1.toInt = 1 → v9.toInt = 32) ∧ (a1.toInt = 2 → v9.toInt = 512))) ∨ (a2.toInt = 1 ∧ ((a1.toInt = 3 → (v9.toInt = 1 ∧ (s0.1 17 5).toInt = 0) ∨ (v9.toInt = 0 ∧ ¬ (s0.1 17 5).toInt = 0)) ∧ ((a1.toInt = 0 ∨ a1.toInt = 1 ∨ a1.toInt = 2) → v9.toInt = 1))) ∨ (a2.toInt = 2 ∧ ((a1.toInt = 0 ∧ v9.toInt = 2) ∨ (a1.toInt = 1 ∧ v9.toInt = 5) ∨ (a1.toInt = 2 ∧ v9.toInt = 9) ∨ (¬ a1.toInt = 0 ∧ ¬ a1.toInt = 1 ∧ ¬ a1.toInt = 2 ∧ v9.toInt = (s0.1 16 1).toInt))) ∨ (a2.toInt = 3 ∧ (v9 = vg_cnt (vg_rw s0 (vg_rp a1)) (vg_tn a1))))) ∨ (¬ (0 ≤ a1.toInt ∧ a1.toInt ≤ 3 ∧ 0 ≤ a2.toInt ∧ a2.toInt ≤ 3) ∧ v9.toInt = -1))
        exact ⟨i12, k13, u14, (by first | exact Or.inr ⟨by omega, by omega⟩ | exact Or.inl ⟨by omega, Or.inl ⟨by omega, by rw [q15.1]; exact y9⟩⟩ | exact Or.inl ⟨by omega, Or.inr (Or.inl ⟨by omega, by omega⟩)⟩ | exact Or.inl ⟨by omega, Or.inr (Or.inr (Or.inl ⟨by omega, by omega⟩))⟩ | exact Or.inl ⟨by omega, Or.inr (Or.inr (Or.inr ⟨by omega, by rw [q15.1]; exact y9⟩))⟩)⟩
      · have c8 : ¬ (v1.toInt = 0) := c8
        refine And.intro (Nat.le_of_ble_eq_true rfl) (And.intro ⟨a2, (Int32.ofInt 0), (Int32.ofInt 3), rfl, trivial⟩ ?_)
        intro v16 s18 h17
        have h17 : s18 = s0 ∧ ((v16.toInt = 1 ∧ (Int32.ofInt 0).toInt ≤ a2.toInt ∧ a2.toInt ≤ (Int32.ofInt 3).toInt) ∨ (v16.toInt = 0 ∧ (a2.toInt < (Int32.ofInt 0).toInt ∨ (Int32.ofInt 3).toInt < a2.toInt))) := h17
        have q21 := h17.1.symm
        subst q21
        have q22 := h17.2
        refine And.intro (fun c23 => ?_) (fun c23 => ?_)
        · have c23 : ¬ v16.toInt = 0 := c23
          refine And.intro (fun c24 => ?_) ?_
          · have c24 : a2.toInt < (0) ∨ (2) < a2.toInt := c24
            refine And.intro (Nat.le_of_ble_eq_true rfl) (And.intro ⟨16, a1, rfl, by decide, i0⟩ ?_)
            intro v25 s27 h26
            have h26 : s27 = s0 ∧ (v25 = vg_cnt (vg_rw s0 (vg_rp a1)) (vg_tn a1)) := h26
            have q30 := h26.1.symm
            subst q30
            have q31 := h26.2
            have y9 := q31
            refine And.intro (Nat.le_of_ble_eq_true rfl) (And.intro ⟨0, v25, rfl, by decide, i0⟩ ?_)
            intro v32 s34 h33
            have h33 : Iv s34 ∧ Kp s0 s34 ∧ vk s34 = ((vk s0).1, (vk s0).2) ∧ (v32 = v25 ∧ v32.toInt = v25.toInt) := h33
            have i35 := h33.1
            have k36 : Kp s0 s34 := Kx.tr Kx.rf (h33.2.1)
            have u37 : vk s34 = ((vk s0).1, (vk s0).2) := h33.2.2.1.trans rfl
            have q38 := h33.2.2.2
            show Iv s34 ∧ Kp s0 s34 ∧ vk s34 = ((vk s0).1, (vk s0).2) ∧ (((0 ≤ a1.toInt ∧ a1.toInt ≤ 3 ∧ 0 ≤ a2.toInt ∧ a2.toInt ≤ 3) ∧ ((a2.toInt = 0 ∧ ((a1.toInt = 3 → v32 = vg_rs (s0.1 17) 7) ∧ (a1.toInt = 0 → v32.toInt = 4) ∧ (a1.toInt = 1 → v32.toInt = 32) ∧ (a1.toInt = 2 → v32.toInt = 512))) ∨ (a2.toInt = 1 ∧ ((a1.toInt = 3 → (v32.toInt = 1 ∧ (s0.1 17 5).toInt = 0) ∨ (v32.toInt = 0 ∧ ¬ (s0.1 17 5).toInt = 0)) ∧ ((a1.toInt = 0 ∨ a1.toInt = 1 ∨ a1.toInt = 2) → v32.toInt = 1))) ∨ (a2.toInt = 2 ∧ ((a1.toInt = 0 ∧ v32.toInt = 2) ∨ (a1.toInt = 1 ∧ v32.toInt = 5) ∨ (a1.toInt = 2 ∧ v32.toInt = 9) ∨ (¬ a1.toInt = 0 ∧ ¬ a1.toInt = 1 ∧ ¬ a1.toInt = 2 ∧ v32.toInt = (s0.1 16 1).toInt))) ∨ (a2.toInt = 3 ∧ (v32 = vg_cnt (vg_rw s0 (vg_rp a1)) (vg_tn a1))))) ∨ (¬ (0 ≤ a1.toInt ∧ a1.toInt ≤ 3 ∧ 0 ≤ a2.toInt ∧ a2.toInt ≤ 3) ∧ v32.toInt = -1))
            exact ⟨i35, k36, u37, (by first | exact Or.inr ⟨by omega, by omega⟩ | exact Or.inl ⟨by omega, Or.inl ⟨by omega, by rw [q38.1]; exact y9⟩⟩ | exact Or.inl ⟨by omega, Or.inr (Or.inl ⟨by omega, by omega⟩)⟩ | exact Or.inl ⟨by omega, Or.inr (Or.inr (Or.inl ⟨by omega, by omega⟩))⟩ | exact Or.inl ⟨by omega, Or.inr (Or.inr (Or.inr ⟨by omega, by rw [q38.1]; exact y9⟩))⟩)⟩
          refine And.intro (fun c39 => ?_) ?_
          · have c39 : a2.toInt = (0) := c39
            refine And.intro (Nat.le_of_ble_eq_true rfl) (And.intro ⟨16, a1, rfl, by decide, i0⟩ ?_)
            intro v40 s42 h41
            have h41 : s42 = s0 ∧ ((a1.toInt = 3 → v40 = vg_rs (s0.1 17) 7) ∧ (a1.toInt = 0 → v40.toInt = 4) ∧ (a1.toInt = 1 → v40.toInt = 32) ∧ (a1.toInt = 2 → v40.toInt = 512)) := h41
            have q45 := h41.1.symm
            subst q45
            have q46 := h41.2
            have y9 := q46
            refine And.intro (Nat.le_of_ble_eq_true rfl) (And.intro ⟨0, v40, rfl, by decide, i0⟩ ?_)
            intro v47 s49 h48
            have h48 : Iv s49 ∧ Kp s0 s49 ∧ vk s49 = ((vk s0).1, (vk s0).2) ∧ (v47 = v40 ∧ v47.toInt = v40.toInt) := h48
            have i50 := h48.1
            have k51 : Kp s0 s49 := Kx.tr Kx.rf (h48.2.1)
            have u52 : vk s49 = ((vk s0).1, (vk s0).2) := h48.2.2.1.trans rfl
            have q53 := h48.2.2.2
            show Iv s49 ∧ Kp s0 s49 ∧ vk s49 = ((vk s0).1, (vk s0).2) ∧ (((0 ≤ a1.toInt ∧ a1.toInt ≤ 3 ∧ 0 ≤ a2.toInt ∧ a2.toInt ≤ 3) ∧ ((a2.toInt = 0 ∧ ((a1.toInt = 3 → v47 = vg_rs (s0.1 17) 7) ∧ (a1.toInt = 0 → v47.toInt = 4) ∧ (a1.toInt = 1 → v47.toInt = 32) ∧ (a1.toInt = 2 → v47.toInt = 512))) ∨ (a2.toInt = 1 ∧ ((a1.toInt = 3 → (v47.toInt = 1 ∧ (s0.1 17 5).toInt = 0) ∨ (v47.toInt = 0 ∧ ¬ (s0.1 17 5).toInt = 0)) ∧ ((a1.toInt = 0 ∨ a1.toInt = 1 ∨ a1.toInt = 2) → v47.toInt = 1))) ∨ (a2.toInt = 2 ∧ ((a1.toInt = 0 ∧ v47.toInt = 2) ∨ (a1.toInt = 1 ∧ v47.toInt = 5) ∨ (a1.toInt = 2 ∧ v47.toInt = 9) ∨ (¬ a1.toInt = 0 ∧ ¬ a1.toInt = 1 ∧ ¬ a1.toInt = 2 ∧ v47.toInt = (s0.1 16 1).toInt))) ∨ (a2.toInt = 3 ∧ (v47 = vg_cnt (vg_rw s0 (vg_rp a1)) (vg_tn a1))))) ∨ (¬ (0 ≤ a1.toInt ∧ a1.toInt ≤ 3 ∧ 0 ≤ a2.toInt ∧ a2.toInt ≤ 3) ∧ v47.toInt = -1))
            exact ⟨i50, k51, u52, (by first | exact Or.inr ⟨by omega, by omega⟩ | exact Or.inl ⟨by omega, Or.inl ⟨by omega, by rw [q53.1]; exact y9⟩⟩ | exact Or.inl ⟨by omega, Or.inr (Or.inl ⟨by omega, by omega⟩)⟩ | exact Or.inl ⟨by omega, Or.inr (Or.inr (Or.inl ⟨by omega, by omega⟩))⟩ | exact Or.inl ⟨by omega, Or.inr (Or.inr (Or.inr ⟨by omega, by rw [q53.1]; exact y9⟩))⟩)⟩
          refine And.intro (fun c54 => ?_) ?_
          · have c54 : a2.toInt = (1) := c54
            refine And.intro (Nat.le_of_ble_eq_true rfl) (And.intro ⟨16, a1, rfl, by decide, i0⟩ ?_)
            intro v55 s57 h56
            have h56 : s57 = s0 ∧ (0 ≤ v55.toInt ∧ v55.toInt ≤ 1 ∧ (a1.toInt = 3 → (v55.toInt = 1 ∧ (s0.1 17 5).toInt = 0) ∨ (v55.toInt = 0 ∧ ¬ (s0.1 17 5).toInt = 0)) ∧ ((a1.toInt = 0 ∨ a1.toInt = 1 ∨ a1.toInt = 2) → v55.toInt = 1)) := h56
            have q60 := h56.1.symm
            subst q60
            have q61 := h56.2
            refine And.intro (fun c62 => ?_) (fun c62 => ?_)
            · have c62 : v55.toInt = 0 := c62
              refine And.intro (Nat.le_of_ble_eq_true rfl) (And.intro ⟨0, (Int32.ofInt 0), rfl, by decide, i0⟩ ?_)
              intro v63 s65 h64
              have h64 : Iv s65 ∧ Kp s0 s65 ∧ vk s65 = ((vk s0).1, (vk s0).2) ∧ (v63 = (Int32.ofInt 0) ∧ v63.toInt = (Int32.ofInt 0).toInt) := h64
              have i66 := h64.1
              have k67 : Kp s0 s65 := Kx.tr Kx.rf (h64.2.1)
              have u68 : vk s65 = ((vk s0).1, (vk s0).2) := h64.2.2.1.trans rfl
              have q69 := h64.2.2.2
              show Iv s65 ∧ Kp s0 s65 ∧ vk s65 = ((vk s0).1, (vk s0).2) ∧ (((0 ≤ a1.toInt ∧ a1.toInt ≤ 3 ∧ 0 ≤ a2.toInt ∧ a2.toInt ≤ 3) ∧ ((a2.toInt = 0 ∧ ((a1.toInt = 3 → v63 = vg_rs (s0.1 17) 7) ∧ (a1.toInt = 0 → v63.toInt = 4) ∧ (a1.toInt = 1 → v63.toInt = 32) ∧ (a1.toInt = 2 → v63.toInt = 512))) ∨ (a2.toInt = 1 ∧ ((a1.toInt = 3 → (v63.toInt = 1 ∧ (s0.1 17 5).toInt = 0) ∨ (v63.toInt = 0 ∧ ¬ (s0.1 17 5).toInt = 0)) ∧ ((a1.toInt = 0 ∨ a1.toInt = 1 ∨ a1.toInt = 2) → v63.toInt = 1))) ∨ (a2.toInt = 2 ∧ ((a1.toInt = 0 ∧ v63.toInt = 2) ∨ (a1.toInt = 1 ∧ v63.toInt = 5) ∨ (a1.toInt = 2 ∧ v63.toInt = 9) ∨ (¬ a1.toInt = 0 ∧ ¬ a1.toInt = 1 ∧ ¬ a1.toInt = 2 ∧ v63.toInt = (s0.1 16 1).toInt))) ∨ (a2.toInt = 3 ∧ (v63 = vg_cnt (vg_rw s0 (vg_rp a1)) (vg_tn a1))))) ∨ (¬ (0 ≤ a1.toInt ∧ a1.toInt ≤ 3 ∧ 0 ≤ a2.toInt ∧ a2.toInt ≤ 3) ∧ v63.toInt = -1))
              exact ⟨i66, k67, u68, (by first | exact Or.inr ⟨by omega, by omega⟩ | exact Or.inl ⟨by omega, Or.inl ⟨by omega, by rw [q69.1]; exact y9⟩⟩ | exact Or.inl ⟨by omega, Or.inr (Or.inl ⟨by omega, by omega⟩)⟩ | exact Or.inl ⟨by omega, Or.inr (Or.inr (Or.inl ⟨by omega, by omega⟩))⟩ | exact Or.inl ⟨by omega, Or.inr (Or.inr (Or.inr ⟨by omega, by rw [q69.1]; exact y9⟩))⟩)⟩
            · have c62 : ¬ (v55.toInt = 0) := c62
              refine And.intro (Nat.le_of_ble_eq_true rfl) (And.intro ⟨0, (Int32.ofInt 1), rfl, by decide, i0⟩ ?_)
              intro v70 s72 h71
              have h71 : Iv s72 ∧ Kp s0 s72 ∧ vk s72 = ((vk s0).1, (vk s0).2) ∧ (v70 = (Int32.ofInt 1) ∧ v70.toInt = (Int32.ofInt 1).toInt) := h71
              have i73 := h71.1
              have k74 : Kp s0 s72 := Kx.tr Kx.rf (h71.2.1)
              have u75 : vk s72 = ((vk s0).1, (vk s0).2) := h71.2.2.1.trans rfl
              have q76 := h71.2.2.2
              show Iv s72 ∧ Kp s0 s72 ∧ vk s72 = ((vk s0).1, (vk s0).2) ∧ (((0 ≤ a1.toInt ∧ a1.toInt ≤ 3 ∧ 0 ≤ a2.toInt ∧ a2.toInt ≤ 3) ∧ ((a2.toInt = 0 ∧ ((a1.toInt = 3 → v70 = vg_rs (s0.1 17) 7) ∧ (a1.toInt = 0 → v70.toInt = 4) ∧ (a1.toInt = 1 → v70.toInt = 32) ∧ (a1.toInt = 2 → v70.toInt = 512))) ∨ (a2.toInt = 1 ∧ ((a1.toInt = 3 → (v70.toInt = 1 ∧ (s0.1 17 5).toInt = 0) ∨ (v70.toInt = 0 ∧ ¬ (s0.1 17 5).toInt = 0)) ∧ ((a1.toInt = 0 ∨ a1.toInt = 1 ∨ a1.toInt = 2) → v70.toInt = 1))) ∨ (a2.toInt = 2 ∧ ((a1.toInt = 0 ∧ v70.toInt = 2) ∨ (a1.toInt = 1 ∧ v70.toInt = 5) ∨ (a1.toInt = 2 ∧ v70.toInt = 9) ∨ (¬ a1.toInt = 0 ∧ ¬ a1.toInt = 1 ∧ ¬ a1.toInt = 2 ∧ v70.toInt = (s0.1 16 1).toInt))) ∨ (a2.toInt = 3 ∧ (v70 = vg_cnt (vg_rw s0 (vg_rp a1)) (vg_tn a1))))) ∨ (¬ (0 ≤ a1.toInt ∧ a1.toInt ≤ 3 ∧ 0 ≤ a2.toInt ∧ a2.toInt ≤ 3) ∧ v70.toInt = -1))
              exact ⟨i73, k74, u75, (by first | exact Or.inr ⟨by omega, by omega⟩ | exact Or.inl ⟨by omega, Or.inl ⟨by omega, by rw [q76.1]; exact y9⟩⟩ | exact Or.inl ⟨by omega, Or.inr (Or.inl ⟨by omega, by omega⟩)⟩ | exact Or.inl ⟨by omega, Or.inr (Or.inr (Or.inl ⟨by omega, by omega⟩))⟩ | exact Or.inl ⟨by omega, Or.inr (Or.inr (Or.inr ⟨by omega, by rw [q76.1]; exact y9⟩))⟩)⟩
          refine And.intro (fun c77 => ?_) ?_
          · have c77 : a2.toInt = (2) := c77
            refine And.intro (Nat.le_of_ble_eq_true rfl) (And.intro ⟨16, a1, rfl, by decide, i0⟩ ?_)
            intro v78 s80 h79
            have h79 : s80 = s0 ∧ ((a1.toInt = 0 ∧ v78.toInt = 2) ∨ (a1.toInt = 1 ∧ v78.toInt = 5) ∨ (a1.toInt = 2 ∧ v78.toInt = 9) ∨ (¬ a1.toInt = 0 ∧ ¬ a1.toInt = 1 ∧ ¬ a1.toInt = 2 ∧ v78.toInt = (s0.1 16 1).toInt)) := h79
            have q83 := h79.1.symm
            subst q83
            have q84 := h79.2
            refine And.intro (Nat.le_of_ble_eq_true rfl) (And.intro ⟨0, v78, rfl, by decide, i0⟩ ?_)
            intro v85 s87 h86
            have h86 : Iv s87 ∧ Kp s0 s87 ∧ vk s87 = ((vk s0).1, (vk s0).2) ∧ (v85 = v78 ∧ v85.toInt = v78.toInt) := h86
            have i88 := h86.1
            have k89 : Kp s0 s87 := Kx.tr Kx.rf (h86.2.1)
            have u90 : vk s87 = ((vk s0).1, (vk s0).2) := h86.2.2.1.trans rfl
            have q91 := h86.2.2.2
            show Iv s87 ∧ Kp s0 s87 ∧ vk s87 = ((vk s0).1, (vk s0).2) ∧ (((0 ≤ a1.toInt ∧ a1.toInt ≤ 3 ∧ 0 ≤ a2.toInt ∧ a2.toInt ≤ 3) ∧ ((a2.toInt = 0 ∧ ((a1.toInt = 3 → v85 = vg_rs (s0.1 17) 7) ∧ (a1.toInt = 0 → v85.toInt = 4) ∧ (a1.toInt = 1 → v85.toInt = 32) ∧ (a1.toInt = 2 → v85.toInt = 512))) ∨ (a2.toInt = 1 ∧ ((a1.toInt = 3 → (v85.toInt = 1 ∧ (s0.1 17 5).toInt = 0) ∨ (v85.toInt = 0 ∧ ¬ (s0.1 17 5).toInt = 0)) ∧ ((a1.toInt = 0 ∨ a1.toInt = 1 ∨ a1.toInt = 2) → v85.toInt = 1))) ∨ (a2.toInt = 2 ∧ ((a1.toInt = 0 ∧ v85.toInt = 2) ∨ (a1.toInt = 1 ∧ v85.toInt = 5) ∨ (a1.toInt = 2 ∧ v85.toInt = 9) ∨ (¬ a1.toInt = 0 ∧ ¬ a1.toInt = 1 ∧ ¬ a1.toInt = 2 ∧ v85.toInt = (s0.1 16 1).toInt))) ∨ (a2.toInt = 3 ∧ (v85 = vg_cnt (vg_rw s0 (vg_rp a1)) (vg_tn a1))))) ∨ (¬ (0 ≤ a1.toInt ∧ a1.toInt ≤ 3 ∧ 0 ≤ a2.toInt ∧ a2.toInt ≤ 3) ∧ v85.toInt = -1))
            exact ⟨i88, k89, u90, (by first | exact Or.inr ⟨by omega, by omega⟩ | exact Or.inl ⟨by omega, Or.inl ⟨by omega, by rw [q91.1]; exact y9⟩⟩ | exact Or.inl ⟨by omega, Or.inr (Or.inl ⟨by omega, by omega⟩)⟩ | exact Or.inl ⟨by omega, Or.inr (Or.inr (Or.inl ⟨by omega, by omega⟩))⟩ | exact Or.inl ⟨by omega, Or.inr (Or.inr (Or.inr ⟨by omega, by rw [q91.1]; exact y9⟩))⟩)⟩
          exact trivial
        · have c23 : ¬ (¬ v16.toInt = 0) := c23
          refine And.intro (Nat.le_of_ble_eq_true rfl) (And.intro ⟨0, (Int32.ofInt 1), rfl, by decide, i0⟩ ?_)
          intro v92 s94 h93
          have h93 : Iv s94 ∧ Kp s0 s94 ∧ vk s94 = ((vk s0).1, (vk s0).2) ∧ (v92.toInt = -1) := h93
          have i95 := h93.1
          have k96 : Kp s0 s94 := Kx.tr Kx.rf (h93.2.1)
          have u97 : vk s94 = ((vk s0).1, (vk s0).2) := h93.2.2.1.trans rfl
          have q98 := h93.2.2.2
          show Iv s94 ∧ Kp s0 s94 ∧ vk s94 = ((vk s0).1, (vk s0).2) ∧ (((0 ≤ a1.toInt ∧ a1.toInt ≤ 3 ∧ 0 ≤ a2.toInt ∧ a2.toInt ≤ 3) ∧ ((a2.toInt = 0 ∧ ((a1.toInt = 3 → v92 = vg_rs (s0.1 17) 7) ∧ (a1.toInt = 0 → v92.toInt = 4) ∧ (a1.toInt = 1 → v92.toInt = 32) ∧ (a1.toInt = 2 → v92.toInt = 512))) ∨ (a2.toInt = 1 ∧ ((a1.toInt = 3 → (v92.toInt = 1 ∧ (s0.1 17 5).toInt = 0) ∨ (v92.toInt = 0 ∧ ¬ (s0.1 17 5).toInt = 0)) ∧ ((a1.toInt = 0 ∨ a1.toInt = 1 ∨ a1.toInt = 2) → v92.toInt = 1))) ∨ (a2.toInt = 2 ∧ ((a1.toInt = 0 ∧ v92.toInt = 2) ∨ (a1.toInt = 1 ∧ v92.toInt = 5) ∨ (a1.toInt = 2 ∧ v92.toInt = 9) ∨ (¬ a1.toInt = 0 ∧ ¬ a1.toInt = 1 ∧ ¬ a1.toInt = 2 ∧ v92.toInt = (s0.1 16 1).toInt))) ∨ (a2.toInt = 3 ∧ (v92 = vg_cnt (vg_rw s0 (vg_rp a1)) (vg_tn a1))))) ∨ (¬ (0 ≤ a1.toInt ∧ a1.toInt ≤ 3 ∧ 0 ≤ a2.toInt ∧ a2.toInt ≤ 3) ∧ v92.toInt = -1))
          exact ⟨i95, k96, u97, (by first | exact Or.inr ⟨by omega, by omega⟩ | exact Or.inl ⟨by omega, Or.inl ⟨by omega, by rw [q98.1]; exact y9⟩⟩ | exact Or.inl ⟨by omega, Or.inr (Or.inl ⟨by omega, by omega⟩)⟩ | exact Or.inl ⟨by omega, Or.inr (Or.inr (Or.inl ⟨by omega, by omega⟩))⟩ | exact Or.inl ⟨by omega, Or.inr (Or.inr (Or.inr ⟨by omega, by rw [q98.1]; exact y9⟩))⟩)⟩
def o_X10_need : List vg_I := [(0, .iload_n 1, 1, 0, 0, 0, 0), (1, .iconst 0, 1, 0, 0, 0, 0), (2, .ldc_w 325, 3, 892, 0, 0, 100000), (5, .invokestatic 82, 3, 0, 1, 3, 478), (8, .ifCond .ne 9, 3, 0, 0, 0, 0), (11, .aload_n 0, 1, 0, 0, 0, 0), (12, .iconst 1, 1, 0, 0, 0, 0), (13, .invokevirtual 90, 3, 1, 10, 1, 484), (16, .ireturn, 1, 0, 0, 0, 0), (17, .aload_n 0, 1, 0, 0, 0, 0), (18, .getfield 33, 3, 433, 10, 6, 0), (21, .iload_n 1, 1, 0, 0, 0, 0), (22, .invokevirtual 180, 3, 2, 1, 1, 568), (25, .istore_n 2, 1, 0, 0, 0, 0), (26, .iload_n 2, 1, 0, 0, 0, 0), (27, .iconst (-1), 1, 0, 0, 0, 0), (28, .if_icmp .ne 11, 3, 0, 0, 0, 0), (31, .aload_n 0, 1, 0, 0, 0, 0), (32, .iconst 5, 1, 0, 0, 0, 0), (33, .invokevirtual 90, 3, 1, 10, 1, 484), (36, .goto 8, 3, 0, 0, 0, 0), (39, .aload_n 0, 1, 0, 0, 0, 0), (40, .iload_n 2, 1, 0, 0, 0, 0), (41, .invokevirtual 113, 3, 3, 10, 1, 520), (44, .ireturn, 1, 0, 0, 0, 0)]
set_option maxRecDepth 100000 in
set_option maxHeartbeats 4000000 in
theorem c_X10_need (l : Launch) (G : vg_G) (hp : vg_Hp G) : vg_Ct l G vg_sh r_X10_need := by
  refine vg_meth hp vg_sh_ok r_X10_need k_X10_need rfl (fun h => by cases h) o_X10_need [r_X10_within, r_X10_refuse, r_X1_leastWidth, r_X10_answer] false (by decide +kernel) (by decide +kernel) ⟨_, _, rfl, rfl⟩ (List.forall_mem_cons.mpr ⟨⟨c_X10_within l G hp, Nat.le_of_ble_eq_true rfl, Nat.le_of_ble_eq_true rfl⟩, List.forall_mem_cons.mpr ⟨⟨c_X10_refuse l G hp, Nat.le_of_ble_eq_true rfl, Nat.le_of_ble_eq_true rfl⟩, List.forall_mem_cons.mpr ⟨⟨c_X1_leastWidth l G hp, Nat.le_of_ble_eq_true rfl, Nat.le_of_ble_eq_true rfl⟩, List.forall_mem_cons.mpr ⟨⟨c_X10_answer l G hp, Nat.le_of_ble_eq_true rfl, Nat.le_of_ble_eq_true rfl⟩, fun _ h => absurd h List.not_mem_nil⟩⟩⟩⟩) (fun h => by cases h) 600 ?_
  intro as s0 hpre
  obtain ⟨r, a1, rfl, hr, i0⟩ := hpre
  simp only [List.mem_cons, List.not_mem_nil, or_false] at hr
  rcases hr with rfl
  ·
    have zm1 : (Int32.ofInt (-1)).toInt = -1 := by decide
    have z0 : (Int32.ofInt 0).toInt = 0 := by decide
    have z1 : (Int32.ofInt 1).toInt = 1 := by decide
    have z5 : (Int32.ofInt 5).toInt = 5 := by decide
    have z100000 : (Int32.ofInt 100000).toInt = 100000 := by decide
    refine ⟨Nat.le_of_ble_eq_true rfl, [], ?_, fun _ h => absurd h List.not_mem_nil⟩
    ·
      refine And.intro (Nat.le_of_ble_eq_true rfl) (And.intro ⟨a1, (Int32.ofInt 0), (Int32.ofInt 100000), rfl, trivial⟩ ?_)
      intro v1 s3 h2
      have h2 : s3 = s0 ∧ ((v1.toInt = 1 ∧ (Int32.ofInt 0).toInt ≤ a1.toInt ∧ a1.toInt ≤ (Int32.ofInt 100000).toInt) ∨ (v1.toInt = 0 ∧ (a1.toInt < (Int32.ofInt 0).toInt ∨ (Int32.ofInt 100000).toInt < a1.toInt))) := h2
      have q6 := h2.1.symm
      subst q6
      have q7 := h2.2
      refine And.intro (fun c8 => ?_) (fun c8 => ?_)
      · have c8 : ¬ v1.toInt = 0 := c8
        refine And.intro (Nat.le_of_ble_eq_true rfl) (And.intro ⟨12, a1, rfl, by decide, i0⟩ ?_)
        intro v9 s11 h10
        have h10 : s11 = s0 ∧ (vg_isneed (vg_mp (s0.1 12 1).toInt64 a1.toInt64 (s0.1 12 0).toNatClampNeg) v9) := h10
        have q14 := h10.1.symm
        subst q14
        have q15 := h10.2
        have y1 := q15
        refine And.intro (fun c16 => ?_) (fun c16 => ?_)
        · have c16 : ¬ v9.toInt = (Int32.ofInt (-1)).toInt := c16
          refine And.intro (Nat.le_of_ble_eq_true rfl) (And.intro ⟨0, v9, rfl, by decide, i0⟩ ?_)
          intro v17 s19 h18
          have h18 : Iv s19 ∧ Kp s0 s19 ∧ vk s19 = ((vk s0).1, (vk s0).2) ∧ (v17 = v9 ∧ v17.toInt = v9.toInt) := h18
          have i20 := h18.1
          have k21 : Kp s0 s19 := Kx.tr Kx.rf (h18.2.1)
          have u22 : vk s19 = ((vk s0).1, (vk s0).2) := h18.2.2.1.trans rfl
          have q23 := h18.2.2.2
          show Iv s19 ∧ Kp s0 s19 ∧ vk s19 = ((vk s0).1, (vk s0).2) ∧ (((0 ≤ a1.toInt ∧ a1.toInt ≤ 100000) ∧ vg_isneed (vg_mp (s0.1 12 1).toInt64 a1.toInt64 (s0.1 12 0).toNatClampNeg) v17) ∨ (¬ (0 ≤ a1.toInt ∧ a1.toInt ≤ 100000) ∧ v17.toInt = -1))
          exact ⟨i20, k21, u22, (by first | exact Or.inl ⟨by omega, by (rw [q23.1]; exact y1)⟩ | exact Or.inl ⟨by omega, vg_isneedm y1 (by omega) q23⟩ | exact Or.inr ⟨by omega, by omega⟩)⟩
        · have c16 : ¬ (¬ v9.toInt = (Int32.ofInt (-1)).toInt) := c16
          refine And.intro (Nat.le_of_ble_eq_true rfl) (And.intro ⟨0, (Int32.ofInt 5), rfl, by decide, i0⟩ ?_)
          intro v24 s26 h25
          have h25 : Iv s26 ∧ Kp s0 s26 ∧ vk s26 = ((vk s0).1, (vk s0).2) ∧ (v24.toInt = -1) := h25
          have i27 := h25.1
          have k28 : Kp s0 s26 := Kx.tr Kx.rf (h25.2.1)
          have u29 : vk s26 = ((vk s0).1, (vk s0).2) := h25.2.2.1.trans rfl
          have q30 := h25.2.2.2
          show Iv s26 ∧ Kp s0 s26 ∧ vk s26 = ((vk s0).1, (vk s0).2) ∧ (((0 ≤ a1.toInt ∧ a1.toInt ≤ 100000) ∧ vg_isneed (vg_mp (s0.1 12 1).toInt64 a1.toInt64 (s0.1 12 0).toNatClampNeg) v24) ∨ (¬ (0 ≤ a1.toInt ∧ a1.toInt ≤ 100000) ∧ v24.toInt = -1))
          exact ⟨i27, k28, u29, (by first | exact Or.inl ⟨by omega, by (rw [q30.1]; exact y1)⟩ | exact Or.inl ⟨by omega, vg_isneedm y1 (by omega) q30⟩ | exact Or.inr ⟨by omega, by omega⟩)⟩
      · have c8 : ¬ (¬ v1.toInt = 0) := c8
        refine And.intro (Nat.le_of_ble_eq_true rfl) (And.intro ⟨0, (Int32.ofInt 1), rfl, by decide, i0⟩ ?_)
        intro v31 s33 h32
        have h32 : Iv s33 ∧ Kp s0 s33 ∧ vk s33 = ((vk s0).1, (vk s0).2) ∧ (v31.toInt = -1) := h32
        have i34 := h32.1
        have k35 : Kp s0 s33 := Kx.tr Kx.rf (h32.2.1)
        have u36 : vk s33 = ((vk s0).1, (vk s0).2) := h32.2.2.1.trans rfl
        have q37 := h32.2.2.2
        show Iv s33 ∧ Kp s0 s33 ∧ vk s33 = ((vk s0).1, (vk s0).2) ∧ (((0 ≤ a1.toInt ∧ a1.toInt ≤ 100000) ∧ vg_isneed (vg_mp (s0.1 12 1).toInt64 a1.toInt64 (s0.1 12 0).toNatClampNeg) v31) ∨ (¬ (0 ≤ a1.toInt ∧ a1.toInt ≤ 100000) ∧ v31.toInt = -1))
        exact ⟨i34, k35, u36, (by first | exact Or.inl ⟨by omega, by (rw [q37.1]; exact y1)⟩ | exact Or.inl ⟨by omega, vg_isneedm y1 (by omega) q37⟩ | exact Or.inr ⟨by omega, by omega⟩)⟩
def o_X10_asked : List vg_I := [(0, .iload_n 1, 1, 0, 0, 0, 0), (1, .ifCond .ge 9, 3, 0, 0, 0, 0), (4, .aload_n 0, 1, 0, 0, 0, 0), (5, .iconst 1, 1, 0, 0, 0, 0), (6, .invokevirtual 90, 3, 0, 10, 1, 484), (9, .ireturn, 1, 0, 0, 0, 0), (10, .iload_n 1, 1, 0, 0, 0, 0), (11, .aload_n 0, 1, 0, 0, 0, 0), (12, .getfield 59, 3, 437, 10, 10, 0), (15, .getfield 234, 3, 354, 0, 1, 0), (18, .if_icmp .lt 9, 3, 0, 0, 0, 0), (21, .aload_n 0, 1, 0, 0, 0, 0), (22, .iconst 5, 1, 0, 0, 0, 0), (23, .invokevirtual 90, 3, 0, 10, 1, 484), (26, .ireturn, 1, 0, 0, 0, 0), (27, .aload_n 0, 1, 0, 0, 0, 0), (28, .aload_n 0, 1, 0, 0, 0, 0), (29, .getfield 59, 3, 437, 10, 10, 0), (32, .getfield 379, 3, 352, 0, 0, 0), (35, .iload_n 1, 1, 0, 0, 0, 0), (36, .iaload, 1, 0, 0, 0, 0), (37, .invokevirtual 113, 3, 1, 10, 1, 520), (40, .ireturn, 1, 0, 0, 0, 0)]
set_option maxRecDepth 100000 in
set_option maxHeartbeats 4000000 in
theorem c_X10_asked (l : Launch) (G : vg_G) (hp : vg_Hp G) : vg_Ct l G vg_sh r_X10_asked := by
  refine vg_meth hp vg_sh_ok r_X10_asked k_X10_asked rfl (fun h => by cases h) o_X10_asked [r_X10_refuse, r_X10_answer] false (by decide +kernel) (by decide +kernel) ⟨_, _, rfl, rfl⟩ (List.forall_mem_cons.mpr ⟨⟨c_X10_refuse l G hp, Nat.le_of_ble_eq_true rfl, Nat.le_of_ble_eq_true rfl⟩, List.forall_mem_cons.mpr ⟨⟨c_X10_answer l G hp, Nat.le_of_ble_eq_true rfl, Nat.le_of_ble_eq_true rfl⟩, fun _ h => absurd h List.not_mem_nil⟩⟩) (fun h => by cases h) 600 ?_
  intro as s0 hpre
  obtain ⟨r, a1, rfl, hr, i0⟩ := hpre
  simp only [List.mem_cons, List.not_mem_nil, or_false] at hr
  rcases hr with rfl
  ·
    have z1 : (Int32.ofInt 1).toInt = 1 := by decide
    have z5 : (Int32.ofInt 5).toInt = 5 := by decide
    refine ⟨Nat.le_of_ble_eq_true rfl, [], ?_, fun _ h => absurd h List.not_mem_nil⟩
    ·
      refine And.intro (fun c1 => ?_) (fun c1 => ?_)
      · have c1 : 0 ≤ a1.toInt := c1
        intro v2 e3
        have g4 : s0.1 20 1 = v2 := by rw [e3]
        have b5 : v2.toInt = (s0.1 20 1).toInt := congrArg Int32.toInt e3
        have b6 : (0 : Int) ≤ v2.toInt ∧ v2.toInt ≤ 12 := by rw [e3]; exact Iv_20_1 i0
        refine And.intro (fun c7 => ?_) (fun c7 => ?_)
        · have c7 : a1.toInt < v2.toInt := c7
          refine And.intro ⟨by omega, by omega⟩ ?_
          intro v8 e9
          refine And.intro (Nat.le_of_ble_eq_true rfl) (And.intro ⟨0, v8, rfl, by decide, i0⟩ ?_)
          intro v10 s12 h11
          have h11 : Iv s12 ∧ Kp s0 s12 ∧ vk s12 = ((vk s0).1, (vk s0).2) ∧ (v10 = v8 ∧ v10.toInt = v8.toInt) := h11
          have i13 := h11.1
          have k14 : Kp s0 s12 := Kx.tr Kx.rf (h11.2.1)
          have u15 : vk s12 = ((vk s0).1, (vk s0).2) := h11.2.2.1.trans rfl
          have q16 := h11.2.2.2
          show Iv s12 ∧ Kp s0 s12 ∧ vk s12 = ((vk s0).1, (vk s0).2) ∧ (((0 ≤ a1.toInt ∧ a1.toInt < (s0.1 20 1).toInt) ∧ v10 = s0.1 21 a1.toNatClampNeg) ∨ (¬ (0 ≤ a1.toInt ∧ a1.toInt < (s0.1 20 1).toInt) ∧ v10.toInt = -1))
          exact ⟨i13, k14, u15, (by first | exact Or.inl ⟨by omega, by rw [q16.1]; exact e9⟩ | exact Or.inr ⟨by omega, by omega⟩)⟩
        · have c7 : ¬ (a1.toInt < v2.toInt) := c7
          refine And.intro (Nat.le_of_ble_eq_true rfl) (And.intro ⟨0, (Int32.ofInt 5), rfl, by decide, i0⟩ ?_)
          intro v17 s19 h18
          have h18 : Iv s19 ∧ Kp s0 s19 ∧ vk s19 = ((vk s0).1, (vk s0).2) ∧ (v17.toInt = -1) := h18
          have i20 := h18.1
          have k21 : Kp s0 s19 := Kx.tr Kx.rf (h18.2.1)
          have u22 : vk s19 = ((vk s0).1, (vk s0).2) := h18.2.2.1.trans rfl
          have q23 := h18.2.2.2
          show Iv s19 ∧ Kp s0 s19 ∧ vk s19 = ((vk s0).1, (vk s0).2) ∧ (((0 ≤ a1.toInt ∧ a1.toInt < (s0.1 20 1).toInt) ∧ v17 = s0.1 21 a1.toNatClampNeg) ∨ (¬ (0 ≤ a1.toInt ∧ a1.toInt < (s0.1 20 1).toInt) ∧ v17.toInt = -1))
          exact ⟨i20, k21, u22, (by first | exact Or.inl ⟨by omega, by rw [q23.1]; exact None⟩ | exact Or.inr ⟨by omega, by omega⟩)⟩
      · have c1 : ¬ (0 ≤ a1.toInt) := c1
        refine And.intro (Nat.le_of_ble_eq_true rfl) (And.intro ⟨0, (Int32.ofInt 1), rfl, by decide, i0⟩ ?_)
        intro v24 s26 h25
        have h25 : Iv s26 ∧ Kp s0 s26 ∧ vk s26 = ((vk s0).1, (vk s0).2) ∧ (v24.toInt = -1) := h25
        have i27 := h25.1
        have k28 : Kp s0 s26 := Kx.tr Kx.rf (h25.2.1)
        have u29 : vk s26 = ((vk s0).1, (vk s0).2) := h25.2.2.1.trans rfl
        have q30 := h25.2.2.2
        show Iv s26 ∧ Kp s0 s26 ∧ vk s26 = ((vk s0).1, (vk s0).2) ∧ (((0 ≤ a1.toInt ∧ a1.toInt < (s0.1 20 1).toInt) ∧ v24 = s0.1 21 a1.toNatClampNeg) ∨ (¬ (0 ≤ a1.toInt ∧ a1.toInt < (s0.1 20 1).toInt) ∧ v24.toInt = -1))
        exact ⟨i27, k28, u29, (by first | exact Or.inl ⟨by omega, by rw [q30.1]; exact None⟩ | exact Or.inr ⟨by omega, by omega⟩)⟩
def o_X10_response : List vg_I := [(0, .iload_n 1, 1, 0, 0, 0, 0), (1, .ifCond .ge 9, 3, 0, 0, 0, 0), (4, .aload_n 0, 1, 0, 0, 0, 0), (5, .iconst 1, 1, 0, 0, 0, 0), (6, .invokevirtual 90, 3, 0, 10, 1, 484), (9, .ireturn, 1, 0, 0, 0, 0), (10, .iload_n 1, 1, 0, 0, 0, 0), (11, .aload_n 0, 1, 0, 0, 0, 0), (12, .getfield 33, 3, 433, 10, 6, 0), (15, .invokevirtual 326, 3, 1, 1, 0, 897), (18, .if_icmp .le 9, 3, 0, 0, 0, 0), (21, .aload_n 0, 1, 0, 0, 0, 0), (22, .iconst 5, 1, 0, 0, 0, 0), (23, .invokevirtual 90, 3, 0, 10, 1, 484), (26, .ireturn, 1, 0, 0, 0, 0), (27, .aload_n 0, 1, 0, 0, 0, 0), (28, .aload_n 0, 1, 0, 0, 0, 0), (29, .getfield 33, 3, 433, 10, 6, 0), (32, .iload_n 1, 1, 0, 0, 0, 0), (33, .invokevirtual 329, 3, 2, 1, 1, 901), (36, .invokevirtual 113, 3, 3, 10, 1, 520), (39, .ireturn, 1, 0, 0, 0, 0)]
set_option maxRecDepth 100000 in
set_option maxHeartbeats 4000000 in
theorem c_X10_response (l : Launch) (G : vg_G) (hp : vg_Hp G) : vg_Ct l G vg_sh r_X10_response := by
  refine vg_meth hp vg_sh_ok r_X10_response k_X10_response rfl (fun h => by cases h) o_X10_response [r_X10_refuse, r_X1_lastOfResponse, r_X1_responseAt, r_X10_answer] false (by decide +kernel) (by decide +kernel) ⟨_, _, rfl, rfl⟩ (List.forall_mem_cons.mpr ⟨⟨c_X10_refuse l G hp, Nat.le_of_ble_eq_true rfl, Nat.le_of_ble_eq_true rfl⟩, List.forall_mem_cons.mpr ⟨⟨c_X1_lastOfResponse l G hp, Nat.le_of_ble_eq_true rfl, Nat.le_of_ble_eq_true rfl⟩, List.forall_mem_cons.mpr ⟨⟨c_X1_responseAt l G hp, Nat.le_of_ble_eq_true rfl, Nat.le_of_ble_eq_true rfl⟩, List.forall_mem_cons.mpr ⟨⟨c_X10_answer l G hp, Nat.le_of_ble_eq_true rfl, Nat.le_of_ble_eq_true rfl⟩, fun _ h => absurd h List.not_mem_nil⟩⟩⟩⟩) (fun h => by cases h) 600 ?_
  intro as s0 hpre
  obtain ⟨r, a1, rfl, hr, i0⟩ := hpre
  simp only [List.mem_cons, List.not_mem_nil, or_false] at hr
  rcases hr with rfl
  ·
    have z1 : (Int32.ofInt 1).toInt = 1 := by decide
    have z5 : (Int32.ofInt 5).toInt = 5 := by decide
    refine ⟨Nat.le_of_ble_eq_true rfl, [], ?_, fun _ h => absurd h List.not_mem_nil⟩
    ·
      refine And.intro (fun c1 => ?_) (fun c1 => ?_)
      · have c1 : 0 ≤ a1.toInt := c1
        refine And.intro (Nat.le_of_ble_eq_true rfl) (And.intro ⟨12, rfl, by decide, i0⟩ ?_)
        intro v2 s4 h3
        have h3 : s4 = s0 ∧ (v2.toInt = vg_lres (s0.1 12 0) (s0.1 12 1) ∧ 0 ≤ v2.toInt ∧ v2.toInt ≤ 75) := h3
        have q7 := h3.1.symm
        subst q7
        have q8 := h3.2
        refine And.intro (fun c9 => ?_) (fun c9 => ?_)
        · have c9 : a1.toInt ≤ v2.toInt := c9
          refine And.intro (Nat.le_of_ble_eq_true rfl) (And.intro ⟨12, a1, rfl, by decide, i0⟩ ?_)
          intro v10 s12 h11
          have h11 : Iv s12 ∧ Kp s0 s12 ∧ vk s12 = ((vk s0).1, (vk s0).2) ∧ ((0 ≤ a1.toInt ∧ a1.toInt ≤ 75) → v10 = vg_cc (s0.1 12 1).toNatClampNeg (s0.1 12 0).toNatClampNeg a1.toNatClampNeg) := h11
          have i13 := h11.1
          have k14 : Kp s0 s12 := Kx.tr Kx.rf (h11.2.1)
          have u15 : vk s12 = ((vk s0).1, (vk s0).2) := h11.2.2.1.trans rfl
          have q16 := h11.2.2.2
          have y1 := q16 (by omega)
          refine And.intro (Nat.le_of_ble_eq_true rfl) (And.intro ⟨0, v10, rfl, by decide, i13⟩ ?_)
          intro v17 s19 h18
          have h18 : Iv s19 ∧ Kp s12 s19 ∧ vk s19 = ((vk s12).1, (vk s12).2) ∧ (v17 = v10 ∧ v17.toInt = v10.toInt) := h18
          have i20 := h18.1
          have k21 : Kp s0 s19 := Kx.tr k14 (h18.2.1)
          have u22 : vk s19 = ((vk s0).1, (vk s0).2) := h18.2.2.1.trans u15
          have q23 := h18.2.2.2
          show Iv s19 ∧ Kp s0 s19 ∧ vk s19 = ((vk s0).1, (vk s0).2) ∧ (((0 ≤ a1.toInt ∧ a1.toInt ≤ vg_lres (s0.1 12 0) (s0.1 12 1)) ∧ v17 = vg_cc (s0.1 12 1).toNatClampNeg (s0.1 12 0).toNatClampNeg a1.toNatClampNeg) ∨ (¬ (0 ≤ a1.toInt ∧ a1.toInt ≤ vg_lres (s0.1 12 0) (s0.1 12 1)) ∧ v17.toInt = -1))
          exact ⟨i20, k21, u22, (by first | exact Or.inl ⟨by omega, by rw [q23.1]; exact y1⟩ | exact Or.inr ⟨by omega, by omega⟩)⟩
        · have c9 : ¬ (a1.toInt ≤ v2.toInt) := c9
          refine And.intro (Nat.le_of_ble_eq_true rfl) (And.intro ⟨0, (Int32.ofInt 5), rfl, by decide, i0⟩ ?_)
          intro v24 s26 h25
          have h25 : Iv s26 ∧ Kp s0 s26 ∧ vk s26 = ((vk s0).1, (vk s0).2) ∧ (v24.toInt = -1) := h25
          have i27 := h25.1
          have k28 : Kp s0 s26 := Kx.tr Kx.rf (h25.2.1)
          have u29 : vk s26 = ((vk s0).1, (vk s0).2) := h25.2.2.1.trans rfl
          have q30 := h25.2.2.2
          show Iv s26 ∧ Kp s0 s26 ∧ vk s26 = ((vk s0).1, (vk s0).2) ∧ (((0 ≤ a1.toInt ∧ a1.toInt ≤ vg_lres (s0.1 12 0) (s0.1 12 1)) ∧ v24 = vg_cc (s0.1 12 1).toNatClampNeg (s0.1 12 0).toNatClampNeg a1.toNatClampNeg) ∨ (¬ (0 ≤ a1.toInt ∧ a1.toInt ≤ vg_lres (s0.1 12 0) (s0.1 12 1)) ∧ v24.toInt = -1))
          exact ⟨i27, k28, u29, (by first | exact Or.inl ⟨by omega, by rw [q30.1]; exact y1⟩ | exact Or.inr ⟨by omega, by omega⟩)⟩
      · have c1 : ¬ (0 ≤ a1.toInt) := c1
        refine And.intro (Nat.le_of_ble_eq_true rfl) (And.intro ⟨0, (Int32.ofInt 1), rfl, by decide, i0⟩ ?_)
        intro v31 s33 h32
        have h32 : Iv s33 ∧ Kp s0 s33 ∧ vk s33 = ((vk s0).1, (vk s0).2) ∧ (v31.toInt = -1) := h32
        have i34 := h32.1
        have k35 : Kp s0 s33 := Kx.tr Kx.rf (h32.2.1)
        have u36 : vk s33 = ((vk s0).1, (vk s0).2) := h32.2.2.1.trans rfl
        have q37 := h32.2.2.2
        show Iv s33 ∧ Kp s0 s33 ∧ vk s33 = ((vk s0).1, (vk s0).2) ∧ (((0 ≤ a1.toInt ∧ a1.toInt ≤ vg_lres (s0.1 12 0) (s0.1 12 1)) ∧ v31 = vg_cc (s0.1 12 1).toNatClampNeg (s0.1 12 0).toNatClampNeg a1.toNatClampNeg) ∨ (¬ (0 ≤ a1.toInt ∧ a1.toInt ≤ vg_lres (s0.1 12 0) (s0.1 12 1)) ∧ v31.toInt = -1))
        exact ⟨i34, k35, u36, (by first | exact Or.inl ⟨by omega, by rw [q37.1]; exact y1⟩ | exact Or.inr ⟨by omega, by omega⟩)⟩
def o_X10_told : List vg_I := [(0, .iload_n 1, 1, 0, 0, 0, 0), (1, .invokestatic 201, 3, 0, 1, 1, 609), (4, .ifCond .ne 9, 3, 0, 0, 0, 0), (7, .aload_n 0, 1, 0, 0, 0, 0), (8, .iconst 2, 1, 0, 0, 0, 0), (9, .invokevirtual 90, 3, 1, 10, 1, 484), (12, .ireturn, 1, 0, 0, 0, 0), (13, .aload_n 0, 1, 0, 0, 0, 0), (14, .aload_n 0, 1, 0, 0, 0, 0), (15, .getfield 52, 3, 436, 10, 9, 0), (18, .iload_n 1, 1, 0, 0, 0, 0), (19, .aaload, 1, 0, 0, 0, 0), (20, .getfield 207, 3, 417, 4, 3, 0), (23, .invokevirtual 113, 3, 2, 10, 1, 520), (26, .ireturn, 1, 0, 0, 0, 0)]
set_option maxRecDepth 100000 in
set_option maxHeartbeats 4000000 in
theorem c_X10_told (l : Launch) (G : vg_G) (hp : vg_Hp G) : vg_Ct l G vg_sh r_X10_told := by
  refine vg_meth hp vg_sh_ok r_X10_told k_X10_told rfl (fun h => by cases h) o_X10_told [r_X10_isStage, r_X10_refuse, r_X10_answer] false (by decide +kernel) (by decide +kernel) ⟨_, _, rfl, rfl⟩ (List.forall_mem_cons.mpr ⟨⟨c_X10_isStage l G hp, Nat.le_of_ble_eq_true rfl, Nat.le_of_ble_eq_true rfl⟩, List.forall_mem_cons.mpr ⟨⟨c_X10_refuse l G hp, Nat.le_of_ble_eq_true rfl, Nat.le_of_ble_eq_true rfl⟩, List.forall_mem_cons.mpr ⟨⟨c_X10_answer l G hp, Nat.le_of_ble_eq_true rfl, Nat.le_of_ble_eq_true rfl⟩, fun _ h => absurd h List.not_mem_nil⟩⟩⟩) (fun h => by cases h) 600 ?_
  intro as s0 hpre
  obtain ⟨r, a1, rfl, hr, i0⟩ := hpre
  simp only [List.mem_cons, List.not_mem_nil, or_false] at hr
  rcases hr with rfl
  ·
    have z2 : (Int32.ofInt 2).toInt = 2 := by decide
    refine ⟨Nat.le_of_ble_eq_true rfl, [], ?_, fun _ h => absurd h List.not_mem_nil⟩
    ·
      refine And.intro (Nat.le_of_ble_eq_true rfl) (And.intro ⟨a1, rfl, trivial⟩ ?_)
      intro v1 s3 h2
      have h2 : s3 = s0 ∧ ((v1.toInt = 1 ∧ 0 ≤ a1.toInt ∧ a1.toInt ≤ 6) ∨ (v1.toInt = 0 ∧ (a1.toInt < 0 ∨ 6 < a1.toInt))) := h2
      have q6 := h2.1.symm
      subst q6
      have q7 := h2.2
      refine And.intro (fun c8 => ?_) (fun c8 => ?_)
      · have c8 : ¬ v1.toInt = 0 := c8
        refine And.intro rfl (And.intro ⟨by omega, by omega⟩ ?_)
        refine And.intro (fun c9 => ?_) ?_
        · have c9 : a1.toInt = (0) := c9
          intro v10 e11
          have g12 : s0.1 41 3 = v10 := by rw [e11]
          have y1 : v10 = (vk s0).1 a1.toNatClampNeg := by first | exact vk_toldm (q := 0) e11 ⟨rfl, by decide⟩ (by omega) | exact vk_toldm (q := 1) e11 ⟨rfl, by decide⟩ (by omega) | exact vk_toldm (q := 2) e11 ⟨rfl, by decide⟩ (by omega) | exact vk_toldm (q := 3) e11 ⟨rfl, by decide⟩ (by omega) | exact vk_toldm (q := 4) e11 ⟨rfl, by decide⟩ (by omega) | exact vk_toldm (q := 5) e11 ⟨rfl, by decide⟩ (by omega) | exact vk_toldm (q := 6) e11 ⟨rfl, by decide⟩ (by omega)
          refine And.intro (Nat.le_of_ble_eq_true rfl) (And.intro ⟨0, v10, rfl, by decide, i0⟩ ?_)
          intro v13 s15 h14
          have h14 : Iv s15 ∧ Kp s0 s15 ∧ vk s15 = ((vk s0).1, (vk s0).2) ∧ (v13 = v10 ∧ v13.toInt = v10.toInt) := h14
          have i16 := h14.1
          have k17 : Kp s0 s15 := Kx.tr Kx.rf (h14.2.1)
          have u18 : vk s15 = ((vk s0).1, (vk s0).2) := h14.2.2.1.trans rfl
          have q19 := h14.2.2.2
          show Iv s15 ∧ Kp s0 s15 ∧ vk s15 = ((vk s0).1, (vk s0).2) ∧ (((0 ≤ a1.toInt ∧ a1.toInt ≤ 6) ∧ v13 = (vk s0).1 a1.toNatClampNeg) ∨ (¬ (0 ≤ a1.toInt ∧ a1.toInt ≤ 6) ∧ v13.toInt = -1))
          exact ⟨i16, k17, u18, (by first | exact Or.inl ⟨by omega, by rw [q19.1]; exact y1⟩ | exact Or.inr ⟨by omega, by omega⟩)⟩
        refine And.intro (fun c20 => ?_) ?_
        · have c20 : a1.toInt = (1) := c20
          intro v21 e22
          have g23 : s0.1 43 3 = v21 := by rw [e22]
          have y1 : v21 = (vk s0).1 a1.toNatClampNeg := by first | exact vk_toldm (q := 0) e22 ⟨rfl, by decide⟩ (by omega) | exact vk_toldm (q := 1) e22 ⟨rfl, by decide⟩ (by omega) | exact vk_toldm (q := 2) e22 ⟨rfl, by decide⟩ (by omega) | exact vk_toldm (q := 3) e22 ⟨rfl, by decide⟩ (by omega) | exact vk_toldm (q := 4) e22 ⟨rfl, by decide⟩ (by omega) | exact vk_toldm (q := 5) e22 ⟨rfl, by decide⟩ (by omega) | exact vk_toldm (q := 6) e22 ⟨rfl, by decide⟩ (by omega)
          refine And.intro (Nat.le_of_ble_eq_true rfl) (And.intro ⟨0, v21, rfl, by decide, i0⟩ ?_)
          intro v24 s26 h25
          have h25 : Iv s26 ∧ Kp s0 s26 ∧ vk s26 = ((vk s0).1, (vk s0).2) ∧ (v24 = v21 ∧ v24.toInt = v21.toInt) := h25
          have i27 := h25.1
          have k28 : Kp s0 s26 := Kx.tr Kx.rf (h25.2.1)
          have u29 : vk s26 = ((vk s0).1, (vk s0).2) := h25.2.2.1.trans rfl
          have q30 := h25.2.2.2
          show Iv s26 ∧ Kp s0 s26 ∧ vk s26 = ((vk s0).1, (vk s0).2) ∧ (((0 ≤ a1.toInt ∧ a1.toInt ≤ 6) ∧ v24 = (vk s0).1 a1.toNatClampNeg) ∨ (¬ (0 ≤ a1.toInt ∧ a1.toInt ≤ 6) ∧ v24.toInt = -1))
          exact ⟨i27, k28, u29, (by first | exact Or.inl ⟨by omega, by rw [q30.1]; exact y1⟩ | exact Or.inr ⟨by omega, by omega⟩)⟩
        refine And.intro (fun c31 => ?_) ?_
        · have c31 : a1.toInt = (2) := c31
          intro v32 e33
          have g34 : s0.1 45 3 = v32 := by rw [e33]
          have y1 : v32 = (vk s0).1 a1.toNatClampNeg := by first | exact vk_toldm (q := 0) e33 ⟨rfl, by decide⟩ (by omega) | exact vk_toldm (q := 1) e33 ⟨rfl, by decide⟩ (by omega) | exact vk_toldm (q := 2) e33 ⟨rfl, by decide⟩ (by omega) | exact vk_toldm (q := 3) e33 ⟨rfl, by decide⟩ (by omega) | exact vk_toldm (q := 4) e33 ⟨rfl, by decide⟩ (by omega) | exact vk_toldm (q := 5) e33 ⟨rfl, by decide⟩ (by omega) | exact vk_toldm (q := 6) e33 ⟨rfl, by decide⟩ (by omega)
          refine And.intro (Nat.le_of_ble_eq_true rfl) (And.intro ⟨0, v32, rfl, by decide, i0⟩ ?_)
          intro v35 s37 h36
          have h36 : Iv s37 ∧ Kp s0 s37 ∧ vk s37 = ((vk s0).1, (vk s0).2) ∧ (v35 = v32 ∧ v35.toInt = v32.toInt) := h36
          have i38 := h36.1
          have k39 : Kp s0 s37 := Kx.tr Kx.rf (h36.2.1)
          have u40 : vk s37 = ((vk s0).1, (vk s0).2) := h36.2.2.1.trans rfl
          have q41 := h36.2.2.2
          show Iv s37 ∧ Kp s0 s37 ∧ vk s37 = ((vk s0).1, (vk s0).2) ∧ (((0 ≤ a1.toInt ∧ a1.toInt ≤ 6) ∧ v35 = (vk s0).1 a1.toNatClampNeg) ∨ (¬ (0 ≤ a1.toInt ∧ a1.toInt ≤ 6) ∧ v35.toInt = -1))
          exact ⟨i38, k39, u40, (by first | exact Or.inl ⟨by omega, by rw [q41.1]; exact y1⟩ | exact Or.inr ⟨by omega, by omega⟩)⟩
        refine And.intro (fun c42 => ?_) ?_
        · have c42 : a1.toInt = (3) := c42
          intro v43 e44
          have g45 : s0.1 47 3 = v43 := by rw [e44]
          have y1 : v43 = (vk s0).1 a1.toNatClampNeg := by first | exact vk_toldm (q := 0) e44 ⟨rfl, by decide⟩ (by omega) | exact vk_toldm (q := 1) e44 ⟨rfl, by decide⟩ (by omega) | exact vk_toldm (q := 2) e44 ⟨rfl, by decide⟩ (by omega) | exact vk_toldm (q := 3) e44 ⟨rfl, by decide⟩ (by omega) | exact vk_toldm (q := 4) e44 ⟨rfl, by decide⟩ (by omega) | exact vk_toldm (q := 5) e44 ⟨rfl, by decide⟩ (by omega) | exact vk_toldm (q := 6) e44 ⟨rfl, by decide⟩ (by omega)
          refine And.intro (Nat.le_of_ble_eq_true rfl) (And.intro ⟨0, v43, rfl, by decide, i0⟩ ?_)
          intro v46 s48 h47
          have h47 : Iv s48 ∧ Kp s0 s48 ∧ vk s48 = ((vk s0).1, (vk s0).2) ∧ (v46 = v43 ∧ v46.toInt = v43.toInt) := h47
          have i49 := h47.1
          have k50 : Kp s0 s48 := Kx.tr Kx.rf (h47.2.1)
          have u51 : vk s48 = ((vk s0).1, (vk s0).2) := h47.2.2.1.trans rfl
          have q52 := h47.2.2.2
          show Iv s48 ∧ Kp s0 s48 ∧ vk s48 = ((vk s0).1, (vk s0).2) ∧ (((0 ≤ a1.toInt ∧ a1.toInt ≤ 6) ∧ v46 = (vk s0).1 a1.toNatClampNeg) ∨ (¬ (0 ≤ a1.toInt ∧ a1.toInt ≤ 6) ∧ v46.toInt = -1))
          exact ⟨i49, k50, u51, (by first | exact Or.inl ⟨by omega, by rw [q52.1]; exact y1⟩ | exact Or.inr ⟨by omega, by omega⟩)⟩
        refine And.intro (fun c53 => ?_) ?_
        · have c53 : a1.toInt = (4) := c53
          intro v54 e55
          have g56 : s0.1 49 3 = v54 := by rw [e55]
          have y1 : v54 = (vk s0).1 a1.toNatClampNeg := by first | exact vk_toldm (q := 0) e55 ⟨rfl, by decide⟩ (by omega) | exact vk_toldm (q := 1) e55 ⟨rfl, by decide⟩ (by omega) | exact vk_toldm (q := 2) e55 ⟨rfl, by decide⟩ (by omega) | exact vk_toldm (q := 3) e55 ⟨rfl, by decide⟩ (by omega) | exact vk_toldm (q := 4) e55 ⟨rfl, by decide⟩ (by omega) | exact vk_toldm (q := 5) e55 ⟨rfl, by decide⟩ (by omega) | exact vk_toldm (q := 6) e55 ⟨rfl, by decide⟩ (by omega)
          refine And.intro (Nat.le_of_ble_eq_true rfl) (And.intro ⟨0, v54, rfl, by decide, i0⟩ ?_)
          intro v57 s59 h58
          have h58 : Iv s59 ∧ Kp s0 s59 ∧ vk s59 = ((vk s0).1, (vk s0).2) ∧ (v57 = v54 ∧ v57.toInt = v54.toInt) := h58
          have i60 := h58.1
          have k61 : Kp s0 s59 := Kx.tr Kx.rf (h58.2.1)
          have u62 : vk s59 = ((vk s0).1, (vk s0).2) := h58.2.2.1.trans rfl
          have q63 := h58.2.2.2
          show Iv s59 ∧ Kp s0 s59 ∧ vk s59 = ((vk s0).1, (vk s0).2) ∧ (((0 ≤ a1.toInt ∧ a1.toInt ≤ 6) ∧ v57 = (vk s0).1 a1.toNatClampNeg) ∨ (¬ (0 ≤ a1.toInt ∧ a1.toInt ≤ 6) ∧ v57.toInt = -1))
          exact ⟨i60, k61, u62, (by first | exact Or.inl ⟨by omega, by rw [q63.1]; exact y1⟩ | exact Or.inr ⟨by omega, by omega⟩)⟩
        refine And.intro (fun c64 => ?_) ?_
        · have c64 : a1.toInt = (5) := c64
          intro v65 e66
          have g67 : s0.1 51 3 = v65 := by rw [e66]
          have y1 : v65 = (vk s0).1 a1.toNatClampNeg := by first | exact vk_toldm (q := 0) e66 ⟨rfl, by decide⟩ (by omega) | exact vk_toldm (q := 1) e66 ⟨rfl, by decide⟩ (by omega) | exact vk_toldm (q := 2) e66 ⟨rfl, by decide⟩ (by omega) | exact vk_toldm (q := 3) e66 ⟨rfl, by decide⟩ (by omega) | exact vk_toldm (q := 4) e66 ⟨rfl, by decide⟩ (by omega) | exact vk_toldm (q := 5) e66 ⟨rfl, by decide⟩ (by omega) | exact vk_toldm (q := 6) e66 ⟨rfl, by decide⟩ (by omega)
          refine And.intro (Nat.le_of_ble_eq_true rfl) (And.intro ⟨0, v65, rfl, by decide, i0⟩ ?_)
          intro v68 s70 h69
          have h69 : Iv s70 ∧ Kp s0 s70 ∧ vk s70 = ((vk s0).1, (vk s0).2) ∧ (v68 = v65 ∧ v68.toInt = v65.toInt) := h69
          have i71 := h69.1
          have k72 : Kp s0 s70 := Kx.tr Kx.rf (h69.2.1)
          have u73 : vk s70 = ((vk s0).1, (vk s0).2) := h69.2.2.1.trans rfl
          have q74 := h69.2.2.2
          show Iv s70 ∧ Kp s0 s70 ∧ vk s70 = ((vk s0).1, (vk s0).2) ∧ (((0 ≤ a1.toInt ∧ a1.toInt ≤ 6) ∧ v68 = (vk s0).1 a1.toNatClampNeg) ∨ (¬ (0 ≤ a1.toInt ∧ a1.toInt ≤ 6) ∧ v68.toInt = -1))
          exact ⟨i71, k72, u73, (by first | exact Or.inl ⟨by omega, by rw [q74.1]; exact y1⟩ | exact Or.inr ⟨by omega, by omega⟩)⟩
        refine And.intro (fun c75 => ?_) ?_
        · have c75 : a1.toInt = (6) := c75
          intro v76 e77
          have g78 : s0.1 53 3 = v76 := by rw [e77]
          have y1 : v76 = (vk s0).1 a1.toNatClampNeg := by first | exact vk_toldm (q := 0) e77 ⟨rfl, by decide⟩ (by omega) | exact vk_toldm (q := 1) e77 ⟨rfl, by decide⟩ (by omega) | exact vk_toldm (q := 2) e77 ⟨rfl, by decide⟩ (by omega) | exact vk_toldm (q := 3) e77 ⟨rfl, by decide⟩ (by omega) | exact vk_toldm (q := 4) e77 ⟨rfl, by decide⟩ (by omega) | exact vk_toldm (q := 5) e77 ⟨rfl, by decide⟩ (by omega) | exact vk_toldm (q := 6) e77 ⟨rfl, by decide⟩ (by omega)
          refine And.intro (Nat.le_of_ble_eq_true rfl) (And.intro ⟨0, v76, rfl, by decide, i0⟩ ?_)
          intro v79 s81 h80
          have h80 : Iv s81 ∧ Kp s0 s81 ∧ vk s81 = ((vk s0).1, (vk s0).2) ∧ (v79 = v76 ∧ v79.toInt = v76.toInt) := h80
          have i82 := h80.1
          have k83 : Kp s0 s81 := Kx.tr Kx.rf (h80.2.1)
          have u84 : vk s81 = ((vk s0).1, (vk s0).2) := h80.2.2.1.trans rfl
          have q85 := h80.2.2.2
          show Iv s81 ∧ Kp s0 s81 ∧ vk s81 = ((vk s0).1, (vk s0).2) ∧ (((0 ≤ a1.toInt ∧ a1.toInt ≤ 6) ∧ v79 = (vk s0).1 a1.toNatClampNeg) ∨ (¬ (0 ≤ a1.toInt ∧ a1.toInt ≤ 6) ∧ v79.toInt = -1))
          exact ⟨i82, k83, u84, (by first | exact Or.inl ⟨by omega, by rw [q85.1]; exact y1⟩ | exact Or.inr ⟨by omega, by omega⟩)⟩
        exact trivial
      · have c8 : ¬ (¬ v1.toInt = 0) := c8
        refine And.intro (Nat.le_of_ble_eq_true rfl) (And.intro ⟨0, (Int32.ofInt 2), rfl, by decide, i0⟩ ?_)
        intro v86 s88 h87
        have h87 : Iv s88 ∧ Kp s0 s88 ∧ vk s88 = ((vk s0).1, (vk s0).2) ∧ (v86.toInt = -1) := h87
        have i89 := h87.1
        have k90 : Kp s0 s88 := Kx.tr Kx.rf (h87.2.1)
        have u91 : vk s88 = ((vk s0).1, (vk s0).2) := h87.2.2.1.trans rfl
        have q92 := h87.2.2.2
        show Iv s88 ∧ Kp s0 s88 ∧ vk s88 = ((vk s0).1, (vk s0).2) ∧ (((0 ≤ a1.toInt ∧ a1.toInt ≤ 6) ∧ v86 = (vk s0).1 a1.toNatClampNeg) ∨ (¬ (0 ≤ a1.toInt ∧ a1.toInt ≤ 6) ∧ v86.toInt = -1))
        exact ⟨i89, k90, u91, (by first | exact Or.inl ⟨by omega, by rw [q92.1]; exact y1⟩ | exact Or.inr ⟨by omega, by omega⟩)⟩
def o_X10_work : List vg_I := [(0, .iload_n 2, 1, 0, 0, 0, 0), (1, .iconst 0, 1, 0, 0, 0, 0), (2, .iconst 1, 1, 0, 0, 0, 0), (3, .invokestatic 82, 3, 0, 1, 3, 478), (6, .ifCond .ne 9, 3, 0, 0, 0, 0), (9, .aload_n 0, 1, 0, 0, 0, 0), (10, .iconst 1, 1, 0, 0, 0, 0), (11, .invokevirtual 90, 3, 1, 10, 1, 484), (14, .ireturn, 1, 0, 0, 0, 0), (15, .iload_n 1, 1, 0, 0, 0, 0), (16, .iconst 0, 1, 0, 0, 0, 0), (17, .aload_n 0, 1, 0, 0, 0, 0), (18, .getfield 196, 3, 429, 10, 2, 0), (21, .iconst 1, 1, 0, 0, 0, 0), (22, .isub, 1, 0, 0, 0, 0), (23, .invokestatic 82, 3, 0, 1, 3, 478), (26, .ifCond .ne 9, 3, 0, 0, 0, 0), (29, .aload_n 0, 1, 0, 0, 0, 0), (30, .iconst 2, 1, 0, 0, 0, 0), (31, .invokevirtual 90, 3, 1, 10, 1, 484), (34, .ireturn, 1, 0, 0, 0, 0), (35, .aload_n 0, 1, 0, 0, 0, 0), (36, .getfield 46, 3, 435, 10, 8, 0), (39, .iload_n 1, 1, 0, 0, 0, 0), (40, .aaload, 1, 0, 0, 0, 0), (41, .getfield 199, 3, 394, 3, 0, 0), (44, .istore_n 3, 1, 0, 0, 0, 0), (45, .iload_n 2, 1, 0, 0, 0, 0), (46, .ifCond .ne 14, 3, 0, 0, 0, 0), (49, .aload_n 0, 1, 0, 0, 0, 0), (50, .getfield 40, 3, 434, 10, 7, 0), (53, .iload_n 3, 1, 0, 0, 0, 0), (54, .invokevirtual 319, 3, 2, 8, 1, 876), (57, .goto 11, 3, 0, 0, 0, 0), (60, .aload_n 0, 1, 0, 0, 0, 0), (61, .getfield 40, 3, 434, 10, 7, 0), (64, .iload_n 3, 1, 0, 0, 0, 0), (65, .invokevirtual 322, 3, 3, 8, 1, 884), (68, .istore 4, 2, 0, 0, 0, 0), (70, .aload_n 0, 1, 0, 0, 0, 0), (71, .iload 4, 2, 0, 0, 0, 0), (73, .aload_n 0, 1, 0, 0, 0, 0), (74, .getfield 52, 3, 436, 10, 9, 0), (77, .iconst 4, 1, 0, 0, 0, 0), (78, .iload_n 1, 1, 0, 0, 0, 0), (79, .iadd, 1, 0, 0, 0, 0), (80, .aaload, 1, 0, 0, 0, 0), (81, .getfield 207, 3, 417, 4, 3, 0), (84, .imul, 1, 0, 0, 0, 0), (85, .invokevirtual 113, 3, 4, 10, 1, 520), (88, .ireturn, 1, 0, 0, 0, 0)]
set_option maxRecDepth 100000 in
set_option maxHeartbeats 4000000 in
theorem c_X10_work (l : Launch) (G : vg_G) (hp : vg_Hp G) : vg_Ct l G vg_sh r_X10_work := by
  refine vg_meth hp vg_sh_ok r_X10_work k_X10_work rfl (fun h => by cases h) o_X10_work [r_X10_within, r_X10_refuse, r_X8_plainOf, r_X8_foldedOf, r_X10_answer] false (by decide +kernel) (by decide +kernel) ⟨_, _, rfl, rfl⟩ (List.forall_mem_cons.mpr ⟨⟨c_X10_within l G hp, Nat.le_of_ble_eq_true rfl, Nat.le_of_ble_eq_true rfl⟩, List.forall_mem_cons.mpr ⟨⟨c_X10_refuse l G hp, Nat.le_of_ble_eq_true rfl, Nat.le_of_ble_eq_true rfl⟩, List.forall_mem_cons.mpr ⟨⟨c_X8_plainOf l G hp, Nat.le_of_ble_eq_true rfl, Nat.le_of_ble_eq_true rfl⟩, List.forall_mem_cons.mpr ⟨⟨c_X8_foldedOf l G hp, Nat.le_of_ble_eq_true rfl, Nat.le_of_ble_eq_true rfl⟩, List.forall_mem_cons.mpr ⟨⟨c_X10_answer l G hp, Nat.le_of_ble_eq_true rfl, Nat.le_of_ble_eq_true rfl⟩, fun _ h => absurd h List.not_mem_nil⟩⟩⟩⟩⟩) (fun h => by cases h) 600 ?_
  intro as s0 hpre
  obtain ⟨r, a1, a2, rfl, hr, i0⟩ := hpre
  simp only [List.mem_cons, List.not_mem_nil, or_false] at hr
  rcases hr with rfl
  ·
    have z0 : (Int32.ofInt 0).toInt = 0 := by decide
    have z1 : (Int32.ofInt 1).toInt = 1 := by decide
    have z2 : (Int32.ofInt 2).toInt = 2 := by decide
    have z4 : (Int32.ofInt 4).toInt = 4 := by decide
    refine ⟨Nat.le_of_ble_eq_true rfl, [], ?_, fun _ h => absurd h List.not_mem_nil⟩
    ·
      refine And.intro (Nat.le_of_ble_eq_true rfl) (And.intro ⟨a2, (Int32.ofInt 0), (Int32.ofInt 1), rfl, trivial⟩ ?_)
      intro v1 s3 h2
      have h2 : s3 = s0 ∧ ((v1.toInt = 1 ∧ (Int32.ofInt 0).toInt ≤ a2.toInt ∧ a2.toInt ≤ (Int32.ofInt 1).toInt) ∨ (v1.toInt = 0 ∧ (a2.toInt < (Int32.ofInt 0).toInt ∨ (Int32.ofInt 1).toInt < a2.toInt))) := h2
      have q6 := h2.1.symm
      subst q6
      have q7 := h2.2
      refine And.intro (fun c8 => ?_) (fun c8 => ?_)
      · have c8 : ¬ v1.toInt = 0 := c8
        intro v9 e10
        have g11 : s0.1 0 2 = v9 := by rw [e10]
        have b12 : v9.toInt = (s0.1 0 2).toInt := congrArg Int32.toInt e10
        have b13 : (0 : Int) ≤ v9.toInt ∧ v9.toInt ≤ 3 := by rw [e10]; exact Iv_0_2 i0
        intro v14 e15
        have b16 := vg_sub e15 (by omega) (by omega)
        refine And.intro (Nat.le_of_ble_eq_true rfl) (And.intro ⟨a1, (Int32.ofInt 0), v14, rfl, trivial⟩ ?_)
        intro v17 s19 h18
        have h18 : s19 = s0 ∧ ((v17.toInt = 1 ∧ (Int32.ofInt 0).toInt ≤ a1.toInt ∧ a1.toInt ≤ v14.toInt) ∨ (v17.toInt = 0 ∧ (a1.toInt < (Int32.ofInt 0).toInt ∨ v14.toInt < a1.toInt))) := h18
        have q22 := h18.1.symm
        subst q22
        have q23 := h18.2
        refine And.intro (fun c24 => ?_) (fun c24 => ?_)
        · have c24 : ¬ v17.toInt = 0 := c24
          refine And.intro rfl (And.intro ⟨by omega, by omega⟩ ?_)
          refine And.intro (fun c25 => ?_) ?_
          · have c25 : a1.toInt = (0) := c25
            intro v26 e27
            have g28 : s0.1 35 0 = v26 := by rw [e27]
            have y1 : v26 = vg_fk s0 a1 := by first | exact e27.trans (vg_fk_0 (by omega)).symm | exact e27.trans (vg_fk_1 (by omega)).symm | exact e27.trans (vg_fk_2 (by omega) (by omega)).symm
            refine And.intro (fun c29 => ?_) (fun c29 => ?_)
            · have c29 : ¬ a2.toInt = 0 := c29
              refine And.intro (Nat.le_of_ble_eq_true rfl) (And.intro ⟨16, v26, rfl, by decide, i0⟩ ?_)
              intro v30 s32 h31
              have h31 : s32 = s0 ∧ (v30 = vg_cnt (vg_rw s0 (vg_rp v26)) (vg_tn v26 / 2 + 1)) := h31
              have q35 := h31.1.symm
              subst q35
              have q36 := h31.2
              have y2 : v30 = vg_each a2 (vg_rw s0 (vg_rp v26)) (vg_tn v26) := by first | exact q36.trans (vg_each_0 (by omega)).symm | exact q36.trans (vg_each_1 (by omega)).symm
              intro v37 e38
              have b39 := vg_add e38 (by omega) (by omega)
              refine And.intro rfl (And.intro ⟨by omega, by omega⟩ ?_)
              refine And.intro (fun c40 => ?_) ?_
              · have c40 : v37.toInt = (0) := c40
                exfalso
                omega
              refine And.intro (fun c41 => ?_) ?_
              · have c41 : v37.toInt = (1) := c41
                exfalso
                omega
              refine And.intro (fun c42 => ?_) ?_
              · have c42 : v37.toInt = (2) := c42
                exfalso
                omega
              refine And.intro (fun c43 => ?_) ?_
              · have c43 : v37.toInt = (3) := c43
                exfalso
                omega
              refine And.intro (fun c44 => ?_) ?_
              · have c44 : v37.toInt = (4) := c44
                intro v45 e46
                have g47 : s0.1 49 3 = v45 := by rw [e46]
                have y3 : v45 = (vk s0).1 (4 + a1.toNatClampNeg) := by first | exact vk_wkm (q := 4) e46 ⟨rfl, by decide⟩ (by omega) (by omega) | exact vk_wkm (q := 5) e46 ⟨rfl, by decide⟩ (by omega) (by omega) | exact vk_wkm (q := 6) e46 ⟨rfl, by decide⟩ (by omega) (by omega)
                intro v48 e49
                refine And.intro (Nat.le_of_ble_eq_true rfl) (And.intro ⟨0, v48, rfl, by decide, i0⟩ ?_)
                intro v50 s52 h51
                have h51 : Iv s52 ∧ Kp s0 s52 ∧ vk s52 = ((vk s0).1, (vk s0).2) ∧ (v50 = v48 ∧ v50.toInt = v48.toInt) := h51
                have i53 := h51.1
                have k54 : Kp s0 s52 := Kx.tr Kx.rf (h51.2.1)
                have u55 : vk s52 = ((vk s0).1, (vk s0).2) := h51.2.2.1.trans rfl
                have q56 := h51.2.2.2
                show Iv s52 ∧ Kp s0 s52 ∧ vk s52 = ((vk s0).1, (vk s0).2) ∧ (((0 ≤ a2.toInt ∧ a2.toInt ≤ 1 ∧ 0 ≤ a1.toInt ∧ a1.toInt < (s0.1 0 2).toInt) ∧ v50 = vg_each a2 (vg_rw s0 (vg_rp (vg_fk s0 a1))) (vg_tn (vg_fk s0 a1)) * (vk s0).1 (4 + a1.toNatClampNeg)) ∨ (¬ (0 ≤ a2.toInt ∧ a2.toInt ≤ 1 ∧ 0 ≤ a1.toInt ∧ a1.toInt < (s0.1 0 2).toInt) ∧ v50.toInt = -1))
                exact ⟨i53, k54, u55, (by first | exact Or.inl ⟨by omega, by rw [q56.1, e49, y2, y3, y1]⟩ | exact Or.inr ⟨by omega, by omega⟩)⟩
              refine And.intro (fun c57 => ?_) ?_
              · have c57 : v37.toInt = (5) := c57
                exfalso
                omega
              refine And.intro (fun c58 => ?_) ?_
              · have c58 : v37.toInt = (6) := c58
                exfalso
                omega
              exact trivial
            · have c29 : ¬ (¬ a2.toInt = 0) := c29
              refine And.intro (Nat.le_of_ble_eq_true rfl) (And.intro ⟨16, v26, rfl, by decide, i0⟩ ?_)
              intro v59 s61 h60
              have h60 : s61 = s0 ∧ (v59 = vg_cnt (vg_rw s0 (vg_rp v26)) (vg_tn v26)) := h60
              have q64 := h60.1.symm
              subst q64
              have q65 := h60.2
              have y2 : v59 = vg_each a2 (vg_rw s0 (vg_rp v26)) (vg_tn v26) := by first | exact q65.trans (vg_each_0 (by omega)).symm | exact q65.trans (vg_each_1 (by omega)).symm
              intro v66 e67
              have b68 := vg_add e67 (by omega) (by omega)
              refine And.intro rfl (And.intro ⟨by omega, by omega⟩ ?_)
              refine And.intro (fun c69 => ?_) ?_
              · have c69 : v66.toInt = (0) := c69
                exfalso
                omega
              refine And.intro (fun c70 => ?_) ?_
              · have c70 : v66.toInt = (1) := c70
                exfalso
                omega
              refine And.intro (fun c71 => ?_) ?_
              · have c71 : v66.toInt = (2) := c71
                exfalso
                omega
              refine And.intro (fun c72 => ?_) ?_
              · have c72 : v66.toInt = (3) := c72
                exfalso
                omega
              refine And.intro (fun c73 => ?_) ?_
              · have c73 : v66.toInt = (4) := c73
                intro v74 e75
                have g76 : s0.1 49 3 = v74 := by rw [e75]
                have y3 : v74 = (vk s0).1 (4 + a1.toNatClampNeg) := by first | exact vk_wkm (q := 4) e75 ⟨rfl, by decide⟩ (by omega) (by omega) | exact vk_wkm (q := 5) e75 ⟨rfl, by decide⟩ (by omega) (by omega) | exact vk_wkm (q := 6) e75 ⟨rfl, by decide⟩ (by omega) (by omega)
                intro v77 e78
                refine And.intro (Nat.le_of_ble_eq_true rfl) (And.intro ⟨0, v77, rfl, by decide, i0⟩ ?_)
                intro v79 s81 h80
                have h80 : Iv s81 ∧ Kp s0 s81 ∧ vk s81 = ((vk s0).1, (vk s0).2) ∧ (v79 = v77 ∧ v79.toInt = v77.toInt) := h80
                have i82 := h80.1
                have k83 : Kp s0 s81 := Kx.tr Kx.rf (h80.2.1)
                have u84 : vk s81 = ((vk s0).1, (vk s0).2) := h80.2.2.1.trans rfl
                have q85 := h80.2.2.2
                show Iv s81 ∧ Kp s0 s81 ∧ vk s81 = ((vk s0).1, (vk s0).2) ∧ (((0 ≤ a2.toInt ∧ a2.toInt ≤ 1 ∧ 0 ≤ a1.toInt ∧ a1.toInt < (s0.1 0 2).toInt) ∧ v79 = vg_each a2 (vg_rw s0 (vg_rp (vg_fk s0 a1))) (vg_tn (vg_fk s0 a1)) * (vk s0).1 (4 + a1.toNatClampNeg)) ∨ (¬ (0 ≤ a2.toInt ∧ a2.toInt ≤ 1 ∧ 0 ≤ a1.toInt ∧ a1.toInt < (s0.1 0 2).toInt) ∧ v79.toInt = -1))
                exact ⟨i82, k83, u84, (by first | exact Or.inl ⟨by omega, by rw [q85.1, e78, y2, y3, y1]⟩ | exact Or.inr ⟨by omega, by omega⟩)⟩
              refine And.intro (fun c86 => ?_) ?_
              · have c86 : v66.toInt = (5) := c86
                exfalso
                omega
              refine And.intro (fun c87 => ?_) ?_
              · have c87 : v66.toInt = (6) := c87
                exfalso
                omega
              exact trivial
          refine And.intro (fun c88 => ?_) ?_
          · have c88 : a1.toInt = (1) := c88
            intro v89 e90
            have g91 : s0.1 37 0 = v89 := by rw [e90]
            have y1 : v89 = vg_fk s0 a1 := by first | exact e90.trans (vg_fk_0 (by omega)).symm | exact e90.trans (vg_fk_1 (by omega)).symm | exact e90.trans (vg_fk_2 (by omega) (by omega)).symm
            refine And.intro (fun c92 => ?_) (fun c92 => ?_)
            · have c92 : ¬ a2.toInt = 0 := c92
              refine And.intro (Nat.le_of_ble_eq_true rfl) (And.intro ⟨16, v89, rfl, by decide, i0⟩ ?_)
              intro v93 s95 h94
              have h94 : s95 = s0 ∧ (v93 = vg_cnt (vg_rw s0 (vg_rp v89)) (vg_tn v89 / 2 + 1)) := h94
              have q98 := h94.1.symm
              subst q98
              have q99 := h94.2
              have y2 : v93 = vg_each a2 (vg_rw s0 (vg_rp v89)) (vg_tn v89) := by first | exact q99.trans (vg_each_0 (by omega)).symm | exact q99.trans (vg_each_1 (by omega)).symm
              intro v100 e101
              have b102 := vg_add e101 (by omega) (by omega)
              refine And.intro rfl (And.intro ⟨by omega, by omega⟩ ?_)
              refine And.intro (fun c103 => ?_) ?_
              · have c103 : v100.toInt = (0) := c103
                exfalso
                omega
              refine And.intro (fun c104 => ?_) ?_
              · have c104 : v100.toInt = (1) := c104
                exfalso
                omega
              refine And.intro (fun c105 => ?_) ?_
              · have c105 : v100.toInt = (2) := c105
                exfalso
                omega
              refine And.intro (fun c106 => ?_) ?_
              · have c106 : v100.toInt = (3) := c106
                exfalso
                omega
              refine And.intro (fun c107 => ?_) ?_
              · have c107 : v100.toInt = (4) := c107
                exfalso
                omega
              refine And.intro (fun c108 => ?_) ?_
              · have c108 : v100.toInt = (5) := c108
                intro v109 e110
                have g111 : s0.1 51 3 = v109 := by rw [e110]
                have y3 : v109 = (vk s0).1 (4 + a1.toNatClampNeg) := by first | exact vk_wkm (q := 4) e110 ⟨rfl, by decide⟩ (by omega) (by omega) | exact vk_wkm (q := 5) e110 ⟨rfl, by decide⟩ (by omega) (by omega) | exact vk_wkm (q := 6) e110 ⟨rfl, by decide⟩ (by omega) (by omega)
                intro v112 e113
                refine And.intro (Nat.le_of_ble_eq_true rfl) (And.intro ⟨0, v112, rfl, by decide, i0⟩ ?_)
                intro v114 s116 h115
                have h115 : Iv s116 ∧ Kp s0 s116 ∧ vk s116 = ((vk s0).1, (vk s0).2) ∧ (v114 = v112 ∧ v114.toInt = v112.toInt) := h115
                have i117 := h115.1
                have k118 : Kp s0 s116 := Kx.tr Kx.rf (h115.2.1)
                have u119 : vk s116 = ((vk s0).1, (vk s0).2) := h115.2.2.1.trans rfl
                have q120 := h115.2.2.2
                show Iv s116 ∧ Kp s0 s116 ∧ vk s116 = ((vk s0).1, (vk s0).2) ∧ (((0 ≤ a2.toInt ∧ a2.toInt ≤ 1 ∧ 0 ≤ a1.toInt ∧ a1.toInt < (s0.1 0 2).toInt) ∧ v114 = vg_each a2 (vg_rw s0 (vg_rp (vg_fk s0 a1))) (vg_tn (vg_fk s0 a1)) * (vk s0).1 (4 + a1.toNatClampNeg)) ∨ (¬ (0 ≤ a2.toInt ∧ a2.toInt ≤ 1 ∧ 0 ≤ a1.toInt ∧ a1.toInt < (s0.1 0 2).toInt) ∧ v114.toInt = -1))
                exact ⟨i117, k118, u119, (by first | exact Or.inl ⟨by omega, by rw [q120.1, e113, y2, y3, y1]⟩ | exact Or.inr ⟨by omega, by omega⟩)⟩
              refine And.intro (fun c121 => ?_) ?_
              · have c121 : v100.toInt = (6) := c121
                exfalso
                omega
              exact trivial
            · have c92 : ¬ (¬ a2.toInt = 0) := c92
              refine And.intro (Nat.le_of_ble_eq_true rfl) (And.intro ⟨16, v89, rfl, by decide, i0⟩ ?_)
              intro v122 s124 h123
              have h123 : s124 = s0 ∧ (v122 = vg_cnt (vg_rw s0 (vg_rp v89)) (vg_tn v89)) := h123
              have q127 := h123.1.symm
              subst q127
              have q128 := h123.2
              have y2 : v122 = vg_each a2 (vg_rw s0 (vg_rp v89)) (vg_tn v89) := by first | exact q128.trans (vg_each_0 (by omega)).symm | exact q128.trans (vg_each_1 (by omega)).symm
              intro v129 e130
              have b131 := vg_add e130 (by omega) (by omega)
              refine And.intro rfl (And.intro ⟨by omega, by omega⟩ ?_)
              refine And.intro (fun c132 => ?_) ?_
              · have c132 : v129.toInt = (0) := c132
                exfalso
                omega
              refine And.intro (fun c133 => ?_) ?_
              · have c133 : v129.toInt = (1) := c133
                exfalso
                omega
              refine And.intro (fun c134 => ?_) ?_
              · have c134 : v129.toInt = (2) := c134
                exfalso
                omega
              refine And.intro (fun c135 => ?_) ?_
              · have c135 : v129.toInt = (3) := c135
                exfalso
                omega
              refine And.intro (fun c136 => ?_) ?_
              · have c136 : v129.toInt = (4) := c136
                exfalso
                omega
              refine And.intro (fun c137 => ?_) ?_
              · have c137 : v129.toInt = (5) := c137
                intro v138 e139
                have g140 : s0.1 51 3 = v138 := by rw [e139]
                have y3 : v138 = (vk s0).1 (4 + a1.toNatClampNeg) := by first | exact vk_wkm (q := 4) e139 ⟨rfl, by decide⟩ (by omega) (by omega) | exact vk_wkm (q := 5) e139 ⟨rfl, by decide⟩ (by omega) (by omega) | exact vk_wkm (q := 6) e139 ⟨rfl, by decide⟩ (by omega) (by omega)
                intro v141 e142
                refine And.intro (Nat.le_of_ble_eq_true rfl) (And.intro ⟨0, v141, rfl, by decide, i0⟩ ?_)
                intro v143 s145 h144
                have h144 : Iv s145 ∧ Kp s0 s145 ∧ vk s145 = ((vk s0).1, (vk s0).2) ∧ (v143 = v141 ∧ v143.toInt = v141.toInt) := h144
                have i146 := h144.1
                have k147 : Kp s0 s145 := Kx.tr Kx.rf (h144.2.1)
                have u148 : vk s145 = ((vk s0).1, (vk s0).2) := h144.2.2.1.trans rfl
                have q149 := h144.2.2.2
                show Iv s145 ∧ Kp s0 s145 ∧ vk s145 = ((vk s0).1, (vk s0).2) ∧ (((0 ≤ a2.toInt ∧ a2.toInt ≤ 1 ∧ 0 ≤ a1.toInt ∧ a1.toInt < (s0.1 0 2).toInt) ∧ v143 = vg_each a2 (vg_rw s0 (vg_rp (vg_fk s0 a1))) (vg_tn (vg_fk s0 a1)) * (vk s0).1 (4 + a1.toNatClampNeg)) ∨ (¬ (0 ≤ a2.toInt ∧ a2.toInt ≤ 1 ∧ 0 ≤ a1.toInt ∧ a1.toInt < (s0.1 0 2).toInt) ∧ v143.toInt = -1))
                exact ⟨i146, k147, u148, (by first | exact Or.inl ⟨by omega, by rw [q149.1, e142, y2, y3, y1]⟩ | exact Or.inr ⟨by omega, by omega⟩)⟩
              refine And.intro (fun c150 => ?_) ?_
              · have c150 : v129.toInt = (6) := c150
                exfalso
                omega
              exact trivial
          refine And.intro (fun c151 => ?_) ?_
          · have c151 : a1.toInt = (2) := c151
            intro v152 e153
            have g154 : s0.1 39 0 = v152 := by rw [e153]
            have y1 : v152 = vg_fk s0 a1 := by first | exact e153.trans (vg_fk_0 (by omega)).symm | exact e153.trans (vg_fk_1 (by omega)).symm | exact e153.trans (vg_fk_2 (by omega) (by omega)).symm
            refine And.intro (fun c155 => ?_) (fun c155 => ?_)
            · have c155 : ¬ a2.toInt = 0 := c155
              refine And.intro (Nat.le_of_ble_eq_true rfl) (And.intro ⟨16, v152, rfl, by decide, i0⟩ ?_)
              intro v156 s158 h157
              have h157 : s158 = s0 ∧ (v156 = vg_cnt (vg_rw s0 (vg_rp v152)) (vg_tn v152 / 2 + 1)) := h157
              have q161 := h157.1.symm
              subst q161
              have q162 := h157.2
              have y2 : v156 = vg_each a2 (vg_rw s0 (vg_rp v152)) (vg_tn v152) := by first | exact q162.trans (vg_each_0 (by omega)).symm | exact q162.trans (vg_each_1 (by omega)).symm
              intro v163 e164
              have b165 := vg_add e164 (by omega) (by omega)
              refine And.intro rfl (And.intro ⟨by omega, by omega⟩ ?_)
              refine And.intro (fun c166 => ?_) ?_
              · have c166 : v163.toInt = (0) := c166
                exfalso
                omega
              refine And.intro (fun c167 => ?_) ?_
              · have c167 : v163.toInt = (1) := c167
                exfalso
                omega
              refine And.intro (fun c168 => ?_) ?_
              · have c168 : v163.toInt = (2) := c168
                exfalso
                omega
              refine And.intro (fun c169 => ?_) ?_
              · have c169 : v163.toInt = (3) := c169
                exfalso
                omega
              refine And.intro (fun c170 => ?_) ?_
              · have c170 : v163.toInt = (4) := c170
                exfalso
                omega
              refine And.intro (fun c171 => ?_) ?_
              · have c171 : v163.toInt = (5) := c171
                exfalso
                omega
              refine And.intro (fun c172 => ?_) ?_
              · have c172 : v163.toInt = (6) := c172
                intro v173 e174
                have g175 : s0.1 53 3 = v173 := by rw [e174]
                have y3 : v173 = (vk s0).1 (4 + a1.toNatClampNeg) := by first | exact vk_wkm (q := 4) e174 ⟨rfl, by decide⟩ (by omega) (by omega) | exact vk_wkm (q := 5) e174 ⟨rfl, by decide⟩ (by omega) (by omega) | exact vk_wkm (q := 6) e174 ⟨rfl, by decide⟩ (by omega) (by omega)
                intro v176 e177
                refine And.intro (Nat.le_of_ble_eq_true rfl) (And.intro ⟨0, v176, rfl, by decide, i0⟩ ?_)
                intro v178 s180 h179
                have h179 : Iv s180 ∧ Kp s0 s180 ∧ vk s180 = ((vk s0).1, (vk s0).2) ∧ (v178 = v176 ∧ v178.toInt = v176.toInt) := h179
                have i181 := h179.1
                have k182 : Kp s0 s180 := Kx.tr Kx.rf (h179.2.1)
                have u183 : vk s180 = ((vk s0).1, (vk s0).2) := h179.2.2.1.trans rfl
                have q184 := h179.2.2.2
                show Iv s180 ∧ Kp s0 s180 ∧ vk s180 = ((vk s0).1, (vk s0).2) ∧ (((0 ≤ a2.toInt ∧ a2.toInt ≤ 1 ∧ 0 ≤ a1.toInt ∧ a1.toInt < (s0.1 0 2).toInt) ∧ v178 = vg_each a2 (vg_rw s0 (vg_rp (vg_fk s0 a1))) (vg_tn (vg_fk s0 a1)) * (vk s0).1 (4 + a1.toNatClampNeg)) ∨ (¬ (0 ≤ a2.toInt ∧ a2.toInt ≤ 1 ∧ 0 ≤ a1.toInt ∧ a1.toInt < (s0.1 0 2).toInt) ∧ v178.toInt = -1))
                exact ⟨i181, k182, u183, (by first | exact Or.inl ⟨by omega, by rw [q184.1, e177, y2, y3, y1]⟩ | exact Or.inr ⟨by omega, by omega⟩)⟩
              exact trivial
            · have c155 : ¬ (¬ a2.toInt = 0) := c155
              refine And.intro (Nat.le_of_ble_eq_true rfl) (And.intro ⟨16, v152, rfl, by decide, i0⟩ ?_)
              intro v185 s187 h186
              have h186 : s187 = s0 ∧ (v185 = vg_cnt (vg_rw s0 (vg_rp v152)) (vg_tn v152)) := h186
              have q190 := h186.1.symm
              subst q190
              have q191 := h186.2
              have y2 : v185 = vg_each a2 (vg_rw s0 (vg_rp v152)) (vg_tn v152) := by first | exact q191.trans (vg_each_0 (by omega)).symm | exact q191.trans (vg_each_1 (by omega)).symm
              intro v192 e193
              have b194 := vg_add e193 (by omega) (by omega)
              refine And.intro rfl (And.intro ⟨by omega, by omega⟩ ?_)
              refine And.intro (fun c195 => ?_) ?_
              · have c195 : v192.toInt = (0) := c195
                exfalso
                omega
              refine And.intro (fun c196 => ?_) ?_
              · have c196 : v192.toInt = (1) := c196
                exfalso
                omega
              refine And.intro (fun c197 => ?_) ?_
              · have c197 : v192.toInt = (2) := c197
                exfalso
                omega
              refine And.intro (fun c198 => ?_) ?_
              · have c198 : v192.toInt = (3) := c198
                exfalso
                omega
              refine And.intro (fun c199 => ?_) ?_
              · have c199 : v192.toInt = (4) := c199
                exfalso
                omega
              refine And.intro (fun c200 => ?_) ?_
              · have c200 : v192.toInt = (5) := c200
                exfalso
                omega
              refine And.intro (fun c201 => ?_) ?_
              · have c201 : v192.toInt = (6) := c201
                intro v202 e203
                have g204 : s0.1 53 3 = v202 := by rw [e203]
                have y3 : v202 = (vk s0).1 (4 + a1.toNatClampNeg) := by first | exact vk_wkm (q := 4) e203 ⟨rfl, by decide⟩ (by omega) (by omega) | exact vk_wkm (q := 5) e203 ⟨rfl, by decide⟩ (by omega) (by omega) | exact vk_wkm (q := 6) e203 ⟨rfl, by decide⟩ (by omega) (by omega)
                intro v205 e206
                refine And.intro (Nat.le_of_ble_eq_true rfl) (And.intro ⟨0, v205, rfl, by decide, i0⟩ ?_)
                intro v207 s209 h208
                have h208 : Iv s209 ∧ Kp s0 s209 ∧ vk s209 = ((vk s0).1, (vk s0).2) ∧ (v207 = v205 ∧ v207.toInt = v205.toInt) := h208
                have i210 := h208.1
                have k211 : Kp s0 s209 := Kx.tr Kx.rf (h208.2.1)
                have u212 : vk s209 = ((vk s0).1, (vk s0).2) := h208.2.2.1.trans rfl
                have q213 := h208.2.2.2
                show Iv s209 ∧ Kp s0 s209 ∧ vk s209 = ((vk s0).1, (vk s0).2) ∧ (((0 ≤ a2.toInt ∧ a2.toInt ≤ 1 ∧ 0 ≤ a1.toInt ∧ a1.toInt < (s0.1 0 2).toInt) ∧ v207 = vg_each a2 (vg_rw s0 (vg_rp (vg_fk s0 a1))) (vg_tn (vg_fk s0 a1)) * (vk s0).1 (4 + a1.toNatClampNeg)) ∨ (¬ (0 ≤ a2.toInt ∧ a2.toInt ≤ 1 ∧ 0 ≤ a1.toInt ∧ a1.toInt < (s0.1 0 2).toInt) ∧ v207.toInt = -1))
                exact ⟨i210, k211, u212, (by first | exact Or.inl ⟨by omega, by rw [q213.1, e206, y2, y3, y1]⟩ | exact Or.inr ⟨by omega, by omega⟩)⟩
              exact trivial
          exact trivial
        · have c24 : ¬ (¬ v17.toInt = 0) := c24
          refine And.intro (Nat.le_of_ble_eq_true rfl) (And.intro ⟨0, (Int32.ofInt 2), rfl, by decide, i0⟩ ?_)
          intro v214 s216 h215
          have h215 : Iv s216 ∧ Kp s0 s216 ∧ vk s216 = ((vk s0).1, (vk s0).2) ∧ (v214.toInt = -1) := h215
          have i217 := h215.1
          have k218 : Kp s0 s216 := Kx.tr Kx.rf (h215.2.1)
          have u219 : vk s216 = ((vk s0).1, (vk s0).2) := h215.2.2.1.trans rfl
          have q220 := h215.2.2.2
          show Iv s216 ∧ Kp s0 s216 ∧ vk s216 = ((vk s0).1, (vk s0).2) ∧ (((0 ≤ a2.toInt ∧ a2.toInt ≤ 1 ∧ 0 ≤ a1.toInt ∧ a1.toInt < (s0.1 0 2).toInt) ∧ v214 = vg_each a2 (vg_rw s0 (vg_rp (vg_fk s0 a1))) (vg_tn (vg_fk s0 a1)) * (vk s0).1 (4 + a1.toNatClampNeg)) ∨ (¬ (0 ≤ a2.toInt ∧ a2.toInt ≤ 1 ∧ 0 ≤ a1.toInt ∧ a1.toInt < (s0.1 0 2).toInt) ∧ v214.toInt = -1))
          exact ⟨i217, k218, u219, (by first | exact Or.inl ⟨by omega, by rw [q220.1, e15, y2, y3, y1]⟩ | exact Or.inr ⟨by omega, by omega⟩)⟩
      · have c8 : ¬ (¬ v1.toInt = 0) := c8
        refine And.intro (Nat.le_of_ble_eq_true rfl) (And.intro ⟨0, (Int32.ofInt 1), rfl, by decide, i0⟩ ?_)
        intro v221 s223 h222
        have h222 : Iv s223 ∧ Kp s0 s223 ∧ vk s223 = ((vk s0).1, (vk s0).2) ∧ (v221.toInt = -1) := h222
        have i224 := h222.1
        have k225 : Kp s0 s223 := Kx.tr Kx.rf (h222.2.1)
        have u226 : vk s223 = ((vk s0).1, (vk s0).2) := h222.2.2.1.trans rfl
        have q227 := h222.2.2.2
        show Iv s223 ∧ Kp s0 s223 ∧ vk s223 = ((vk s0).1, (vk s0).2) ∧ (((0 ≤ a2.toInt ∧ a2.toInt ≤ 1 ∧ 0 ≤ a1.toInt ∧ a1.toInt < (s0.1 0 2).toInt) ∧ v221 = vg_each a2 (vg_rw s0 (vg_rp (vg_fk s0 a1))) (vg_tn (vg_fk s0 a1)) * (vk s0).1 (4 + a1.toNatClampNeg)) ∨ (¬ (0 ≤ a2.toInt ∧ a2.toInt ≤ 1 ∧ 0 ≤ a1.toInt ∧ a1.toInt < (s0.1 0 2).toInt) ∧ v221.toInt = -1))
        exact ⟨i224, k225, u226, (by first | exact Or.inl ⟨by omega, by rw [q227.1, None, y2, y3, y1]⟩ | exact Or.inr ⟨by omega, by omega⟩)⟩
