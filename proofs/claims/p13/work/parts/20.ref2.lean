def o_X11_wouldBeOn : List vg_I := [(0, .aload_n 0, 1, 0, 0, 0, 0), (1, .invokevirtual 102, 3, 0, 11, 0, 1218), (4, .istore_n 2, 1, 0, 0, 0, 0), (5, .iconst 0, 1, 0, 0, 0, 0), (6, .istore_n 3, 1, 0, 0, 0, 0), (7, .aload_n 0, 1, 0, 0, 0, 0), (8, .getfield 164, 3, 1076, 11, 15, 0), (11, .ifCond .ne 9, 3, 0, 0, 0, 0), (14, .iconst 1, 1, 0, 0, 0, 0), (15, .iload_n 1, 1, 0, 0, 0, 0), (16, .ishl, 1, 0, 0, 0, 0), (17, .iconst 1, 1, 0, 0, 0, 0), (18, .isub, 1, 0, 0, 0, 0), (19, .ireturn, 1, 0, 0, 0, 0), (20, .iconst 0, 1, 0, 0, 0, 0), (21, .istore 4, 2, 0, 0, 0, 0), (23, .iload 4, 2, 0, 0, 0, 0), (25, .iload_n 1, 1, 0, 0, 0, 0), (26, .if_icmp .ge 145, 3, 0, 0, 0, 0), (29, .iconst (-1), 1, 0, 0, 0, 0), (30, .istore 5, 2, 0, 0, 0, 0), (32, .aload_n 0, 1, 0, 0, 0, 0), (33, .getfield 164, 3, 1076, 11, 15, 0), (36, .iconst 1, 1, 0, 0, 0, 0), (37, .if_icmp .ne 16, 3, 0, 0, 0, 0), (40, .aload_n 0, 1, 0, 0, 0, 0), (41, .bipush 10, 2, 0, 0, 0, 0), (43, .invokevirtual 110, 3, 1, 11, 1, 1202), (46, .iload 4, 2, 0, 0, 0, 0), (48, .iadd, 1, 0, 0, 0, 0), (49, .iload_n 2, 1, 0, 0, 0, 0), (50, .irem, 1, 0, 0, 0, 0), (51, .istore 5, 2, 0, 0, 0, 0), (53, .iconst 0, 1, 0, 0, 0, 0), (54, .istore 6, 2, 0, 0, 0, 0), (56, .iload 6, 2, 0, 0, 0, 0), (58, .iload_n 2, 1, 0, 0, 0, 0), (59, .if_icmp .ge 99, 3, 0, 0, 0, 0), (62, .aload_n 0, 1, 0, 0, 0, 0), (63, .getfield 164, 3, 1076, 11, 15, 0), (66, .iconst 2, 1, 0, 0, 0, 0), (67, .if_icmp .ne 91, 3, 0, 0, 0, 0), (70, .iload_n 3, 1, 0, 0, 0, 0), (71, .iload 6, 2, 0, 0, 0, 0), (73, .ishr, 1, 0, 0, 0, 0), (74, .iconst 1, 1, 0, 0, 0, 0), (75, .iand, 1, 0, 0, 0, 0), (76, .iconst 1, 1, 0, 0, 0, 0), (77, .if_icmp .ne 6, 3, 0, 0, 0, 0), (80, .goto 72, 3, 0, 0, 0, 0), (83, .iload 5, 2, 0, 0, 0, 0), (85, .iconst (-1), 1, 0, 0, 0, 0), (86, .if_icmp .eq 57, 3, 0, 0, 0, 0), (89, .ldc2_w 167, 3, 1336, 0, 0, 2), (92, .aload_n 0, 1, 0, 0, 0, 0), (93, .getfield 7, 3, 1061, 11, 0, 0), (96, .bipush 39, 2, 0, 0, 0, 0), (98, .iload 6, 2, 0, 0, 0, 0), (100, .iadd, 1, 0, 0, 0, 0), (101, .laload, 1, 0, 0, 0, 0), (102, .lmul, 1, 0, 0, 0, 0), (103, .aload_n 0, 1, 0, 0, 0, 0), (104, .getfield 7, 3, 1061, 11, 0, 0), (107, .bipush 55, 2, 0, 0, 0, 0), (109, .iload 6, 2, 0, 0, 0, 0), (111, .iadd, 1, 0, 0, 0, 0), (112, .laload, 1, 0, 0, 0, 0), (113, .ladd, 1, 0, 0, 0, 0), (114, .ldc2_w 167, 3, 1336, 0, 0, 2), (117, .aload_n 0, 1, 0, 0, 0, 0), (118, .getfield 7, 3, 1061, 11, 0, 0), (121, .bipush 39, 2, 0, 0, 0, 0), (123, .iload 5, 2, 0, 0, 0, 0), (125, .iadd, 1, 0, 0, 0, 0), (126, .laload, 1, 0, 0, 0, 0), (127, .lmul, 1, 0, 0, 0, 0), (128, .aload_n 0, 1, 0, 0, 0, 0), (129, .getfield 7, 3, 1061, 11, 0, 0), (132, .bipush 55, 2, 0, 0, 0, 0), (134, .iload 5, 2, 0, 0, 0, 0), (136, .iadd, 1, 0, 0, 0, 0), (137, .laload, 1, 0, 0, 0, 0), (138, .ladd, 1, 0, 0, 0, 0), (139, .lcmp, 1, 0, 0, 0, 0), (140, .ifCond .le 8, 3, 0, 0, 0, 0), (143, .iload 6, 2, 0, 0, 0, 0), (145, .goto 5, 3, 0, 0, 0, 0), (148, .iload 5, 2, 0, 0, 0, 0), (150, .istore 5, 2, 0, 0, 0, 0), (152, .iinc 6 1, 3, 0, 0, 0, 0), (155, .goto (-99), 3, 0, 0, 0, 0), (158, .iload_n 3, 1, 0, 0, 0, 0), (159, .iconst 1, 1, 0, 0, 0, 0), (160, .iload 5, 2, 0, 0, 0, 0), (162, .ishl, 1, 0, 0, 0, 0), (163, .ior, 1, 0, 0, 0, 0), (164, .istore_n 3, 1, 0, 0, 0, 0), (165, .iinc 4 1, 3, 0, 0, 0, 0), (168, .goto (-145), 3, 0, 0, 0, 0), (171, .iload_n 3, 1, 0, 0, 0, 0), (172, .ireturn, 1, 0, 0, 0, 0)]
set_option maxRecDepth 100000 in
set_option maxHeartbeats 4000000 in
theorem c_X11_wouldBeOn (l : Launch) (G : vg_G) (hp : vg_Hp G) : vg_Ct l G vg_sh r_X11_wouldBeOn := by
  refine vg_meth hp vg_sh_ok r_X11_wouldBeOn k_X11_wouldBeOn rfl (fun h => by cases h) o_X11_wouldBeOn [r_X11_elements, r_X11_get] false (by decide +kernel) (by decide +kernel) ⟨_, _, rfl, rfl⟩ (List.forall_mem_cons.mpr ⟨⟨c_X11_elements l G hp, Nat.le_of_ble_eq_true rfl, Nat.le_of_ble_eq_true rfl⟩, List.forall_mem_cons.mpr ⟨⟨c_X11_get l G hp, Nat.le_of_ble_eq_true rfl, Nat.le_of_ble_eq_true rfl⟩, fun _ h => absurd h List.not_mem_nil⟩⟩) (fun h => by cases h) 600 ?_
  intro as s0 hpre
  obtain ⟨r, a1, rfl, hr, i0⟩ := hpre
  have ra1 := vg_rng a1
  simp only [List.mem_cons, List.not_mem_nil, or_false] at hr
  rcases hr with rfl
  ·
    have zm1 : (Int32.ofInt (-1)).toInt = -1 := by decide
    have z0 : (Int32.ofInt 0).toInt = 0 := by decide
    have z1 : (Int32.ofInt 1).toInt = 1 := by decide
    have z2 : (Int32.ofInt 2).toInt = 2 := by decide
    have z10 : (Int32.ofInt 10).toInt = 10 := by decide
    have z39 : (Int32.ofInt 39).toInt = 39 := by decide
    have z55 : (Int32.ofInt 55).toInt = 55 := by decide
    refine ⟨Nat.le_of_ble_eq_true rfl, [(23, [true, true, true, true, true, false, false], (fun L t => ∃ (x2 : Int32) (x3 : Int32) (x4 : Int32), L = [some (.ref 55), some (.int a1), some (.int x2), some (.int x3), some (.int x4), none, none] ∧ (1 : Int) ≤ x2.toInt ∧ x2.toInt ≤ (16 : Int) ∧ (0 : Int) ≤ x4.toInt ∧ t = s0), (fun L _ => ((a1.toInt - (vg_li L 4).toInt) * 100).toNat)), (56, [true, true, true, true, true, true, true], (fun L t => ∃ (x2 : Int32) (x3 : Int32) (x4 : Int32) (x5 : Int32) (x6 : Int32), L = [some (.ref 55), some (.int a1), some (.int x2), some (.int x3), some (.int x4), some (.int x5), some (.int x6)] ∧ (1 : Int) ≤ x2.toInt ∧ x2.toInt ≤ (16 : Int) ∧ (0 : Int) ≤ x4.toInt ∧ x4.toInt ≤ (2147483646 : Int) ∧ (0 : Int) ≤ x6.toInt ∧ x6.toInt ≤ (16 : Int) ∧ (1 : Int) ≤ a1.toInt ∧ a1.toInt ≤ (2147483647 : Int) ∧ (x4.toInt < a1.toInt ∧ ((-1 ≤ x5.toInt ∧ x5.toInt ≤ 15) ∨ ¬ (s0.1 55 15).toInt = 2)) ∧ t = s0), (fun L _ => ((a1.toInt - (vg_li L 4).toInt) * 100 - 100 + (17 - (vg_li L 6).toInt) + 1).toNat))], ?_, List.forall_mem_cons.mpr ⟨?_, List.forall_mem_cons.mpr ⟨?_, fun _ h => absurd h List.not_mem_nil⟩⟩⟩
    ·
      refine And.intro (Nat.le_of_ble_eq_true rfl) (And.intro ⟨55, rfl, by decide, i0⟩ ?_)
      intro v1 s3 h2
      have h2 : s3 = s0 ∧ (v1 = vg_me s0 ∧ 1 ≤ v1.toInt ∧ v1.toInt ≤ 16) := h2
      have q6 := h2.1.symm
      subst q6
      have q7 := h2.2
      intro v8 e9
      have g10 : s0.1 55 15 = v8 := by rw [e9]
      have b11 : v8.toInt = (s0.1 55 15).toInt := congrArg Int32.toInt e9
      refine And.intro (fun c12 => ?_) (fun c12 => ?_)
      · have c12 : ¬ v8.toInt = 0 := c12
        exact ⟨rfl, ⟨v1, (Int32.ofInt 0), (Int32.ofInt 0), rfl, (by omega), (by omega), (by omega), rfl⟩, trivial⟩
      · have c12 : ¬ (¬ v8.toInt = 0) := c12
        intro v13 e14
        intro v15 e16
        show s0 = s0 ∧ (True)
        exact ⟨rfl, (trivial)⟩
    ·
      intro L s23 hL
      obtain ⟨w17, w20, w21, rfl, b18, b19, b22, q26⟩ := hL
      have q26 := q26.symm
      subst q26
      refine And.intro (fun c27 => ?_) (fun c27 => ?_)
      · have c27 : a1.toInt ≤ w21.toInt := c27
        show s0 = s0 ∧ (True)
        exact ⟨rfl, (trivial)⟩
      · have c27 : ¬ (a1.toInt ≤ w21.toInt) := c27
        intro v28 e29
        have g30 : s0.1 55 15 = v28 := by rw [e29]
        have b31 : v28.toInt = (s0.1 55 15).toInt := congrArg Int32.toInt e29
        refine And.intro (fun c32 => ?_) (fun c32 => ?_)
        · have c32 : ¬ v28.toInt = (Int32.ofInt 1).toInt := c32
          exact ⟨rfl, ⟨w17, w20, w21, (Int32.ofInt (-1)), (Int32.ofInt 0), rfl, (by omega), (by omega), (by omega), (by omega), (by omega), (by omega), (by omega), (by omega), (by omega), rfl⟩, (by show ((a1.toInt - w21.toInt) * 100 - 100 + (17 - (Int32.ofInt 0).toInt) + 1).toNat < ((a1.toInt - w21.toInt) * 100).toNat; omega)⟩
        · have c32 : ¬ (¬ v28.toInt = (Int32.ofInt 1).toInt) := c32
          refine And.intro (Nat.le_of_ble_eq_true rfl) (And.intro ⟨55, (Int32.ofInt 10), rfl, by decide, i0, by omega⟩ ?_)
          intro v33 s35 h34
          have h34 : s35 = s0 ∧ (v33 = (s0.2 56 (Int32.ofInt 10).toNatClampNeg).toInt32) := h34
          have q38 := h34.1.symm
          subst q38
          have q39 := h34.2
          intro v40 e41
          refine And.intro (by omega) ?_
          intro v42 e43
          have b44 := vg_remx e43 (by omega)
          exact ⟨rfl, ⟨w17, w20, w21, v42, (Int32.ofInt 0), rfl, (by omega), (by omega), (by omega), (by omega), (by omega), (by omega), (by omega), (by omega), (by omega), rfl⟩, (by show ((a1.toInt - w21.toInt) * 100 - 100 + (17 - (Int32.ofInt 0).toInt) + 1).toNat < ((a1.toInt - w21.toInt) * 100).toNat; omega)⟩
    ·
      intro L s59 hL
      obtain ⟨w45, w48, w49, w52, w53, rfl, b46, b47, b50, b51, b54, b55, b56, b57, x58, q62⟩ := hL
      have q62 := q62.symm
      subst q62
      refine And.intro (fun c63 => ?_) (fun c63 => ?_)
      · have c63 : w45.toInt ≤ w53.toInt := c63
        intro v64 e65
        intro v66 e67
        intro v68 e69
        have b70 := vg_add e69 (by omega) (by omega)
        exact ⟨rfl, ⟨w45, v66, v68, rfl, (by omega), (by omega), (by omega), rfl⟩, (by show ((a1.toInt - v68.toInt) * 100).toNat < ((a1.toInt - w49.toInt) * 100 - 100 + (17 - w53.toInt) + 1).toNat; omega)⟩
      · have c63 : ¬ (w45.toInt ≤ w53.toInt) := c63
        intro v71 e72
        have g73 : s0.1 55 15 = v71 := by rw [e72]
        have b74 : v71.toInt = (s0.1 55 15).toInt := congrArg Int32.toInt e72
        refine And.intro (fun c75 => ?_) (fun c75 => ?_)
        · have c75 : ¬ v71.toInt = (Int32.ofInt 2).toInt := c75
          intro v76 e77
          intro v78 e79
          intro v80 e81
          have b82 := vg_add e81 (by omega) (by omega)
          exact ⟨rfl, ⟨w45, v78, v80, rfl, (by omega), (by omega), (by omega), rfl⟩, (by show ((a1.toInt - v80.toInt) * 100).toNat < ((a1.toInt - w49.toInt) * 100 - 100 + (17 - w53.toInt) + 1).toNat; omega)⟩
        · have c75 : ¬ (¬ v71.toInt = (Int32.ofInt 2).toInt) := c75
          intro v83 e84
          intro v85 e86
          have b87 := vg_and e86 (by omega)
          refine And.intro (fun c88 => ?_) (fun c88 => ?_)
          · have c88 : ¬ v85.toInt = (Int32.ofInt 1).toInt := c88
            refine And.intro (fun c89 => ?_) (fun c89 => ?_)
            · have c89 : w52.toInt = (Int32.ofInt (-1)).toInt := c89
              intro v90 e91
              have b92 := vg_add e91 (by omega) (by omega)
              exact ⟨rfl, ⟨w45, w48, w49, w53, v90, rfl, (by omega), (by omega), (by omega), (by omega), (by omega), (by omega), (by omega), (by omega), (by omega), rfl⟩, (by show ((a1.toInt - w49.toInt) * 100 - 100 + (17 - v90.toInt) + 1).toNat < ((a1.toInt - w49.toInt) * 100 - 100 + (17 - w53.toInt) + 1).toNat; omega)⟩
            · have c89 : ¬ (w52.toInt = (Int32.ofInt (-1)).toInt) := c89
              intro v93 e94
              have b95 := vg_add e94 (by omega) (by omega)
              refine And.intro ⟨by omega, by omega⟩ ?_
              intro v96 e97
              intro v98 e99
              intro v100 e101
              have b102 := vg_add e101 (by omega) (by omega)
              refine And.intro ⟨by omega, by omega⟩ ?_
              intro v103 e104
              intro v105 e106
              intro v107 e108
              have b109 := vg_add e108 (by omega) (by omega)
              refine And.intro ⟨by omega, by omega⟩ ?_
              intro v110 e111
              intro v112 e113
              intro v114 e115
              have b116 := vg_add e115 (by omega) (by omega)
              refine And.intro ⟨by omega, by omega⟩ ?_
              intro v117 e118
              intro v119 e120
              intro v121 e122
              refine And.intro (fun c123 => ?_) (fun c123 => ?_)
              · have c123 : v121.toInt ≤ 0 := c123
                intro v124 e125
                have b126 := vg_add e125 (by omega) (by omega)
                exact ⟨rfl, ⟨w45, w48, w49, w52, v124, rfl, (by omega), (by omega), (by omega), (by omega), (by omega), (by omega), (by omega), (by omega), (by omega), rfl⟩, (by show ((a1.toInt - w49.toInt) * 100 - 100 + (17 - v124.toInt) + 1).toNat < ((a1.toInt - w49.toInt) * 100 - 100 + (17 - w53.toInt) + 1).toNat; omega)⟩
              · have c123 : ¬ (v121.toInt ≤ 0) := c123
                intro v127 e128
                have b129 := vg_add e128 (by omega) (by omega)
                exact ⟨rfl, ⟨w45, w48, w49, w53, v127, rfl, (by omega), (by omega), (by omega), (by omega), (by omega), (by omega), (by omega), (by omega), (by omega), rfl⟩, (by show ((a1.toInt - w49.toInt) * 100 - 100 + (17 - v127.toInt) + 1).toNat < ((a1.toInt - w49.toInt) * 100 - 100 + (17 - w53.toInt) + 1).toNat; omega)⟩
          · have c88 : ¬ (¬ v85.toInt = (Int32.ofInt 1).toInt) := c88
            intro v130 e131
            have b132 := vg_add e131 (by omega) (by omega)
            exact ⟨rfl, ⟨w45, w48, w49, w52, v130, rfl, (by omega), (by omega), (by omega), (by omega), (by omega), (by omega), (by omega), (by omega), (by omega), rfl⟩, (by show ((a1.toInt - w49.toInt) * 100 - 100 + (17 - v130.toInt) + 1).toNat < ((a1.toInt - w49.toInt) * 100 - 100 + (17 - w53.toInt) + 1).toNat; omega)⟩
def o_X11_bounded : List vg_I := [(0, .ldc2_w 169, 3, 1340, 0, 0, -1000000), (3, .ldc2_w 171, 3, 1341, 0, 0, 1000000), (6, .lload_n 0, 1, 0, 0, 0, 0), (7, .invokestatic 173, 3, 0, 1, 2, 1342), (10, .invokestatic 176, 3, 1, 1, 2, 1327), (13, .lreturn, 1, 0, 0, 0, 0)]
set_option maxRecDepth 100000 in
set_option maxHeartbeats 4000000 in
theorem c_X11_bounded (l : Launch) (G : vg_G) (hp : vg_Hp G) : vg_Ct l G vg_sh r_X11_bounded := by
  refine vg_meth hp vg_sh_ok r_X11_bounded k_X11_bounded rfl (fun h => by cases h) o_X11_bounded [r_J9_min_f86c9, r_J9_max_f86c9] false (by decide +kernel) (by decide +kernel) ⟨_, _, rfl, rfl⟩ (List.forall_mem_cons.mpr ⟨⟨c_J9_min_f86c9 l G hp, Nat.le_of_ble_eq_true rfl, Nat.le_of_ble_eq_true rfl⟩, List.forall_mem_cons.mpr ⟨⟨c_J9_max_f86c9 l G hp, Nat.le_of_ble_eq_true rfl, Nat.le_of_ble_eq_true rfl⟩, fun _ h => absurd h List.not_mem_nil⟩⟩) (fun h => by cases h) 600 ?_
  intro as s0 hpre
  obtain ⟨a1, rfl, -⟩ := hpre
  refine ⟨Nat.le_of_ble_eq_true rfl, [], ?_, fun _ h => absurd h List.not_mem_nil⟩
  ·
    refine And.intro (Nat.le_of_ble_eq_true rfl) (And.intro ⟨(Int64.ofInt 1000000), a1, rfl, trivial⟩ ?_)
    intro v1 s3 h2
    have h2 : s3 = s0 ∧ (True) := h2
    have q6 := h2.1.symm
    subst q6
    refine And.intro (Nat.le_of_ble_eq_true rfl) (And.intro ⟨(Int64.ofInt (-1000000)), v1, rfl, trivial⟩ ?_)
    intro v7 s9 h8
    have h8 : s9 = s0 ∧ (True) := h8
    have q12 := h8.1.symm
    subst q12
    show s0 = s0 ∧ (True)
    exact ⟨rfl, (trivial)⟩
def o_X11_goesElements : List vg_I := [(0, .aload_n 0, 1, 0, 0, 0, 0), (1, .invokevirtual 102, 3, 0, 11, 0, 1218), (4, .istore_n 2, 1, 0, 0, 0, 0), (5, .aload_n 0, 1, 0, 0, 0, 0), (6, .iload_n 1, 1, 0, 0, 0, 0), (7, .invokevirtual 178, 3, 1, 11, 1, 1332), (10, .istore_n 3, 1, 0, 0, 0, 0), (11, .iconst 0, 1, 0, 0, 0, 0), (12, .istore 4, 2, 0, 0, 0, 0), (14, .iconst 0, 1, 0, 0, 0, 0), (15, .istore 5, 2, 0, 0, 0, 0), (17, .iload 5, 2, 0, 0, 0, 0), (19, .iload_n 2, 1, 0, 0, 0, 0), (20, .if_icmp .ge 152, 3, 0, 0, 0, 0), (23, .iload_n 3, 1, 0, 0, 0, 0), (24, .iload 5, 2, 0, 0, 0, 0), (26, .ishr, 1, 0, 0, 0, 0), (27, .iconst 1, 1, 0, 0, 0, 0), (28, .iand, 1, 0, 0, 0, 0), (29, .iconst 1, 1, 0, 0, 0, 0), (30, .if_icmp .ne 7, 3, 0, 0, 0, 0), (33, .iconst 1, 1, 0, 0, 0, 0), (34, .goto 4, 3, 0, 0, 0, 0), (37, .iconst 0, 1, 0, 0, 0, 0), (38, .istore 6, 2, 0, 0, 0, 0), (40, .iload 4, 2, 0, 0, 0, 0), (42, .iload 6, 2, 0, 0, 0, 0), (44, .ifCond .eq 12, 3, 0, 0, 0, 0), (47, .aload_n 0, 1, 0, 0, 0, 0), (48, .iload 5, 2, 0, 0, 0, 0), (50, .invokevirtual 106, 3, 2, 11, 1, 1242), (53, .goto 4, 3, 0, 0, 0, 0), (56, .iconst 0, 1, 0, 0, 0, 0), (57, .iadd, 1, 0, 0, 0, 0), (58, .istore 4, 2, 0, 0, 0, 0), (60, .aload_n 0, 1, 0, 0, 0, 0), (61, .getfield 7, 3, 1061, 11, 0, 0), (64, .bipush 71, 2, 0, 0, 0, 0), (66, .iload 5, 2, 0, 0, 0, 0), (68, .iadd, 1, 0, 0, 0, 0), (69, .dup2, 1, 0, 0, 0, 0), (70, .laload, 1, 0, 0, 0, 0), (71, .iload 6, 2, 0, 0, 0, 0), (73, .ifCond .eq 7, 3, 0, 0, 0, 0), (76, .lconst 1, 1, 0, 0, 0, 0), (77, .goto 4, 3, 0, 0, 0, 0), (80, .lconst 0, 1, 0, 0, 0, 0), (81, .ladd, 1, 0, 0, 0, 0), (82, .lastore, 1, 0, 0, 0, 0), (83, .aload_n 0, 1, 0, 0, 0, 0), (84, .getfield 164, 3, 1076, 11, 15, 0), (87, .iconst 2, 1, 0, 0, 0, 0), (88, .if_icmp .eq 6, 3, 0, 0, 0, 0), (91, .goto 75, 3, 0, 0, 0, 0), (94, .aload_n 0, 1, 0, 0, 0, 0), (95, .getfield 7, 3, 1061, 11, 0, 0), (98, .bipush 39, 2, 0, 0, 0, 0), (100, .iload 5, 2, 0, 0, 0, 0), (102, .iadd, 1, 0, 0, 0, 0), (103, .aload_n 0, 1, 0, 0, 0, 0), (104, .getfield 7, 3, 1061, 11, 0, 0), (107, .bipush 39, 2, 0, 0, 0, 0), (109, .iload 5, 2, 0, 0, 0, 0), (111, .iadd, 1, 0, 0, 0, 0), (112, .laload, 1, 0, 0, 0, 0), (113, .iload_n 1, 1, 0, 0, 0, 0), (114, .i2l, 1, 0, 0, 0, 0), (115, .ladd, 1, 0, 0, 0, 0), (116, .iload 6, 2, 0, 0, 0, 0), (118, .ifCond .eq 7, 3, 0, 0, 0, 0), (121, .iload_n 2, 1, 0, 0, 0, 0), (122, .goto 4, 3, 0, 0, 0, 0), (125, .iconst 0, 1, 0, 0, 0, 0), (126, .i2l, 1, 0, 0, 0, 0), (127, .lsub, 1, 0, 0, 0, 0), (128, .invokestatic 181, 3, 3, 1, 1, 1337), (131, .lastore, 1, 0, 0, 0, 0), (132, .aload_n 0, 1, 0, 0, 0, 0), (133, .getfield 7, 3, 1061, 11, 0, 0), (136, .bipush 55, 2, 0, 0, 0, 0), (138, .iload 5, 2, 0, 0, 0, 0), (140, .iadd, 1, 0, 0, 0, 0), (141, .aload_n 0, 1, 0, 0, 0, 0), (142, .getfield 7, 3, 1061, 11, 0, 0), (145, .bipush 55, 2, 0, 0, 0, 0), (147, .iload 5, 2, 0, 0, 0, 0), (149, .iadd, 1, 0, 0, 0, 0), (150, .laload, 1, 0, 0, 0, 0), (151, .aload_n 0, 1, 0, 0, 0, 0), (152, .getfield 7, 3, 1061, 11, 0, 0), (155, .bipush 39, 2, 0, 0, 0, 0), (157, .iload 5, 2, 0, 0, 0, 0), (159, .iadd, 1, 0, 0, 0, 0), (160, .laload, 1, 0, 0, 0, 0), (161, .ladd, 1, 0, 0, 0, 0), (162, .invokestatic 181, 3, 3, 1, 1, 1337), (165, .lastore, 1, 0, 0, 0, 0), (166, .iinc 5 1, 3, 0, 0, 0, 0), (169, .goto (-152), 3, 0, 0, 0, 0), (172, .aload_n 0, 1, 0, 0, 0, 0), (173, .getfield 164, 3, 1076, 11, 15, 0), (176, .iconst 1, 1, 0, 0, 0, 0), (177, .if_icmp .ne 23, 3, 0, 0, 0, 0), (180, .aload_n 0, 1, 0, 0, 0, 0), (181, .getfield 7, 3, 1061, 11, 0, 0), (184, .bipush 10, 2, 0, 0, 0, 0), (186, .aload_n 0, 1, 0, 0, 0, 0), (187, .getfield 7, 3, 1061, 11, 0, 0), (190, .bipush 10, 2, 0, 0, 0, 0), (192, .laload, 1, 0, 0, 0, 0), (193, .iload_n 1, 1, 0, 0, 0, 0), (194, .i2l, 1, 0, 0, 0, 0), (195, .ladd, 1, 0, 0, 0, 0), (196, .iload_n 2, 1, 0, 0, 0, 0), (197, .i2l, 1, 0, 0, 0, 0), (198, .lrem, 1, 0, 0, 0, 0), (199, .lastore, 1, 0, 0, 0, 0), (200, .aload_n 0, 1, 0, 0, 0, 0), (201, .getfield 7, 3, 1061, 11, 0, 0), (204, .bipush 87, 2, 0, 0, 0, 0), (206, .iload_n 3, 1, 0, 0, 0, 0), (207, .i2l, 1, 0, 0, 0, 0), (208, .lastore, 1, 0, 0, 0, 0), (209, .aload_n 0, 1, 0, 0, 0, 0), (210, .getfield 7, 3, 1061, 11, 0, 0), (213, .bipush 12, 2, 0, 0, 0, 0), (215, .dup2, 1, 0, 0, 0, 0), (216, .laload, 1, 0, 0, 0, 0), (217, .iload 4, 2, 0, 0, 0, 0), (219, .i2l, 1, 0, 0, 0, 0), (220, .ladd, 1, 0, 0, 0, 0), (221, .lastore, 1, 0, 0, 0, 0), (222, .aload_n 0, 1, 0, 0, 0, 0), (223, .getfield 7, 3, 1061, 11, 0, 0), (226, .bipush 11, 2, 0, 0, 0, 0), (228, .dup2, 1, 0, 0, 0, 0), (229, .laload, 1, 0, 0, 0, 0), (230, .iload_n 2, 1, 0, 0, 0, 0), (231, .i2l, 1, 0, 0, 0, 0), (232, .iload 4, 2, 0, 0, 0, 0), (234, .i2l, 1, 0, 0, 0, 0), (235, .lmul, 1, 0, 0, 0, 0), (236, .iload_n 1, 1, 0, 0, 0, 0), (237, .i2l, 1, 0, 0, 0, 0), (238, .aload_n 0, 1, 0, 0, 0, 0), (239, .invokevirtual 185, 3, 4, 11, 0, 1238), (242, .i2l, 1, 0, 0, 0, 0), (243, .lmul, 1, 0, 0, 0, 0), (244, .lsub, 1, 0, 0, 0, 0), (245, .ladd, 1, 0, 0, 0, 0), (246, .lastore, 1, 0, 0, 0, 0), (247, .iload 4, 2, 0, 0, 0, 0), (249, .ireturn, 1, 0, 0, 0, 0)]
set_option maxRecDepth 100000 in
set_option maxHeartbeats 4000000 in
theorem c_X11_goesElements (l : Launch) (G : vg_G) (hp : vg_Hp G) : vg_Ct l G vg_sh r_X11_goesElements := by
  refine vg_meth hp vg_sh_ok r_X11_goesElements k_X11_goesElements rfl (fun h => by cases h) o_X11_goesElements [r_X11_elements, r_X11_wouldBeOn, r_X11_weight, r_X11_bounded, r_X11_weights] false (by decide +kernel) (by decide +kernel) ⟨_, _, rfl, rfl⟩ (List.forall_mem_cons.mpr ⟨⟨c_X11_elements l G hp, Nat.le_of_ble_eq_true rfl, Nat.le_of_ble_eq_true rfl⟩, List.forall_mem_cons.mpr ⟨⟨c_X11_wouldBeOn l G hp, Nat.le_of_ble_eq_true rfl, Nat.le_of_ble_eq_true rfl⟩, List.forall_mem_cons.mpr ⟨⟨c_X11_weight l G hp, Nat.le_of_ble_eq_true rfl, Nat.le_of_ble_eq_true rfl⟩, List.forall_mem_cons.mpr ⟨⟨c_X11_bounded l G hp, Nat.le_of_ble_eq_true rfl, Nat.le_of_ble_eq_true rfl⟩, List.forall_mem_cons.mpr ⟨⟨c_X11_weights l G hp, Nat.le_of_ble_eq_true rfl, Nat.le_of_ble_eq_true rfl⟩, fun _ h => absurd h List.not_mem_nil⟩⟩⟩⟩⟩) (fun h => by cases h) 600 ?_
  intro as s0 hpre
  obtain ⟨r, a1, rfl, hr, i0⟩ := hpre
  simp only [List.mem_cons, List.not_mem_nil, or_false] at hr
  rcases hr with rfl
  ·
    have z0 : (Int32.ofInt 0).toInt = 0 := by decide
    have z1 : (Int32.ofInt 1).toInt = 1 := by decide
    have z2 : (Int32.ofInt 2).toInt = 2 := by decide
    have z10 : (Int32.ofInt 10).toInt = 10 := by decide
    have z11 : (Int32.ofInt 11).toInt = 11 := by decide
    have z12 : (Int32.ofInt 12).toInt = 12 := by decide
    have z39 : (Int32.ofInt 39).toInt = 39 := by decide
    have z55 : (Int32.ofInt 55).toInt = 55 := by decide
    have z71 : (Int32.ofInt 71).toInt = 71 := by decide
    have z87 : (Int32.ofInt 87).toInt = 87 := by decide
    refine ⟨Nat.le_of_ble_eq_true rfl, [(17, [true, true, true, true, true, true, false], (fun L t => ∃ (x2 : Int32) (x3 : Int32) (x4 : Int32) (x5 : Int32), L = [some (.ref 55), some (.int a1), some (.int x2), some (.int x3), some (.int x4), some (.int x5), none] ∧ (1 : Int) ≤ x2.toInt ∧ x2.toInt ≤ (16 : Int) ∧ (0 : Int) ≤ x5.toInt ∧ x5.toInt ≤ (16 : Int) ∧ Iv t ∧ Kp s0 t), (fun L _ => (0 + (16 - (vg_li L 5).toInt) * 1000000000000).toNat))], ?_, List.forall_mem_cons.mpr ⟨?_, fun _ h => absurd h List.not_mem_nil⟩⟩
    ·
      refine And.intro (Nat.le_of_ble_eq_true rfl) (And.intro ⟨55, rfl, by decide, i0⟩ ?_)
      intro v1 s3 h2
      have h2 : s3 = s0 ∧ (v1 = vg_me s0 ∧ 1 ≤ v1.toInt ∧ v1.toInt ≤ 16) := h2
      have q6 := h2.1.symm
      subst q6
      have q7 := h2.2
      refine And.intro (Nat.le_of_ble_eq_true rfl) (And.intro ⟨55, a1, rfl, by decide, i0⟩ ?_)
      intro v8 s10 h9
      have h9 : s10 = s0 ∧ (True) := h9
      have q13 := h9.1.symm
      subst q13
      exact ⟨rfl, ⟨v1, v8, (Int32.ofInt 0), (Int32.ofInt 0), rfl, (by omega), (by omega), (by omega), (by omega), i0, Kx.rf⟩, trivial⟩
    ·
      intro L s22 hL
      obtain ⟨w14, w17, w18, w19, rfl, b15, b16, b20, b21, i23, k24⟩ := hL
      refine And.intro (fun c25 => ?_) (fun c25 => ?_)
      · have c25 : w14.toInt ≤ w19.toInt := c25
        intro v26 e27
        have g28 : s22.1 55 15 = v26 := by rw [e27]
        refine And.intro (fun c29 => ?_) (fun c29 => ?_)
        · have c29 : ¬ v26.toInt = (Int32.ofInt 1).toInt := c29
          intro v30 e31
          refine And.intro ⟨by omega, by omega⟩ ?_
          intro s32 e33
          have i34 : Iv s32 := Iv.u2 i23 e33
          have k35 : Kp s0 s32 := Kx.u2 k24 e33 (vg_kq_pos (by omega)).1
          refine And.intro ⟨by omega, by omega⟩ ?_
          intro v36 e37
          intro v38 e39
          intro v40 e41
          refine And.intro ⟨by omega, by omega⟩ ?_
          intro s42 e43
          have i44 : Iv s42 := Iv.u2 i34 e43
          have k45 : Kp s0 s42 := Kx.u2 k35 e43 (vg_kq_pos (by omega)).1
          refine And.intro ⟨by omega, by omega⟩ ?_
          intro v46 e47
          intro v48 e49
          have b50 := vg_i2l e49
          intro v51 e52
          intro v53 e54
          intro v55 e56
          refine And.intro (Nat.le_of_ble_eq_true rfl) (And.intro ⟨55, rfl, by decide, i44⟩ ?_)
          intro v57 s59 h58
          have h58 : s59 = s42 ∧ (v57 = vg_ws (s42.1 59) (vg_me s42).toNatClampNeg) := h58
          have q62 := h58.1.symm
          subst q62
          have q63 := h58.2
          intro v64 e65
          intro v66 e67
          intro v68 e69
          intro v70 e71
          refine And.intro ⟨by omega, by omega⟩ ?_
          intro s72 e73
          have i74 : Iv s72 := Iv.u2 i44 e73
          have k75 : Kp s0 s72 := Kx.u2 k45 e73 (vg_kq_pos (by omega)).1
          show Iv s72 ∧ Kp s0 s72 ∧ (True)
          exact ⟨i74, k75, (trivial)⟩
        · have c29 : ¬ (¬ v26.toInt = (Int32.ofInt 1).toInt) := c29
          refine And.intro ⟨by omega, by omega⟩ ?_
          intro v76 e77
          intro v78 e79
          intro v80 e81
          intro v82 e83
          have b84 := vg_i2l e83
          refine And.intro (by omega) ?_
          intro v85 e86
          refine And.intro ⟨by omega, by omega⟩ ?_
          intro s87 e88
          have i89 : Iv s87 := Iv.u2 i23 e88
          have k90 : Kp s0 s87 := Kx.u2 k24 e88 (vg_kq_pos (by omega)).1
          intro v91 e92
          refine And.intro ⟨by omega, by omega⟩ ?_
          intro s93 e94
          have i95 : Iv s93 := Iv.u2 i89 e94
          have k96 : Kp s0 s93 := Kx.u2 k90 e94 (vg_kq_pos (by omega)).1
          refine And.intro ⟨by omega, by omega⟩ ?_
          intro v97 e98
          intro v99 e100
          intro v101 e102
          refine And.intro ⟨by omega, by omega⟩ ?_
          intro s103 e104
          have i105 : Iv s103 := Iv.u2 i95 e104
          have k106 : Kp s0 s103 := Kx.u2 k96 e104 (vg_kq_pos (by omega)).1
          refine And.intro ⟨by omega, by omega⟩ ?_
          intro v107 e108
          intro v109 e110
          have b111 := vg_i2l e110
          intro v112 e113
          intro v114 e115
          intro v116 e117
          refine And.intro (Nat.le_of_ble_eq_true rfl) (And.intro ⟨55, rfl, by decide, i105⟩ ?_)
          intro v118 s120 h119
          have h119 : s120 = s103 ∧ (v118 = vg_ws (s103.1 59) (vg_me s103).toNatClampNeg) := h119
          have q123 := h119.1.symm
          subst q123
          have q124 := h119.2
          intro v125 e126
          intro v127 e128
          intro v129 e130
          intro v131 e132
          refine And.intro ⟨by omega, by omega⟩ ?_
          intro s133 e134
          have i135 : Iv s133 := Iv.u2 i105 e134
          have k136 : Kp s0 s133 := Kx.u2 k106 e134 (vg_kq_pos (by omega)).1
          show Iv s133 ∧ Kp s0 s133 ∧ (True)
          exact ⟨i135, k136, (trivial)⟩
      · have c25 : ¬ (w14.toInt ≤ w19.toInt) := c25
        intro v137 e138
        intro v139 e140
        have b141 := vg_and e140 (by omega)
        refine And.intro (fun c142 => ?_) (fun c142 => ?_)
        · have c142 : ¬ v139.toInt = (Int32.ofInt 1).toInt := c142
          refine And.intro (fun c143 => ?_) (fun c143 => ?_)
          · have c143 : (Int32.ofInt 0).toInt = 0 := c143
            intro v144 e145
            intro v146 e147
            have b148 := vg_add e147 (by omega) (by omega)
            refine And.intro ⟨by omega, by omega⟩ ?_
            intro v149 e150
            refine And.intro (fun c151 => ?_) (fun c151 => ?_)
            · have c151 : (Int32.ofInt 0).toInt = 0 := c151
              intro v152 e153
              refine And.intro ⟨by omega, by omega⟩ ?_
              intro s154 e155
              have i156 : Iv s154 := Iv.u2 i23 e155
              have k157 : Kp s0 s154 := Kx.u2 k24 e155 (vg_kq_pos (by omega)).1
              intro v158 e159
              have g160 : s22.1 55 15 = v158 := by rw [e159, e155, vg_u2_1]
              refine And.intro (fun c161 => ?_) (fun c161 => ?_)
              · have c161 : v158.toInt = (Int32.ofInt 2).toInt := c161
                intro v162 e163
                have b164 := vg_add e163 (by omega) (by omega)
                intro v165 e166
                have b167 := vg_add e166 (by omega) (by omega)
                refine And.intro ⟨by omega, by omega⟩ ?_
                intro v168 e169
                intro v170 e171
                intro v172 e173
                refine And.intro (fun c174 => ?_) (fun c174 => ?_)
                · have c174 : (Int32.ofInt 0).toInt = 0 := c174
                  intro v175 e176
                  have b177 := vg_i2l e176
                  intro v178 e179
                  refine And.intro (Nat.le_of_ble_eq_true rfl) (And.intro ⟨v178, rfl, trivial⟩ ?_)
                  intro v180 s182 h181
                  have h181 : s182 = s154 ∧ (True) := h181
                  have q185 := h181.1.symm
                  subst q185
                  refine And.intro ⟨by omega, by omega⟩ ?_
                  intro s186 e187
                  have i188 : Iv s186 := Iv.u2 i156 e187
                  have k189 : Kp s0 s186 := Kx.u2 k157 e187 (vg_kq_pos (by omega)).1
                  intro v190 e191
                  have b192 := vg_add e191 (by omega) (by omega)
                  intro v193 e194
                  have b195 := vg_add e194 (by omega) (by omega)
                  refine And.intro ⟨by omega, by omega⟩ ?_
                  intro v196 e197
                  intro v198 e199
                  have b200 := vg_add e199 (by omega) (by omega)
                  refine And.intro ⟨by omega, by omega⟩ ?_
                  intro v201 e202
                  intro v203 e204
                  refine And.intro (Nat.le_of_ble_eq_true rfl) (And.intro ⟨v203, rfl, trivial⟩ ?_)
                  intro v205 s207 h206
                  have h206 : s207 = s186 ∧ (True) := h206
                  have q210 := h206.1.symm
                  subst q210
                  refine And.intro ⟨by omega, by omega⟩ ?_
                  intro s211 e212
                  have i213 : Iv s211 := Iv.u2 i188 e212
                  have k214 : Kp s0 s211 := Kx.u2 k189 e212 (vg_kq_pos (by omega)).1
                  intro v215 e216
                  have b217 := vg_add e216 (by omega) (by omega)
                  exact ⟨rfl, ⟨w14, w17, v144, v215, rfl, (by omega), (by omega), (by omega), (by omega), i213, k214⟩, (by show (0 + (16 - v215.toInt) * 1000000000000).toNat < (0 + (16 - w19.toInt) * 1000000000000).toNat; omega)⟩
                · have c174 : ¬ ((Int32.ofInt 0).toInt = 0) := c174
                  exfalso
                  omega
              · have c161 : ¬ (v158.toInt = (Int32.ofInt 2).toInt) := c161
                intro v218 e219
                have b220 := vg_add e219 (by omega) (by omega)
                exact ⟨rfl, ⟨w14, w17, v144, v218, rfl, (by omega), (by omega), (by omega), (by omega), i156, k157⟩, (by show (0 + (16 - v218.toInt) * 1000000000000).toNat < (0 + (16 - w19.toInt) * 1000000000000).toNat; omega)⟩
            · have c151 : ¬ ((Int32.ofInt 0).toInt = 0) := c151
              exfalso
              omega
          · have c143 : ¬ ((Int32.ofInt 0).toInt = 0) := c143
            exfalso
            omega
        · have c142 : ¬ (¬ v139.toInt = (Int32.ofInt 1).toInt) := c142
          refine And.intro (fun c221 => ?_) (fun c221 => ?_)
          · have c221 : (Int32.ofInt 1).toInt = 0 := c221
            exfalso
            omega
          · have c221 : ¬ ((Int32.ofInt 1).toInt = 0) := c221
            refine And.intro (Nat.le_of_ble_eq_true rfl) (And.intro ⟨55, w19, rfl, by decide, i23, by omega⟩ ?_)
            intro v222 s224 h223
            have h223 : s224 = s22 ∧ (v222 = Int32.ofInt 1000 + s22.1 59 w19.toNatClampNeg) := h223
            have q227 := h223.1.symm
            subst q227
            have q228 := h223.2
            intro v229 e230
            intro v231 e232
            have b233 := vg_add e232 (by omega) (by omega)
            refine And.intro ⟨by omega, by omega⟩ ?_
            intro v234 e235
            refine And.intro (fun c236 => ?_) (fun c236 => ?_)
            · have c236 : (Int32.ofInt 1).toInt = 0 := c236
              exfalso
              omega
            · have c236 : ¬ ((Int32.ofInt 1).toInt = 0) := c236
              intro v237 e238
              refine And.intro ⟨by omega, by omega⟩ ?_
              intro s239 e240
              have i241 : Iv s239 := Iv.u2 i23 e240
              have k242 : Kp s0 s239 := Kx.u2 k24 e240 (vg_kq_pos (by omega)).1
              intro v243 e244
              have g245 : s22.1 55 15 = v243 := by rw [e244, e240, vg_u2_1]
              refine And.intro (fun c246 => ?_) (fun c246 => ?_)
              · have c246 : v243.toInt = (Int32.ofInt 2).toInt := c246
                intro v247 e248
                have b249 := vg_add e248 (by omega) (by omega)
                intro v250 e251
                have b252 := vg_add e251 (by omega) (by omega)
                refine And.intro ⟨by omega, by omega⟩ ?_
                intro v253 e254
                intro v255 e256
                intro v257 e258
                refine And.intro (fun c259 => ?_) (fun c259 => ?_)
                · have c259 : (Int32.ofInt 1).toInt = 0 := c259
                  exfalso
                  omega
                · have c259 : ¬ ((Int32.ofInt 1).toInt = 0) := c259
                  intro v260 e261
                  have b262 := vg_i2l e261
                  intro v263 e264
                  refine And.intro (Nat.le_of_ble_eq_true rfl) (And.intro ⟨v263, rfl, trivial⟩ ?_)
                  intro v265 s267 h266
                  have h266 : s267 = s239 ∧ (True) := h266
                  have q270 := h266.1.symm
                  subst q270
                  refine And.intro ⟨by omega, by omega⟩ ?_
                  intro s271 e272
                  have i273 : Iv s271 := Iv.u2 i241 e272
                  have k274 : Kp s0 s271 := Kx.u2 k242 e272 (vg_kq_pos (by omega)).1
                  intro v275 e276
                  have b277 := vg_add e276 (by omega) (by omega)
                  intro v278 e279
                  have b280 := vg_add e279 (by omega) (by omega)
                  refine And.intro ⟨by omega, by omega⟩ ?_
                  intro v281 e282
                  intro v283 e284
                  have b285 := vg_add e284 (by omega) (by omega)
                  refine And.intro ⟨by omega, by omega⟩ ?_
                  intro v286 e287
                  intro v288 e289
                  refine And.intro (Nat.le_of_ble_eq_true rfl) (And.intro ⟨v288, rfl, trivial⟩ ?_)
                  intro v290 s292 h291
                  have h291 : s292 = s271 ∧ (True) := h291
                  have q295 := h291.1.symm
                  subst q295
                  refine And.intro ⟨by omega, by omega⟩ ?_
                  intro s296 e297
                  have i298 : Iv s296 := Iv.u2 i273 e297
                  have k299 : Kp s0 s296 := Kx.u2 k274 e297 (vg_kq_pos (by omega)).1
                  intro v300 e301
                  have b302 := vg_add e301 (by omega) (by omega)
                  exact ⟨rfl, ⟨w14, w17, v229, v300, rfl, (by omega), (by omega), (by omega), (by omega), i298, k299⟩, (by show (0 + (16 - v300.toInt) * 1000000000000).toNat < (0 + (16 - w19.toInt) * 1000000000000).toNat; omega)⟩
              · have c246 : ¬ (v243.toInt = (Int32.ofInt 2).toInt) := c246
                intro v303 e304
                have b305 := vg_add e304 (by omega) (by omega)
                exact ⟨rfl, ⟨w14, w17, v229, v303, rfl, (by omega), (by omega), (by omega), (by omega), i241, k242⟩, (by show (0 + (16 - v303.toInt) * 1000000000000).toNat < (0 + (16 - w19.toInt) * 1000000000000).toNat; omega)⟩
def o_X11_worded : List vg_I := [(0, .lload_n 1, 1, 0, 0, 0, 0), (1, .bipush 64, 2, 0, 0, 0, 0), (3, .aload_n 0, 1, 0, 0, 0, 0), (4, .getfield 39, 3, 1079, 11, 18, 0), (7, .isub, 1, 0, 0, 0, 0), (8, .lshl, 1, 0, 0, 0, 0), (9, .bipush 64, 2, 0, 0, 0, 0), (11, .aload_n 0, 1, 0, 0, 0, 0), (12, .getfield 39, 3, 1079, 11, 18, 0), (15, .isub, 1, 0, 0, 0, 0), (16, .lshr, 1, 0, 0, 0, 0), (17, .lreturn, 1, 0, 0, 0, 0)]
set_option maxRecDepth 100000 in
set_option maxHeartbeats 4000000 in
theorem c_X11_worded (l : Launch) (G : vg_G) (hp : vg_Hp G) : vg_Ct l G vg_sh r_X11_worded := by
  refine vg_meth hp vg_sh_ok r_X11_worded k_X11_worded rfl (fun h => by cases h) o_X11_worded [] false (by decide +kernel) (by decide +kernel) ⟨_, _, rfl, rfl⟩ (fun _ h => absurd h List.not_mem_nil) (fun h => by cases h) 600 ?_
  intro as s0 hpre
  obtain ⟨r, a1, rfl, hr, i0⟩ := hpre
  simp only [List.mem_cons, List.not_mem_nil, or_false] at hr
  rcases hr with rfl
  ·
    have z64 : (Int32.ofInt 64).toInt = 64 := by decide
    refine ⟨Nat.le_of_ble_eq_true rfl, [], ?_, fun _ h => absurd h List.not_mem_nil⟩
    ·
      intro v1 e2
      have g3 : s0.1 55 18 = v1 := by rw [e2]
      intro v4 e5
      intro v6 e7
      intro v8 e9
      have w10 : v1 = v8 := by rw [e9, g3]
      subst w10
      intro v11 e12
      intro v13 e14
      show s0 = s0 ∧ (True)
      exact ⟨rfl, (trivial)⟩
def o_X11_combs : List vg_I := [(0, .lload_n 1, 1, 0, 0, 0, 0), (1, .lstore_n 3, 1, 0, 0, 0, 0), (2, .lload_n 1, 1, 0, 0, 0, 0), (3, .lstore 5, 2, 0, 0, 0, 0), (5, .iconst 0, 1, 0, 0, 0, 0), (6, .istore 7, 2, 0, 0, 0, 0), (8, .iload 7, 2, 0, 0, 0, 0), (10, .aload_n 0, 1, 0, 0, 0, 0), (11, .getfield 33, 3, 1077, 11, 16, 0), (14, .if_icmp .ge 73, 3, 0, 0, 0, 0), (17, .aload_n 0, 1, 0, 0, 0, 0), (18, .getfield 7, 3, 1061, 11, 0, 0), (21, .bipush 88, 2, 0, 0, 0, 0), (23, .iload 7, 2, 0, 0, 0, 0), (25, .iadd, 1, 0, 0, 0, 0), (26, .aload_n 0, 1, 0, 0, 0, 0), (27, .aload_n 0, 1, 0, 0, 0, 0), (28, .getfield 7, 3, 1061, 11, 0, 0), (31, .bipush 88, 2, 0, 0, 0, 0), (33, .iload 7, 2, 0, 0, 0, 0), (35, .iadd, 1, 0, 0, 0, 0), (36, .laload, 1, 0, 0, 0, 0), (37, .lload_n 3, 1, 0, 0, 0, 0), (38, .ladd, 1, 0, 0, 0, 0), (39, .invokevirtual 188, 3, 0, 11, 1, 1349), (42, .lastore, 1, 0, 0, 0, 0), (43, .aload_n 0, 1, 0, 0, 0, 0), (44, .getfield 7, 3, 1061, 11, 0, 0), (47, .bipush 88, 2, 0, 0, 0, 0), (49, .iload 7, 2, 0, 0, 0, 0), (51, .iadd, 1, 0, 0, 0, 0), (52, .laload, 1, 0, 0, 0, 0), (53, .lstore_n 3, 1, 0, 0, 0, 0), (54, .aload_n 0, 1, 0, 0, 0, 0), (55, .getfield 7, 3, 1061, 11, 0, 0), (58, .bipush 98, 2, 0, 0, 0, 0), (60, .iload 7, 2, 0, 0, 0, 0), (62, .iadd, 1, 0, 0, 0, 0), (63, .dup2, 1, 0, 0, 0, 0), (64, .laload, 1, 0, 0, 0, 0), (65, .lload 5, 2, 0, 0, 0, 0), (67, .ladd, 1, 0, 0, 0, 0), (68, .lastore, 1, 0, 0, 0, 0), (69, .aload_n 0, 1, 0, 0, 0, 0), (70, .getfield 7, 3, 1061, 11, 0, 0), (73, .bipush 98, 2, 0, 0, 0, 0), (75, .iload 7, 2, 0, 0, 0, 0), (77, .iadd, 1, 0, 0, 0, 0), (78, .laload, 1, 0, 0, 0, 0), (79, .lstore 5, 2, 0, 0, 0, 0), (81, .iinc 7 1, 3, 0, 0, 0, 0), (84, .goto (-76), 3, 0, 0, 0, 0), (87, .aload_n 0, 1, 0, 0, 0, 0), (88, .getfield 7, 3, 1061, 11, 0, 0), (91, .bipush 13, 2, 0, 0, 0, 0), (93, .dup2, 1, 0, 0, 0, 0), (94, .laload, 1, 0, 0, 0, 0), (95, .lconst 1, 1, 0, 0, 0, 0), (96, .ladd, 1, 0, 0, 0, 0), (97, .lastore, 1, 0, 0, 0, 0), (98, .aload_n 0, 1, 0, 0, 0, 0), (99, .getfield 7, 3, 1061, 11, 0, 0), (102, .bipush 13, 2, 0, 0, 0, 0), (104, .laload, 1, 0, 0, 0, 0), (105, .aload_n 0, 1, 0, 0, 0, 0), (106, .getfield 36, 3, 1078, 11, 17, 0), (109, .i2l, 1, 0, 0, 0, 0), (110, .lrem, 1, 0, 0, 0, 0), (111, .lconst 0, 1, 0, 0, 0, 0), (112, .lcmp, 1, 0, 0, 0, 0), (113, .ifCond .eq 5, 3, 0, 0, 0, 0), (116, .iconst 0, 1, 0, 0, 0, 0), (117, .ireturn, 1, 0, 0, 0, 1), (118, .iconst 0, 1, 0, 0, 0, 0), (119, .istore 7, 2, 0, 0, 0, 0), (121, .iload 7, 2, 0, 0, 0, 0), (123, .aload_n 0, 1, 0, 0, 0, 0), (124, .getfield 33, 3, 1077, 11, 16, 0), (127, .if_icmp .ge 72, 3, 0, 0, 0, 0), (130, .aload_n 0, 1, 0, 0, 0, 0), (131, .lload_n 3, 1, 0, 0, 0, 0), (132, .aload_n 0, 1, 0, 0, 0, 0), (133, .getfield 7, 3, 1061, 11, 0, 0), (136, .bipush 93, 2, 0, 0, 0, 0), (138, .iload 7, 2, 0, 0, 0, 0), (140, .iadd, 1, 0, 0, 0, 0), (141, .laload, 1, 0, 0, 0, 0), (142, .lsub, 1, 0, 0, 0, 0), (143, .invokevirtual 188, 3, 0, 11, 1, 1349), (146, .lstore 8, 2, 0, 0, 0, 0), (148, .aload_n 0, 1, 0, 0, 0, 0), (149, .getfield 7, 3, 1061, 11, 0, 0), (152, .bipush 93, 2, 0, 0, 0, 0), (154, .iload 7, 2, 0, 0, 0, 0), (156, .iadd, 1, 0, 0, 0, 0), (157, .lload_n 3, 1, 0, 0, 0, 0), (158, .lastore, 1, 0, 0, 0, 0), (159, .lload 8, 2, 0, 0, 0, 0), (161, .lstore_n 3, 1, 0, 0, 0, 0), (162, .lload 5, 2, 0, 0, 0, 0), (164, .aload_n 0, 1, 0, 0, 0, 0), (165, .getfield 7, 3, 1061, 11, 0, 0), (168, .bipush 103, 2, 0, 0, 0, 0), (170, .iload 7, 2, 0, 0, 0, 0), (172, .iadd, 1, 0, 0, 0, 0), (173, .laload, 1, 0, 0, 0, 0), (174, .lsub, 1, 0, 0, 0, 0), (175, .lstore 10, 2, 0, 0, 0, 0), (177, .aload_n 0, 1, 0, 0, 0, 0), (178, .getfield 7, 3, 1061, 11, 0, 0), (181, .bipush 103, 2, 0, 0, 0, 0), (183, .iload 7, 2, 0, 0, 0, 0), (185, .iadd, 1, 0, 0, 0, 0), (186, .lload 5, 2, 0, 0, 0, 0), (188, .lastore, 1, 0, 0, 0, 0), (189, .lload 10, 2, 0, 0, 0, 0), (191, .lstore 5, 2, 0, 0, 0, 0), (193, .iinc 7 1, 3, 0, 0, 0, 0), (196, .goto (-75), 3, 0, 0, 0, 0), (199, .aload_n 0, 1, 0, 0, 0, 0), (200, .getfield 7, 3, 1061, 11, 0, 0), (203, .bipush 14, 2, 0, 0, 0, 0), (205, .dup2, 1, 0, 0, 0, 0), (206, .laload, 1, 0, 0, 0, 0), (207, .lload 5, 2, 0, 0, 0, 0), (209, .lload_n 3, 1, 0, 0, 0, 0), (210, .lcmp, 1, 0, 0, 0, 0), (211, .ifCond .eq 7, 3, 0, 0, 0, 0), (214, .lconst 1, 1, 0, 0, 0, 0), (215, .goto 4, 3, 0, 0, 0, 0), (218, .lconst 0, 1, 0, 0, 0, 0), (219, .ladd, 1, 0, 0, 0, 0), (220, .lastore, 1, 0, 0, 0, 0), (221, .aload_n 0, 1, 0, 0, 0, 0), (222, .getfield 7, 3, 1061, 11, 0, 0), (225, .bipush 15, 2, 0, 0, 0, 0), (227, .lload 5, 2, 0, 0, 0, 0), (229, .lload_n 3, 1, 0, 0, 0, 0), (230, .lsub, 1, 0, 0, 0, 0), (231, .lastore, 1, 0, 0, 0, 0), (232, .aload_n 0, 1, 0, 0, 0, 0), (233, .iconst 3, 1, 0, 0, 0, 0), (234, .lload_n 3, 1, 0, 0, 0, 0), (235, .invokevirtual 191, 3, 1, 11, 2, 1281), (238, .iconst 1, 1, 0, 0, 0, 0), (239, .ireturn, 1, 0, 0, 0, 1)]
set_option maxRecDepth 100000 in
set_option maxHeartbeats 4000000 in
theorem c_X11_combs (l : Launch) (G : vg_G) (hp : vg_Hp G) : vg_Ct l G vg_sh r_X11_combs := by
  refine vg_meth hp vg_sh_ok r_X11_combs k_X11_combs rfl (fun h => by cases h) o_X11_combs [r_X11_worded, r_X11_tells] false (by decide +kernel) (by decide +kernel) ⟨_, _, rfl, rfl⟩ (List.forall_mem_cons.mpr ⟨⟨c_X11_worded l G hp, Nat.le_of_ble_eq_true rfl, Nat.le_of_ble_eq_true rfl⟩, List.forall_mem_cons.mpr ⟨⟨c_X11_tells l G hp, Nat.le_of_ble_eq_true rfl, Nat.le_of_ble_eq_true rfl⟩, fun _ h => absurd h List.not_mem_nil⟩⟩) (fun h => by cases h) 600 ?_
  intro as s0 hpre
  obtain ⟨r, a1, rfl, hr, i0⟩ := hpre
  simp only [List.mem_cons, List.not_mem_nil, or_false] at hr
  rcases hr with rfl
  ·
    have z0 : (Int32.ofInt 0).toInt = 0 := by decide
    have z1 : (Int32.ofInt 1).toInt = 1 := by decide
    have z3 : (Int32.ofInt 3).toInt = 3 := by decide
    have z13 : (Int32.ofInt 13).toInt = 13 := by decide
    have z14 : (Int32.ofInt 14).toInt = 14 := by decide
    have z15 : (Int32.ofInt 15).toInt = 15 := by decide
    have z88 : (Int32.ofInt 88).toInt = 88 := by decide
    have z93 : (Int32.ofInt 93).toInt = 93 := by decide
    have z98 : (Int32.ofInt 98).toInt = 98 := by decide
    have z103 : (Int32.ofInt 103).toInt = 103 := by decide
    refine ⟨Nat.le_of_ble_eq_true rfl, [(8, [true, false, false, true, false, true, false, true, false, false, false, false], (fun L t => ∃ (x3 : Int64) (x5 : Int64) (x7 : Int32), L = [some (.ref 55), none, none, some (.long x3), none, some (.long x5), none, some (.int x7), none, none, none, none] ∧ (0 : Int) ≤ x7.toInt ∧ x7.toInt ≤ (5 : Int) ∧ Iv t ∧ Kp s0 t), (fun L _ => (10000000000000000 + (5 - (vg_li L 7).toInt) * 1000000000000).toNat)), (121, [true, false, false, true, false, true, false, true, false, false, false, false], (fun L t => ∃ (x3 : Int64) (x5 : Int64) (x7 : Int32), L = [some (.ref 55), none, none, some (.long x3), none, some (.long x5), none, some (.int x7), none, none, none, none] ∧ (0 : Int) ≤ x7.toInt ∧ x7.toInt ≤ (5 : Int) ∧ Iv t ∧ Kp s0 t), (fun L _ => (0 + (5 - (vg_li L 7).toInt) * 1000000000000).toNat))], ?_, List.forall_mem_cons.mpr ⟨?_, List.forall_mem_cons.mpr ⟨?_, fun _ h => absurd h List.not_mem_nil⟩⟩⟩
    ·
      exact ⟨rfl, ⟨a1, a1, (Int32.ofInt 0), rfl, (by omega), (by omega), i0, Kx.rf⟩, trivial⟩
    ·
      intro L s6 hL
      obtain ⟨w1, w2, w3, rfl, b4, b5, i7, k8⟩ := hL
      intro v9 e10
      have g11 : s6.1 55 16 = v9 := by rw [e10]
      have b12 : (1 : Int) ≤ v9.toInt ∧ v9.toInt ≤ 5 := by rw [e10]; exact Iv_55_16 i7
      refine And.intro (fun c13 => ?_) (fun c13 => ?_)
      · have c13 : v9.toInt ≤ w3.toInt := c13
        refine And.intro ⟨by omega, by omega⟩ ?_
        intro v14 e15
        intro v16 e17
        refine And.intro ⟨by omega, by omega⟩ ?_
        intro s18 e19
        have i20 : Iv s18 := Iv.u2 i7 e19
        have k21 : Kp s0 s18 := Kx.u2 k8 e19 (vg_kq_pos (by omega)).1
        refine And.intro ⟨by omega, by omega⟩ ?_
        intro v22 e23
        intro v24 e25
        have g26 : s6.1 55 17 = v24 := by rw [e25, e19, vg_u2_1]
        have b27 : (1 : Int) ≤ v24.toInt ∧ v24.toInt ≤ 16 := by rw [e25]; exact Iv_55_17 i20
        intro v28 e29
        have b30 := vg_i2l e29
        refine And.intro (by omega) ?_
        intro v31 e32
        intro v33 e34
        refine And.intro (fun c35 => ?_) (fun c35 => ?_)
        · have c35 : v33.toInt = 0 := c35
          exact ⟨rfl, ⟨w1, w2, (Int32.ofInt 0), rfl, (by omega), (by omega), i20, k21⟩, (by show (0 + (5 - (Int32.ofInt 0).toInt) * 1000000000000).toNat < (10000000000000000 + (5 - w3.toInt) * 1000000000000).toNat; omega)⟩
        · have c35 : ¬ (v33.toInt = 0) := c35
          refine And.intro (by first | exact Or.inl rfl | exact Or.inr rfl | exact vg_01 (by omega) (by omega)) ?_
          show Iv s18 ∧ Kp s0 s18 ∧ (0 ≤ (Int32.ofInt 0).toInt ∧ (Int32.ofInt 0).toInt ≤ 1)
          exact ⟨i20, k21, (by first | trivial | omega | assumption)⟩
      · have c13 : ¬ (v9.toInt ≤ w3.toInt) := c13
        intro v36 e37
        have b38 := vg_add e37 (by omega) (by omega)
        intro v39 e40
        have b41 := vg_add e40 (by omega) (by omega)
        refine And.intro ⟨by omega, by omega⟩ ?_
        intro v42 e43
        intro v44 e45
        refine And.intro (Nat.le_of_ble_eq_true rfl) (And.intro ⟨55, v44, rfl, by decide, i7⟩ ?_)
        intro v46 s48 h47
        have h47 : s48 = s6 ∧ (True) := h47
        have q51 := h47.1.symm
        subst q51
        refine And.intro ⟨by omega, by omega⟩ ?_
        intro s52 e53
        have i54 : Iv s52 := Iv.u2 i7 e53
        have k55 : Kp s0 s52 := Kx.u2 k8 e53 (vg_kq_pos (by omega)).1
        intro v56 e57
        have b58 := vg_add e57 (by omega) (by omega)
        refine And.intro ⟨by omega, by omega⟩ ?_
        intro v59 e60
        intro v61 e62
        have b63 := vg_add e62 (by omega) (by omega)
        refine And.intro ⟨by omega, by omega⟩ ?_
        intro v64 e65
        intro v66 e67
        refine And.intro ⟨by omega, by omega⟩ ?_
        intro s68 e69
        have i70 : Iv s68 := Iv.u2 i54 e69
        have k71 : Kp s0 s68 := Kx.u2 k55 e69 (vg_kq_pos (by omega)).1
        intro v72 e73
        have b74 := vg_add e73 (by omega) (by omega)
        refine And.intro ⟨by omega, by omega⟩ ?_
        intro v75 e76
        intro v77 e78
        have b79 := vg_add e78 (by omega) (by omega)
        exact ⟨rfl, ⟨v59, v75, v77, rfl, (by omega), (by omega), i70, k71⟩, (by show (10000000000000000 + (5 - v77.toInt) * 1000000000000).toNat < (10000000000000000 + (5 - w3.toInt) * 1000000000000).toNat; omega)⟩
    ·
      intro L s85 hL
      obtain ⟨w80, w81, w82, rfl, b83, b84, i86, k87⟩ := hL
      intro v88 e89
      have g90 : s85.1 55 16 = v88 := by rw [e89]
      have b91 : (1 : Int) ≤ v88.toInt ∧ v88.toInt ≤ 5 := by rw [e89]; exact Iv_55_16 i86
      refine And.intro (fun c92 => ?_) (fun c92 => ?_)
      · have c92 : v88.toInt ≤ w82.toInt := c92
        refine And.intro ⟨by omega, by omega⟩ ?_
        intro v93 e94
        intro v95 e96
        refine And.intro (fun c97 => ?_) (fun c97 => ?_)
        · have c97 : v95.toInt = 0 := c97
          intro v98 e99
          refine And.intro ⟨by omega, by omega⟩ ?_
          intro s100 e101
          have i102 : Iv s100 := Iv.u2 i86 e101
          have k103 : Kp s0 s100 := Kx.u2 k87 e101 (vg_kq_pos (by omega)).1
          intro v104 e105
          refine And.intro ⟨by omega, by omega⟩ ?_
          intro s106 e107
          have i108 : Iv s106 := Iv.u2 i102 e107
          have k109 : Kp s0 s106 := Kx.u2 k103 e107 (vg_kq_pos (by omega)).1
          refine And.intro (Nat.le_of_ble_eq_true rfl) (And.intro ⟨55, (Int32.ofInt 3), w80, rfl, by decide, i108, by omega⟩ ?_)
          intro s111 h110
          have h110 : Iv s111 ∧ Kp s106 s111 ∧ (True) := h110
          have i112 := h110.1
          have k113 : Kp s0 s111 := Kx.tr k109 (h110.2.1)
          refine And.intro (by first | exact Or.inl rfl | exact Or.inr rfl | exact vg_01 (by omega) (by omega)) ?_
          show Iv s111 ∧ Kp s0 s111 ∧ (0 ≤ (Int32.ofInt 1).toInt ∧ (Int32.ofInt 1).toInt ≤ 1)
          exact ⟨i112, k113, (by first | trivial | omega | assumption)⟩
        · have c97 : ¬ (v95.toInt = 0) := c97
          intro v114 e115
          refine And.intro ⟨by omega, by omega⟩ ?_
          intro s116 e117
          have i118 : Iv s116 := Iv.u2 i86 e117
          have k119 : Kp s0 s116 := Kx.u2 k87 e117 (vg_kq_pos (by omega)).1
          intro v120 e121
          refine And.intro ⟨by omega, by omega⟩ ?_
          intro s122 e123
          have i124 : Iv s122 := Iv.u2 i118 e123
          have k125 : Kp s0 s122 := Kx.u2 k119 e123 (vg_kq_pos (by omega)).1
          refine And.intro (Nat.le_of_ble_eq_true rfl) (And.intro ⟨55, (Int32.ofInt 3), w80, rfl, by decide, i124, by omega⟩ ?_)
          intro s127 h126
          have h126 : Iv s127 ∧ Kp s122 s127 ∧ (True) := h126
          have i128 := h126.1
          have k129 : Kp s0 s127 := Kx.tr k125 (h126.2.1)
          refine And.intro (by first | exact Or.inl rfl | exact Or.inr rfl | exact vg_01 (by omega) (by omega)) ?_
          show Iv s127 ∧ Kp s0 s127 ∧ (0 ≤ (Int32.ofInt 1).toInt ∧ (Int32.ofInt 1).toInt ≤ 1)
          exact ⟨i128, k129, (by first | trivial | omega | assumption)⟩
      · have c92 : ¬ (v88.toInt ≤ w82.toInt) := c92
        intro v130 e131
        have b132 := vg_add e131 (by omega) (by omega)
        refine And.intro ⟨by omega, by omega⟩ ?_
        intro v133 e134
        intro v135 e136
        refine And.intro (Nat.le_of_ble_eq_true rfl) (And.intro ⟨55, v135, rfl, by decide, i86⟩ ?_)
        intro v137 s139 h138
        have h138 : s139 = s85 ∧ (True) := h138
        have q142 := h138.1.symm
        subst q142
        intro v143 e144
        have b145 := vg_add e144 (by omega) (by omega)
        refine And.intro ⟨by omega, by omega⟩ ?_
        intro s146 e147
        have i148 : Iv s146 := Iv.u2 i86 e147
        have k149 : Kp s0 s146 := Kx.u2 k87 e147 (vg_kq_pos (by omega)).1
        intro v150 e151
        have b152 := vg_add e151 (by omega) (by omega)
        refine And.intro ⟨by omega, by omega⟩ ?_
        intro v153 e154
        intro v155 e156
        intro v157 e158
        have b159 := vg_add e158 (by omega) (by omega)
        refine And.intro ⟨by omega, by omega⟩ ?_
        intro s160 e161
        have i162 : Iv s160 := Iv.u2 i148 e161
        have k163 : Kp s0 s160 := Kx.u2 k149 e161 (vg_kq_pos (by omega)).1
        intro v164 e165
        have b166 := vg_add e165 (by omega) (by omega)
        exact ⟨rfl, ⟨v137, v155, v164, rfl, (by omega), (by omega), i162, k163⟩, (by show (0 + (5 - v164.toInt) * 1000000000000).toNat < (0 + (5 - w82.toInt) * 1000000000000).toNat; omega)⟩
def o_X11_tapMany : List vg_I := [(0, .iload_n 1, 1, 0, 0, 0, 0), (1, .ifCond .ne 7, 3, 0, 0, 0, 0), (4, .iconst 3, 1, 0, 0, 0, 0), (5, .goto 15, 3, 0, 0, 0, 0), (8, .iload_n 1, 1, 0, 0, 0, 0), (9, .iconst 2, 1, 0, 0, 0, 0), (10, .if_icmp .ne 8, 3, 0, 0, 0, 0), (13, .bipush 11, 2, 0, 0, 0, 0), (15, .goto 5, 3, 0, 0, 0, 0), (18, .bipush 7, 2, 0, 0, 0, 0), (20, .ireturn, 1, 0, 0, 0, 0)]
set_option maxRecDepth 100000 in
set_option maxHeartbeats 4000000 in
theorem c_X11_tapMany (l : Launch) (G : vg_G) (hp : vg_Hp G) : vg_Ct l G vg_sh r_X11_tapMany := by
  refine vg_meth hp vg_sh_ok r_X11_tapMany k_X11_tapMany rfl (fun h => by cases h) o_X11_tapMany [] false (by decide +kernel) (by decide +kernel) ⟨_, _, rfl, rfl⟩ (fun _ h => absurd h List.not_mem_nil) (fun h => by cases h) 600 ?_
  intro as s0 hpre
  obtain ⟨r, a1, rfl, hr, i0⟩ := hpre
  simp only [List.mem_cons, List.not_mem_nil, or_false] at hr
  rcases hr with rfl
  ·
    have z2 : (Int32.ofInt 2).toInt = 2 := by decide
    have z3 : (Int32.ofInt 3).toInt = 3 := by decide
    have z7 : (Int32.ofInt 7).toInt = 7 := by decide
    have z11 : (Int32.ofInt 11).toInt = 11 := by decide
    refine ⟨Nat.le_of_ble_eq_true rfl, [], ?_, fun _ h => absurd h List.not_mem_nil⟩
    ·
      refine And.intro (fun c1 => ?_) (fun c1 => ?_)
      · have c1 : ¬ a1.toInt = 0 := c1
        refine And.intro (fun c2 => ?_) (fun c2 => ?_)
        · have c2 : ¬ a1.toInt = (Int32.ofInt 2).toInt := c2
          show s0 = s0 ∧ (((a1.toInt = 0 ∧ (Int32.ofInt 7).toInt = 3) ∨ (a1.toInt = 2 ∧ (Int32.ofInt 7).toInt = 11) ∨ (¬ a1.toInt = 0 ∧ ¬ a1.toInt = 2 ∧ (Int32.ofInt 7).toInt = 7)) ∧ (Int32.ofInt 7).toInt = (vg_tn a1 : Int))
          exact ⟨rfl, (by first | exact ⟨by omega, by rw [vg_tn_0 (by omega)]; omega⟩ | exact ⟨by omega, by rw [vg_tn_2 (by omega)]; omega⟩ | exact ⟨by omega, by rw [vg_tn_x (by omega) (by omega)]; omega⟩)⟩
        · have c2 : ¬ (¬ a1.toInt = (Int32.ofInt 2).toInt) := c2
          show s0 = s0 ∧ (((a1.toInt = 0 ∧ (Int32.ofInt 11).toInt = 3) ∨ (a1.toInt = 2 ∧ (Int32.ofInt 11).toInt = 11) ∨ (¬ a1.toInt = 0 ∧ ¬ a1.toInt = 2 ∧ (Int32.ofInt 11).toInt = 7)) ∧ (Int32.ofInt 11).toInt = (vg_tn a1 : Int))
          exact ⟨rfl, (by first | exact ⟨by omega, by rw [vg_tn_0 (by omega)]; omega⟩ | exact ⟨by omega, by rw [vg_tn_2 (by omega)]; omega⟩ | exact ⟨by omega, by rw [vg_tn_x (by omega) (by omega)]; omega⟩)⟩
      · have c1 : ¬ (¬ a1.toInt = 0) := c1
        show s0 = s0 ∧ (((a1.toInt = 0 ∧ (Int32.ofInt 3).toInt = 3) ∨ (a1.toInt = 2 ∧ (Int32.ofInt 3).toInt = 11) ∨ (¬ a1.toInt = 0 ∧ ¬ a1.toInt = 2 ∧ (Int32.ofInt 3).toInt = 7)) ∧ (Int32.ofInt 3).toInt = (vg_tn a1 : Int))
        exact ⟨rfl, (by first | exact ⟨by omega, by rw [vg_tn_0 (by omega)]; omega⟩ | exact ⟨by omega, by rw [vg_tn_2 (by omega)]; omega⟩ | exact ⟨by omega, by rw [vg_tn_x (by omega) (by omega)]; omega⟩)⟩
def o_X11_tapOf : List vg_I := [(0, .iload_n 2, 1, 0, 0, 0, 0), (1, .aload_n 0, 1, 0, 0, 0, 0), (2, .iload_n 1, 1, 0, 0, 0, 0), (3, .invokevirtual 195, 3, 0, 11, 1, 1361), (6, .iconst 1, 1, 0, 0, 0, 0), (7, .isub, 1, 0, 0, 0, 0), (8, .iload_n 2, 1, 0, 0, 0, 0), (9, .isub, 1, 0, 0, 0, 0), (10, .invokestatic 113, 3, 1, 1, 2, 1280), (13, .istore_n 3, 1, 0, 0, 0, 0), (14, .iload_n 1, 1, 0, 0, 0, 0), (15, .ifCond .ne 13, 3, 0, 0, 0, 0), (18, .iload_n 3, 1, 0, 0, 0, 0), (19, .ifCond .ne 7, 3, 0, 0, 0, 0), (22, .iconst 1, 1, 0, 0, 0, 0), (23, .goto 4, 3, 0, 0, 0, 0), (26, .iconst 2, 1, 0, 0, 0, 0), (27, .ireturn, 1, 0, 0, 0, 0), (28, .iload_n 1, 1, 0, 0, 0, 0), (29, .iconst 1, 1, 0, 0, 0, 0), (30, .if_icmp .ne 33, 3, 0, 0, 0, 0), (33, .iload_n 3, 1, 0, 0, 0, 0), (34, .ifCond .ne 7, 3, 0, 0, 0, 0), (37, .iconst (-1), 1, 0, 0, 0, 0), (38, .goto 24, 3, 0, 0, 0, 0), (41, .iload_n 3, 1, 0, 0, 0, 0), (42, .iconst 1, 1, 0, 0, 0, 0), (43, .if_icmp .ne 7, 3, 0, 0, 0, 0), (46, .iconst 0, 1, 0, 0, 0, 0), (47, .goto 15, 3, 0, 0, 0, 0), (50, .iload_n 3, 1, 0, 0, 0, 0), (51, .iconst 2, 1, 0, 0, 0, 0), (52, .if_icmp .ne 8, 3, 0, 0, 0, 0), (55, .bipush 9, 2, 0, 0, 0, 0), (57, .goto 5, 3, 0, 0, 0, 0), (60, .bipush 16, 2, 0, 0, 0, 0), (62, .ireturn, 1, 0, 0, 0, 0), (63, .iload_n 1, 1, 0, 0, 0, 0), (64, .iconst 2, 1, 0, 0, 0, 0), (65, .if_icmp .ne 45, 3, 0, 0, 0, 0), (68, .iload_n 3, 1, 0, 0, 0, 0), (69, .ifCond .ne 7, 3, 0, 0, 0, 0), (72, .iconst 3, 1, 0, 0, 0, 0), (73, .goto 36, 3, 0, 0, 0, 0), (76, .iload_n 3, 1, 0, 0, 0, 0), (77, .iconst 2, 1, 0, 0, 0, 0), (78, .if_icmp .ne 8, 3, 0, 0, 0, 0), (81, .bipush (-25), 2, 0, 0, 0, 0), (83, .goto 26, 3, 0, 0, 0, 0), (86, .iload_n 3, 1, 0, 0, 0, 0), (87, .iconst 4, 1, 0, 0, 0, 0), (88, .if_icmp .ne 9, 3, 0, 0, 0, 0), (91, .sipush 150, 3, 0, 0, 0, 0), (94, .goto 15, 3, 0, 0, 0, 0), (97, .iload_n 3, 1, 0, 0, 0, 0), (98, .iconst 5, 1, 0, 0, 0, 0), (99, .if_icmp .ne 9, 3, 0, 0, 0, 0), (102, .sipush 256, 3, 0, 0, 0, 0), (105, .goto 4, 3, 0, 0, 0, 0), (108, .iconst 0, 1, 0, 0, 0, 0), (109, .ireturn, 1, 0, 0, 0, 0), (110, .aload_n 0, 1, 0, 0, 0, 0), (111, .getfield 52, 3, 1086, 11, 25, 0), (114, .iload_n 3, 1, 0, 0, 0, 0), (115, .iaload, 1, 0, 0, 0, 0), (116, .ireturn, 1, 0, 0, 0, 0)]
set_option maxRecDepth 100000 in
set_option maxHeartbeats 4000000 in
theorem c_X11_tapOf (l : Launch) (G : vg_G) (hp : vg_Hp G) : vg_Ct l G vg_sh r_X11_tapOf := by
  refine vg_meth hp vg_sh_ok r_X11_tapOf k_X11_tapOf rfl (fun h => by cases h) o_X11_tapOf [r_X11_tapMany, r_J9_min_7cf53] false (by decide +kernel) (by decide +kernel) ⟨_, _, rfl, rfl⟩ (List.forall_mem_cons.mpr ⟨⟨c_X11_tapMany l G hp, Nat.le_of_ble_eq_true rfl, Nat.le_of_ble_eq_true rfl⟩, List.forall_mem_cons.mpr ⟨⟨c_J9_min_7cf53 l G hp, Nat.le_of_ble_eq_true rfl, Nat.le_of_ble_eq_true rfl⟩, fun _ h => absurd h List.not_mem_nil⟩⟩) (fun h => by cases h) 600 ?_
  intro as s0 hpre
  obtain ⟨r, a1, a2, rfl, hr, i0, p0⟩ := hpre
  simp only [List.mem_cons, List.not_mem_nil, or_false] at hr
  rcases hr with rfl
  ·
    have zm25 : (Int32.ofInt (-25)).toInt = -25 := by decide
    have zm1 : (Int32.ofInt (-1)).toInt = -1 := by decide
    have z0 : (Int32.ofInt 0).toInt = 0 := by decide
    have z1 : (Int32.ofInt 1).toInt = 1 := by decide
    have z2 : (Int32.ofInt 2).toInt = 2 := by decide
    have z3 : (Int32.ofInt 3).toInt = 3 := by decide
    have z4 : (Int32.ofInt 4).toInt = 4 := by decide
    have z5 : (Int32.ofInt 5).toInt = 5 := by decide
    have z9 : (Int32.ofInt 9).toInt = 9 := by decide
    have z16 : (Int32.ofInt 16).toInt = 16 := by decide
    have z150 : (Int32.ofInt 150).toInt = 150 := by decide
    have z256 : (Int32.ofInt 256).toInt = 256 := by decide
    refine ⟨Nat.le_of_ble_eq_true rfl, [], ?_, fun _ h => absurd h List.not_mem_nil⟩
    ·
      refine And.intro (Nat.le_of_ble_eq_true rfl) (And.intro ⟨55, a1, rfl, by decide, i0⟩ ?_)
      intro v1 s3 h2
      have h2 : s3 = s0 ∧ (((a1.toInt = 0 ∧ v1.toInt = 3) ∨ (a1.toInt = 2 ∧ v1.toInt = 11) ∨ (¬ a1.toInt = 0 ∧ ¬ a1.toInt = 2 ∧ v1.toInt = 7)) ∧ v1.toInt = (vg_tn a1 : Int)) := h2
      have q6 := h2.1.symm
      subst q6
      have q7 := h2.2
      intro v8 e9
      have b10 := vg_sub e9 (by omega) (by omega)
      intro v11 e12
      have b13 := vg_sub e12 (by omega) (by omega)
      refine And.intro (Nat.le_of_ble_eq_true rfl) (And.intro ⟨a2, v11, rfl, trivial⟩ ?_)
      intro v14 s16 h15
      have h15 : s16 = s0 ∧ (v14.toInt ≤ a2.toInt ∧ v14.toInt ≤ v11.toInt ∧ (v14.toInt = a2.toInt ∨ v14.toInt = v11.toInt)) := h15
      have q19 := h15.1.symm
      subst q19
      have q20 := h15.2
      refine And.intro (fun c21 => ?_) (fun c21 => ?_)
      · have c21 : ¬ a1.toInt = 0 := c21
        refine And.intro (fun c22 => ?_) (fun c22 => ?_)
        · have c22 : ¬ a1.toInt = (Int32.ofInt 1).toInt := c22
          refine And.intro (fun c23 => ?_) (fun c23 => ?_)
          · have c23 : ¬ a1.toInt = (Int32.ofInt 2).toInt := c23
            refine And.intro ⟨by omega, by omega⟩ ?_
            intro v24 e25
            show s0 = s0 ∧ (v24 = vg_tp (s0.1 61) a1 a2.toNatClampNeg)
            exact ⟨rfl, (by have hk : a2.toNatClampNeg = a2.toInt.toNat := rfl; have hi : v14.toNatClampNeg = v14.toInt.toNat := rfl; first | (rw [vg_tp_3 (by omega) (by omega) (by omega), e25]; exact congrArg _ (by omega)) | (rcases (show a2.toInt = 0 ∨ a2.toInt = 1 ∨ a2.toInt = 2 ∨ a2.toInt = 3 ∨ a2.toInt = 4 ∨ a2.toInt = 5 ∨ a2.toInt = 6 ∨ a2.toInt = 7 ∨ a2.toInt = 8 ∨ a2.toInt = 9 ∨ a2.toInt = 10 by omega) with h9 | h9 | h9 | h9 | h9 | h9 | h9 | h9 | h9 | h9 | h9 <;> first | (exfalso; omega) | (rw [hk, h9, vg_tp_0 (by omega)]; decide) | (rw [hk, h9, vg_tp_1 (by omega)]; decide) | (rw [hk, h9, vg_tp_2 (by omega)]; decide)))⟩
          · have c23 : ¬ (¬ a1.toInt = (Int32.ofInt 2).toInt) := c23
            refine And.intro (fun c26 => ?_) (fun c26 => ?_)
            · have c26 : ¬ v14.toInt = 0 := c26
              refine And.intro (fun c27 => ?_) (fun c27 => ?_)
              · have c27 : ¬ v14.toInt = (Int32.ofInt 2).toInt := c27
                refine And.intro (fun c28 => ?_) (fun c28 => ?_)
                · have c28 : ¬ v14.toInt = (Int32.ofInt 4).toInt := c28
                  refine And.intro (fun c29 => ?_) (fun c29 => ?_)
                  · have c29 : ¬ v14.toInt = (Int32.ofInt 5).toInt := c29
                    show s0 = s0 ∧ ((Int32.ofInt 0) = vg_tp (s0.1 61) a1 a2.toNatClampNeg)
                    exact ⟨rfl, (by have hk : a2.toNatClampNeg = a2.toInt.toNat := rfl; have hi : v14.toNatClampNeg = v14.toInt.toNat := rfl; first | (rw [vg_tp_3 (by omega) (by omega) (by omega), None]; exact congrArg _ (by omega)) | (rcases (show a2.toInt = 0 ∨ a2.toInt = 1 ∨ a2.toInt = 2 ∨ a2.toInt = 3 ∨ a2.toInt = 4 ∨ a2.toInt = 5 ∨ a2.toInt = 6 ∨ a2.toInt = 7 ∨ a2.toInt = 8 ∨ a2.toInt = 9 ∨ a2.toInt = 10 by omega) with h9 | h9 | h9 | h9 | h9 | h9 | h9 | h9 | h9 | h9 | h9 <;> first | (exfalso; omega) | (rw [hk, h9, vg_tp_0 (by omega)]; decide) | (rw [hk, h9, vg_tp_1 (by omega)]; decide) | (rw [hk, h9, vg_tp_2 (by omega)]; decide)))⟩
                  · have c29 : ¬ (¬ v14.toInt = (Int32.ofInt 5).toInt) := c29
                    show s0 = s0 ∧ ((Int32.ofInt 256) = vg_tp (s0.1 61) a1 a2.toNatClampNeg)
                    exact ⟨rfl, (by have hk : a2.toNatClampNeg = a2.toInt.toNat := rfl; have hi : v14.toNatClampNeg = v14.toInt.toNat := rfl; first | (rw [vg_tp_3 (by omega) (by omega) (by omega), None]; exact congrArg _ (by omega)) | (rcases (show a2.toInt = 0 ∨ a2.toInt = 1 ∨ a2.toInt = 2 ∨ a2.toInt = 3 ∨ a2.toInt = 4 ∨ a2.toInt = 5 ∨ a2.toInt = 6 ∨ a2.toInt = 7 ∨ a2.toInt = 8 ∨ a2.toInt = 9 ∨ a2.toInt = 10 by omega) with h9 | h9 | h9 | h9 | h9 | h9 | h9 | h9 | h9 | h9 | h9 <;> first | (exfalso; omega) | (rw [hk, h9, vg_tp_0 (by omega)]; decide) | (rw [hk, h9, vg_tp_1 (by omega)]; decide) | (rw [hk, h9, vg_tp_2 (by omega)]; decide)))⟩
                · have c28 : ¬ (¬ v14.toInt = (Int32.ofInt 4).toInt) := c28
                  show s0 = s0 ∧ ((Int32.ofInt 150) = vg_tp (s0.1 61) a1 a2.toNatClampNeg)
                  exact ⟨rfl, (by have hk : a2.toNatClampNeg = a2.toInt.toNat := rfl; have hi : v14.toNatClampNeg = v14.toInt.toNat := rfl; first | (rw [vg_tp_3 (by omega) (by omega) (by omega), None]; exact congrArg _ (by omega)) | (rcases (show a2.toInt = 0 ∨ a2.toInt = 1 ∨ a2.toInt = 2 ∨ a2.toInt = 3 ∨ a2.toInt = 4 ∨ a2.toInt = 5 ∨ a2.toInt = 6 ∨ a2.toInt = 7 ∨ a2.toInt = 8 ∨ a2.toInt = 9 ∨ a2.toInt = 10 by omega) with h9 | h9 | h9 | h9 | h9 | h9 | h9 | h9 | h9 | h9 | h9 <;> first | (exfalso; omega) | (rw [hk, h9, vg_tp_0 (by omega)]; decide) | (rw [hk, h9, vg_tp_1 (by omega)]; decide) | (rw [hk, h9, vg_tp_2 (by omega)]; decide)))⟩
              · have c27 : ¬ (¬ v14.toInt = (Int32.ofInt 2).toInt) := c27
                show s0 = s0 ∧ ((Int32.ofInt (-25)) = vg_tp (s0.1 61) a1 a2.toNatClampNeg)
                exact ⟨rfl, (by have hk : a2.toNatClampNeg = a2.toInt.toNat := rfl; have hi : v14.toNatClampNeg = v14.toInt.toNat := rfl; first | (rw [vg_tp_3 (by omega) (by omega) (by omega), None]; exact congrArg _ (by omega)) | (rcases (show a2.toInt = 0 ∨ a2.toInt = 1 ∨ a2.toInt = 2 ∨ a2.toInt = 3 ∨ a2.toInt = 4 ∨ a2.toInt = 5 ∨ a2.toInt = 6 ∨ a2.toInt = 7 ∨ a2.toInt = 8 ∨ a2.toInt = 9 ∨ a2.toInt = 10 by omega) with h9 | h9 | h9 | h9 | h9 | h9 | h9 | h9 | h9 | h9 | h9 <;> first | (exfalso; omega) | (rw [hk, h9, vg_tp_0 (by omega)]; decide) | (rw [hk, h9, vg_tp_1 (by omega)]; decide) | (rw [hk, h9, vg_tp_2 (by omega)]; decide)))⟩
            · have c26 : ¬ (¬ v14.toInt = 0) := c26
              show s0 = s0 ∧ ((Int32.ofInt 3) = vg_tp (s0.1 61) a1 a2.toNatClampNeg)
              exact ⟨rfl, (by have hk : a2.toNatClampNeg = a2.toInt.toNat := rfl; have hi : v14.toNatClampNeg = v14.toInt.toNat := rfl; first | (rw [vg_tp_3 (by omega) (by omega) (by omega), None]; exact congrArg _ (by omega)) | (rcases (show a2.toInt = 0 ∨ a2.toInt = 1 ∨ a2.toInt = 2 ∨ a2.toInt = 3 ∨ a2.toInt = 4 ∨ a2.toInt = 5 ∨ a2.toInt = 6 ∨ a2.toInt = 7 ∨ a2.toInt = 8 ∨ a2.toInt = 9 ∨ a2.toInt = 10 by omega) with h9 | h9 | h9 | h9 | h9 | h9 | h9 | h9 | h9 | h9 | h9 <;> first | (exfalso; omega) | (rw [hk, h9, vg_tp_0 (by omega)]; decide) | (rw [hk, h9, vg_tp_1 (by omega)]; decide) | (rw [hk, h9, vg_tp_2 (by omega)]; decide)))⟩
        · have c22 : ¬ (¬ a1.toInt = (Int32.ofInt 1).toInt) := c22
          refine And.intro (fun c30 => ?_) (fun c30 => ?_)
          · have c30 : ¬ v14.toInt = 0 := c30
            refine And.intro (fun c31 => ?_) (fun c31 => ?_)
            · have c31 : ¬ v14.toInt = (Int32.ofInt 1).toInt := c31
              refine And.intro (fun c32 => ?_) (fun c32 => ?_)
              · have c32 : ¬ v14.toInt = (Int32.ofInt 2).toInt := c32
                show s0 = s0 ∧ ((Int32.ofInt 16) = vg_tp (s0.1 61) a1 a2.toNatClampNeg)
                exact ⟨rfl, (by have hk : a2.toNatClampNeg = a2.toInt.toNat := rfl; have hi : v14.toNatClampNeg = v14.toInt.toNat := rfl; first | (rw [vg_tp_3 (by omega) (by omega) (by omega), None]; exact congrArg _ (by omega)) | (rcases (show a2.toInt = 0 ∨ a2.toInt = 1 ∨ a2.toInt = 2 ∨ a2.toInt = 3 ∨ a2.toInt = 4 ∨ a2.toInt = 5 ∨ a2.toInt = 6 ∨ a2.toInt = 7 ∨ a2.toInt = 8 ∨ a2.toInt = 9 ∨ a2.toInt = 10 by omega) with h9 | h9 | h9 | h9 | h9 | h9 | h9 | h9 | h9 | h9 | h9 <;> first | (exfalso; omega) | (rw [hk, h9, vg_tp_0 (by omega)]; decide) | (rw [hk, h9, vg_tp_1 (by omega)]; decide) | (rw [hk, h9, vg_tp_2 (by omega)]; decide)))⟩
              · have c32 : ¬ (¬ v14.toInt = (Int32.ofInt 2).toInt) := c32
                show s0 = s0 ∧ ((Int32.ofInt 9) = vg_tp (s0.1 61) a1 a2.toNatClampNeg)
                exact ⟨rfl, (by have hk : a2.toNatClampNeg = a2.toInt.toNat := rfl; have hi : v14.toNatClampNeg = v14.toInt.toNat := rfl; first | (rw [vg_tp_3 (by omega) (by omega) (by omega), None]; exact congrArg _ (by omega)) | (rcases (show a2.toInt = 0 ∨ a2.toInt = 1 ∨ a2.toInt = 2 ∨ a2.toInt = 3 ∨ a2.toInt = 4 ∨ a2.toInt = 5 ∨ a2.toInt = 6 ∨ a2.toInt = 7 ∨ a2.toInt = 8 ∨ a2.toInt = 9 ∨ a2.toInt = 10 by omega) with h9 | h9 | h9 | h9 | h9 | h9 | h9 | h9 | h9 | h9 | h9 <;> first | (exfalso; omega) | (rw [hk, h9, vg_tp_0 (by omega)]; decide) | (rw [hk, h9, vg_tp_1 (by omega)]; decide) | (rw [hk, h9, vg_tp_2 (by omega)]; decide)))⟩
            · have c31 : ¬ (¬ v14.toInt = (Int32.ofInt 1).toInt) := c31
              show s0 = s0 ∧ ((Int32.ofInt 0) = vg_tp (s0.1 61) a1 a2.toNatClampNeg)
              exact ⟨rfl, (by have hk : a2.toNatClampNeg = a2.toInt.toNat := rfl; have hi : v14.toNatClampNeg = v14.toInt.toNat := rfl; first | (rw [vg_tp_3 (by omega) (by omega) (by omega), None]; exact congrArg _ (by omega)) | (rcases (show a2.toInt = 0 ∨ a2.toInt = 1 ∨ a2.toInt = 2 ∨ a2.toInt = 3 ∨ a2.toInt = 4 ∨ a2.toInt = 5 ∨ a2.toInt = 6 ∨ a2.toInt = 7 ∨ a2.toInt = 8 ∨ a2.toInt = 9 ∨ a2.toInt = 10 by omega) with h9 | h9 | h9 | h9 | h9 | h9 | h9 | h9 | h9 | h9 | h9 <;> first | (exfalso; omega) | (rw [hk, h9, vg_tp_0 (by omega)]; decide) | (rw [hk, h9, vg_tp_1 (by omega)]; decide) | (rw [hk, h9, vg_tp_2 (by omega)]; decide)))⟩
          · have c30 : ¬ (¬ v14.toInt = 0) := c30
            show s0 = s0 ∧ ((Int32.ofInt (-1)) = vg_tp (s0.1 61) a1 a2.toNatClampNeg)
            exact ⟨rfl, (by have hk : a2.toNatClampNeg = a2.toInt.toNat := rfl; have hi : v14.toNatClampNeg = v14.toInt.toNat := rfl; first | (rw [vg_tp_3 (by omega) (by omega) (by omega), None]; exact congrArg _ (by omega)) | (rcases (show a2.toInt = 0 ∨ a2.toInt = 1 ∨ a2.toInt = 2 ∨ a2.toInt = 3 ∨ a2.toInt = 4 ∨ a2.toInt = 5 ∨ a2.toInt = 6 ∨ a2.toInt = 7 ∨ a2.toInt = 8 ∨ a2.toInt = 9 ∨ a2.toInt = 10 by omega) with h9 | h9 | h9 | h9 | h9 | h9 | h9 | h9 | h9 | h9 | h9 <;> first | (exfalso; omega) | (rw [hk, h9, vg_tp_0 (by omega)]; decide) | (rw [hk, h9, vg_tp_1 (by omega)]; decide) | (rw [hk, h9, vg_tp_2 (by omega)]; decide)))⟩
      · have c21 : ¬ (¬ a1.toInt = 0) := c21
        refine And.intro (fun c33 => ?_) (fun c33 => ?_)
        · have c33 : ¬ v14.toInt = 0 := c33
          show s0 = s0 ∧ ((Int32.ofInt 2) = vg_tp (s0.1 61) a1 a2.toNatClampNeg)
          exact ⟨rfl, (by have hk : a2.toNatClampNeg = a2.toInt.toNat := rfl; have hi : v14.toNatClampNeg = v14.toInt.toNat := rfl; first | (rw [vg_tp_3 (by omega) (by omega) (by omega), None]; exact congrArg _ (by omega)) | (rcases (show a2.toInt = 0 ∨ a2.toInt = 1 ∨ a2.toInt = 2 ∨ a2.toInt = 3 ∨ a2.toInt = 4 ∨ a2.toInt = 5 ∨ a2.toInt = 6 ∨ a2.toInt = 7 ∨ a2.toInt = 8 ∨ a2.toInt = 9 ∨ a2.toInt = 10 by omega) with h9 | h9 | h9 | h9 | h9 | h9 | h9 | h9 | h9 | h9 | h9 <;> first | (exfalso; omega) | (rw [hk, h9, vg_tp_0 (by omega)]; decide) | (rw [hk, h9, vg_tp_1 (by omega)]; decide) | (rw [hk, h9, vg_tp_2 (by omega)]; decide)))⟩
        · have c33 : ¬ (¬ v14.toInt = 0) := c33
          show s0 = s0 ∧ ((Int32.ofInt 1) = vg_tp (s0.1 61) a1 a2.toNatClampNeg)
          exact ⟨rfl, (by have hk : a2.toNatClampNeg = a2.toInt.toNat := rfl; have hi : v14.toNatClampNeg = v14.toInt.toNat := rfl; first | (rw [vg_tp_3 (by omega) (by omega) (by omega), None]; exact congrArg _ (by omega)) | (rcases (show a2.toInt = 0 ∨ a2.toInt = 1 ∨ a2.toInt = 2 ∨ a2.toInt = 3 ∨ a2.toInt = 4 ∨ a2.toInt = 5 ∨ a2.toInt = 6 ∨ a2.toInt = 7 ∨ a2.toInt = 8 ∨ a2.toInt = 9 ∨ a2.toInt = 10 by omega) with h9 | h9 | h9 | h9 | h9 | h9 | h9 | h9 | h9 | h9 | h9 <;> first | (exfalso; omega) | (rw [hk, h9, vg_tp_0 (by omega)]; decide) | (rw [hk, h9, vg_tp_1 (by omega)]; decide) | (rw [hk, h9, vg_tp_2 (by omega)]; decide)))⟩
def o_X11_shiftOf : List vg_I := [(0, .iload_n 1, 1, 0, 0, 0, 0), (1, .ifCond .ne 7, 3, 0, 0, 0, 0), (4, .iconst 2, 1, 0, 0, 0, 0), (5, .goto 26, 3, 0, 0, 0, 0), (8, .iload_n 1, 1, 0, 0, 0, 0), (9, .iconst 1, 1, 0, 0, 0, 0), (10, .if_icmp .ne 7, 3, 0, 0, 0, 0), (13, .iconst 5, 1, 0, 0, 0, 0), (14, .goto 17, 3, 0, 0, 0, 0), (17, .iload_n 1, 1, 0, 0, 0, 0), (18, .iconst 2, 1, 0, 0, 0, 0), (19, .if_icmp .ne 8, 3, 0, 0, 0, 0), (22, .bipush 9, 2, 0, 0, 0, 0), (24, .goto 7, 3, 0, 0, 0, 0), (27, .aload_n 0, 1, 0, 0, 0, 0), (28, .getfield 198, 3, 1082, 11, 21, 0), (31, .ireturn, 1, 0, 0, 0, 0)]
set_option maxRecDepth 100000 in
set_option maxHeartbeats 4000000 in
theorem c_X11_shiftOf (l : Launch) (G : vg_G) (hp : vg_Hp G) : vg_Ct l G vg_sh r_X11_shiftOf := by
  refine vg_meth hp vg_sh_ok r_X11_shiftOf k_X11_shiftOf rfl (fun h => by cases h) o_X11_shiftOf [] false (by decide +kernel) (by decide +kernel) ⟨_, _, rfl, rfl⟩ (fun _ h => absurd h List.not_mem_nil) (fun h => by cases h) 600 ?_
  intro as s0 hpre
  obtain ⟨r, a1, rfl, hr, i0⟩ := hpre
  simp only [List.mem_cons, List.not_mem_nil, or_false] at hr
  rcases hr with rfl
  ·
    have z1 : (Int32.ofInt 1).toInt = 1 := by decide
    have z2 : (Int32.ofInt 2).toInt = 2 := by decide
    have z5 : (Int32.ofInt 5).toInt = 5 := by decide
    have z9 : (Int32.ofInt 9).toInt = 9 := by decide
    refine ⟨Nat.le_of_ble_eq_true rfl, [], ?_, fun _ h => absurd h List.not_mem_nil⟩
    ·
      refine And.intro (fun c1 => ?_) (fun c1 => ?_)
      · have c1 : ¬ a1.toInt = 0 := c1
        refine And.intro (fun c2 => ?_) (fun c2 => ?_)
        · have c2 : ¬ a1.toInt = (Int32.ofInt 1).toInt := c2
          refine And.intro (fun c3 => ?_) (fun c3 => ?_)
          · have c3 : ¬ a1.toInt = (Int32.ofInt 2).toInt := c3
            intro v4 e5
            have g6 : s0.1 55 21 = v4 := by rw [e5]
            have b7 : v4.toInt = (s0.1 55 21).toInt := congrArg Int32.toInt e5
            show s0 = s0 ∧ ((a1.toInt = 0 ∧ v4.toInt = 2) ∨ (a1.toInt = 1 ∧ v4.toInt = 5) ∨ (a1.toInt = 2 ∧ v4.toInt = 9) ∨ (¬ a1.toInt = 0 ∧ ¬ a1.toInt = 1 ∧ ¬ a1.toInt = 2 ∧ v4.toInt = (s0.1 55 21).toInt))
            exact ⟨rfl, (by first | trivial | omega | assumption)⟩
          · have c3 : ¬ (¬ a1.toInt = (Int32.ofInt 2).toInt) := c3
            show s0 = s0 ∧ ((a1.toInt = 0 ∧ (Int32.ofInt 9).toInt = 2) ∨ (a1.toInt = 1 ∧ (Int32.ofInt 9).toInt = 5) ∨ (a1.toInt = 2 ∧ (Int32.ofInt 9).toInt = 9) ∨ (¬ a1.toInt = 0 ∧ ¬ a1.toInt = 1 ∧ ¬ a1.toInt = 2 ∧ (Int32.ofInt 9).toInt = (s0.1 55 21).toInt))
            exact ⟨rfl, (by first | trivial | omega | assumption)⟩
        · have c2 : ¬ (¬ a1.toInt = (Int32.ofInt 1).toInt) := c2
          show s0 = s0 ∧ ((a1.toInt = 0 ∧ (Int32.ofInt 5).toInt = 2) ∨ (a1.toInt = 1 ∧ (Int32.ofInt 5).toInt = 5) ∨ (a1.toInt = 2 ∧ (Int32.ofInt 5).toInt = 9) ∨ (¬ a1.toInt = 0 ∧ ¬ a1.toInt = 1 ∧ ¬ a1.toInt = 2 ∧ (Int32.ofInt 5).toInt = (s0.1 55 21).toInt))
          exact ⟨rfl, (by first | trivial | omega | assumption)⟩
      · have c1 : ¬ (¬ a1.toInt = 0) := c1
        show s0 = s0 ∧ ((a1.toInt = 0 ∧ (Int32.ofInt 2).toInt = 2) ∨ (a1.toInt = 1 ∧ (Int32.ofInt 2).toInt = 5) ∨ (a1.toInt = 2 ∧ (Int32.ofInt 2).toInt = 9) ∨ (¬ a1.toInt = 0 ∧ ¬ a1.toInt = 1 ∧ ¬ a1.toInt = 2 ∧ (Int32.ofInt 2).toInt = (s0.1 55 21).toInt))
        exact ⟨rfl, (by first | trivial | omega | assumption)⟩
def o_X11_folds : List vg_I := [(0, .bipush 111, 2, 0, 0, 0, 0), (2, .bipush 11, 2, 0, 0, 0, 0), (4, .iload_n 1, 1, 0, 0, 0, 0), (5, .imul, 1, 0, 0, 0, 0), (6, .iadd, 1, 0, 0, 0, 0), (7, .istore 4, 2, 0, 0, 0, 0), (9, .bipush 10, 2, 0, 0, 0, 0), (11, .istore 5, 2, 0, 0, 0, 0), (13, .iload 5, 2, 0, 0, 0, 0), (15, .ifCond .le 31, 3, 0, 0, 0, 0), (18, .aload_n 0, 1, 0, 0, 0, 0), (19, .getfield 7, 3, 1061, 11, 0, 0), (22, .iload 4, 2, 0, 0, 0, 0), (24, .iload 5, 2, 0, 0, 0, 0), (26, .iadd, 1, 0, 0, 0, 0), (27, .aload_n 0, 1, 0, 0, 0, 0), (28, .getfield 7, 3, 1061, 11, 0, 0), (31, .iload 4, 2, 0, 0, 0, 0), (33, .iload 5, 2, 0, 0, 0, 0), (35, .iadd, 1, 0, 0, 0, 0), (36, .iconst 1, 1, 0, 0, 0, 0), (37, .isub, 1, 0, 0, 0, 0), (38, .laload, 1, 0, 0, 0, 0), (39, .lastore, 1, 0, 0, 0, 0), (40, .iinc 5 (-1), 3, 0, 0, 0, 0), (43, .goto (-30), 3, 0, 0, 0, 0), (46, .aload_n 0, 1, 0, 0, 0, 0), (47, .getfield 7, 3, 1061, 11, 0, 0), (50, .iload 4, 2, 0, 0, 0, 0), (52, .lload_n 2, 1, 0, 0, 0, 0), (53, .lastore, 1, 0, 0, 0, 0), (54, .aload_n 0, 1, 0, 0, 0, 0), (55, .getfield 7, 3, 1061, 11, 0, 0), (58, .bipush 108, 2, 0, 0, 0, 0), (60, .iload_n 1, 1, 0, 0, 0, 0), (61, .iadd, 1, 0, 0, 0, 0), (62, .dup2, 1, 0, 0, 0, 0), (63, .laload, 1, 0, 0, 0, 0), (64, .lconst 1, 1, 0, 0, 0, 0), (65, .ladd, 1, 0, 0, 0, 0), (66, .lastore, 1, 0, 0, 0, 0), (67, .aload_n 0, 1, 0, 0, 0, 0), (68, .getfield 7, 3, 1061, 11, 0, 0), (71, .bipush 108, 2, 0, 0, 0, 0), (73, .iload_n 1, 1, 0, 0, 0, 0), (74, .iadd, 1, 0, 0, 0, 0), (75, .laload, 1, 0, 0, 0, 0), (76, .ldc2_w 167, 3, 1336, 0, 0, 2), (79, .lrem, 1, 0, 0, 0, 0), (80, .lconst 1, 1, 0, 0, 0, 0), (81, .lcmp, 1, 0, 0, 0, 0), (82, .ifCond .ne 5, 3, 0, 0, 0, 0), (85, .iconst 0, 1, 0, 0, 0, 0), (86, .ireturn, 1, 0, 0, 0, 1), (87, .lconst 0, 1, 0, 0, 0, 0), (88, .lstore 5, 2, 0, 0, 0, 0), (90, .iconst 0, 1, 0, 0, 0, 0), (91, .istore 7, 2, 0, 0, 0, 0), (93, .iload 7, 2, 0, 0, 0, 0), (95, .aload_n 0, 1, 0, 0, 0, 0), (96, .aload_n 0, 1, 0, 0, 0, 0), (97, .getfield 49, 3, 1085, 11, 24, 0), (100, .iload_n 1, 1, 0, 0, 0, 0), (101, .iaload, 1, 0, 0, 0, 0), (102, .invokevirtual 195, 3, 0, 11, 1, 1361), (105, .if_icmp .ge 38, 3, 0, 0, 0, 0), (108, .lload 5, 2, 0, 0, 0, 0), (110, .aload_n 0, 1, 0, 0, 0, 0), (111, .aload_n 0, 1, 0, 0, 0, 0), (112, .getfield 49, 3, 1085, 11, 24, 0), (115, .iload_n 1, 1, 0, 0, 0, 0), (116, .iaload, 1, 0, 0, 0, 0), (117, .iload 7, 2, 0, 0, 0, 0), (119, .invokevirtual 201, 3, 1, 11, 2, 1365), (122, .i2l, 1, 0, 0, 0, 0), (123, .aload_n 0, 1, 0, 0, 0, 0), (124, .getfield 7, 3, 1061, 11, 0, 0), (127, .iload 4, 2, 0, 0, 0, 0), (129, .iload 7, 2, 0, 0, 0, 0), (131, .iadd, 1, 0, 0, 0, 0), (132, .laload, 1, 0, 0, 0, 0), (133, .lmul, 1, 0, 0, 0, 0), (134, .ladd, 1, 0, 0, 0, 0), (135, .lstore 5, 2, 0, 0, 0, 0), (137, .iinc 7 1, 3, 0, 0, 0, 0), (140, .goto (-47), 3, 0, 0, 0, 0), (143, .aload_n 0, 1, 0, 0, 0, 0), (144, .iconst 4, 1, 0, 0, 0, 0), (145, .iload_n 1, 1, 0, 0, 0, 0), (146, .iadd, 1, 0, 0, 0, 0), (147, .lload 5, 2, 0, 0, 0, 0), (149, .aload_n 0, 1, 0, 0, 0, 0), (150, .aload_n 0, 1, 0, 0, 0, 0), (151, .getfield 49, 3, 1085, 11, 24, 0), (154, .iload_n 1, 1, 0, 0, 0, 0), (155, .iaload, 1, 0, 0, 0, 0), (156, .invokevirtual 204, 3, 2, 11, 1, 1369), (159, .lshr, 1, 0, 0, 0, 0), (160, .l2i, 1, 0, 0, 0, 0), (161, .i2l, 1, 0, 0, 0, 0), (162, .invokevirtual 191, 3, 3, 11, 2, 1281), (165, .iconst 1, 1, 0, 0, 0, 0), (166, .ireturn, 1, 0, 0, 0, 1)]
set_option maxRecDepth 100000 in
set_option maxHeartbeats 4000000 in
theorem c_X11_folds (l : Launch) (G : vg_G) (hp : vg_Hp G) : vg_Ct l G vg_sh r_X11_folds := by
  refine vg_meth hp vg_sh_ok r_X11_folds k_X11_folds rfl (fun h => by cases h) o_X11_folds [r_X11_tapMany, r_X11_tapOf, r_X11_shiftOf, r_X11_tells] false (by decide +kernel) (by decide +kernel) ⟨_, _, rfl, rfl⟩ (List.forall_mem_cons.mpr ⟨⟨c_X11_tapMany l G hp, Nat.le_of_ble_eq_true rfl, Nat.le_of_ble_eq_true rfl⟩, List.forall_mem_cons.mpr ⟨⟨c_X11_tapOf l G hp, Nat.le_of_ble_eq_true rfl, Nat.le_of_ble_eq_true rfl⟩, List.forall_mem_cons.mpr ⟨⟨c_X11_shiftOf l G hp, Nat.le_of_ble_eq_true rfl, Nat.le_of_ble_eq_true rfl⟩, List.forall_mem_cons.mpr ⟨⟨c_X11_tells l G hp, Nat.le_of_ble_eq_true rfl, Nat.le_of_ble_eq_true rfl⟩, fun _ h => absurd h List.not_mem_nil⟩⟩⟩⟩) (fun h => by cases h) 600 ?_
  intro as s0 hpre
  obtain ⟨r, a1, a2, rfl, hr, i0, p0⟩ := hpre
  simp only [List.mem_cons, List.not_mem_nil, or_false] at hr
  rcases hr with rfl
  ·
    have zm1 : (Int32.ofInt (-1)).toInt = -1 := by decide
    have z0 : (Int32.ofInt 0).toInt = 0 := by decide
    have z1 : (Int32.ofInt 1).toInt = 1 := by decide
    have z4 : (Int32.ofInt 4).toInt = 4 := by decide
    have z10 : (Int32.ofInt 10).toInt = 10 := by decide
    have z11 : (Int32.ofInt 11).toInt = 11 := by decide
    have z108 : (Int32.ofInt 108).toInt = 108 := by decide
    have z111 : (Int32.ofInt 111).toInt = 111 := by decide
    refine ⟨Nat.le_of_ble_eq_true rfl, [(13, [true, true, true, false, true, true, false, false], (fun L t => ∃ (x4 : Int32) (x5 : Int32), L = [some (.ref 55), some (.int a1), some (.long a2), none, some (.int x4), some (.int x5), none, none] ∧ (111 : Int) ≤ x4.toInt ∧ x4.toInt ≤ (133 : Int) ∧ (0 : Int) ≤ x5.toInt ∧ x5.toInt ≤ (10 : Int) ∧ Iv t ∧ Kp s0 t), (fun L _ => (10000000000000000 + ((vg_li L 5).toInt - (0)) * 1000000000000).toNat)), (93, [true, true, false, false, true, true, false, true], (fun L t => ∃ (x4 : Int32) (x5 : Int64) (x7 : Int32), L = [some (.ref 55), some (.int a1), none, none, some (.int x4), some (.long x5), none, some (.int x7)] ∧ (111 : Int) ≤ x4.toInt ∧ x4.toInt ≤ (133 : Int) ∧ (0 : Int) ≤ x7.toInt ∧ x7.toInt ≤ (11 : Int) ∧ Iv t ∧ Kp s0 t), (fun L _ => (0 + (11 - (vg_li L 7).toInt) * 1000000000000).toNat))], ?_, List.forall_mem_cons.mpr ⟨?_, List.forall_mem_cons.mpr ⟨?_, fun _ h => absurd h List.not_mem_nil⟩⟩⟩
    ·
      intro v1 e2
      have b3 : v1.toInt = (11) * a1.toInt := vg_mulL e2 (by omega) (by omega) (by omega)
      intro v4 e5
      have b6 := vg_add e5 (by omega) (by omega)
      exact ⟨rfl, ⟨v4, (Int32.ofInt 10), rfl, (by omega), (by omega), (by omega), (by omega), i0, Kx.rf⟩, trivial⟩
    ·
      intro L s13 hL
      obtain ⟨w7, w10, rfl, b8, b9, b11, b12, i14, k15⟩ := hL
      refine And.intro (fun c16 => ?_) (fun c16 => ?_)
      · have c16 : w10.toInt ≤ 0 := c16
        refine And.intro ⟨by omega, by omega⟩ ?_
        intro s17 e18
        have i19 : Iv s17 := Iv.u2 i14 e18
        have k20 : Kp s0 s17 := Kx.u2 k15 e18 (vg_kq_pos (by omega)).1
        intro v21 e22
        have b23 := vg_add e22 (by omega) (by omega)
        refine And.intro ⟨by omega, by omega⟩ ?_
        intro v24 e25
        intro v26 e27
        refine And.intro ⟨by omega, by omega⟩ ?_
        intro s28 e29
        have i30 : Iv s28 := Iv.u2 i19 e29
        have k31 : Kp s0 s28 := Kx.u2 k20 e29 (vg_kq_pos (by omega)).1
        intro v32 e33
        have b34 := vg_add e33 (by omega) (by omega)
        refine And.intro ⟨by omega, by omega⟩ ?_
        intro v35 e36
        refine And.intro (by decide) ?_
        intro v37 e38
        intro v39 e40
        refine And.intro (fun c41 => ?_) (fun c41 => ?_)
        · have c41 : ¬ v39.toInt = 0 := c41
          exact ⟨rfl, ⟨w7, (Int64.ofNat 0), (Int32.ofInt 0), rfl, (by omega), (by omega), (by omega), (by omega), i30, k31⟩, (by show (0 + (11 - (Int32.ofInt 0).toInt) * 1000000000000).toNat < (10000000000000000 + (w10.toInt - (0)) * 1000000000000).toNat; omega)⟩
        · have c41 : ¬ (¬ v39.toInt = 0) := c41
          refine And.intro (by first | exact Or.inl rfl | exact Or.inr rfl | exact vg_01 (by omega) (by omega)) ?_
          show Iv s28 ∧ Kp s0 s28 ∧ (0 ≤ (Int32.ofInt 0).toInt ∧ (Int32.ofInt 0).toInt ≤ 1)
          exact ⟨i30, k31, (by first | trivial | omega | assumption)⟩
      · have c16 : ¬ (w10.toInt ≤ 0) := c16
        intro v42 e43
        have b44 := vg_add e43 (by omega) (by omega)
        intro v45 e46
        have b47 := vg_add e46 (by omega) (by omega)
        intro v48 e49
        have b50 := vg_sub e49 (by omega) (by omega)
        refine And.intro ⟨by omega, by omega⟩ ?_
        intro v51 e52
        refine And.intro ⟨by omega, by omega⟩ ?_
        intro s53 e54
        have i55 : Iv s53 := Iv.u2 i14 e54
        have k56 : Kp s0 s53 := Kx.u2 k15 e54 (vg_kq_pos (by omega)).1
        intro v57 e58
        have b59 := vg_add e58 (by omega) (by omega)
        exact ⟨rfl, ⟨w7, v57, rfl, (by omega), (by omega), (by omega), (by omega), i55, k56⟩, (by show (10000000000000000 + (v57.toInt - (0)) * 1000000000000).toNat < (10000000000000000 + (w10.toInt - (0)) * 1000000000000).toNat; omega)⟩
    ·
      intro L s67 hL
      obtain ⟨w60, w63, w64, rfl, b61, b62, b65, b66, i68, k69⟩ := hL
      refine And.intro ⟨by omega, by omega⟩ ?_
      intro v70 e71
      refine And.intro (Nat.le_of_ble_eq_true rfl) (And.intro ⟨55, v70, rfl, by decide, i68⟩ ?_)
      intro v72 s74 h73
      have h73 : s74 = s67 ∧ (((v70.toInt = 0 ∧ v72.toInt = 3) ∨ (v70.toInt = 2 ∧ v72.toInt = 11) ∨ (¬ v70.toInt = 0 ∧ ¬ v70.toInt = 2 ∧ v72.toInt = 7)) ∧ v72.toInt = (vg_tn v70 : Int)) := h73
      have q77 := h73.1.symm
      subst q77
      have q78 := h73.2
      refine And.intro (fun c79 => ?_) (fun c79 => ?_)
      · have c79 : v72.toInt ≤ w64.toInt := c79
        intro v80 e81
        have b82 := vg_add e81 (by omega) (by omega)
        refine And.intro ⟨by omega, by omega⟩ ?_
        intro v83 e84
        have w85 : v70 = v83 := by rw [e84, e71]
        subst w85
        refine And.intro (Nat.le_of_ble_eq_true rfl) (And.intro ⟨55, v70, rfl, by decide, i68⟩ ?_)
        intro v86 s88 h87
        have h87 : s88 = s67 ∧ ((v70.toInt = 0 ∧ v86.toInt = 2) ∨ (v70.toInt = 1 ∧ v86.toInt = 5) ∨ (v70.toInt = 2 ∧ v86.toInt = 9) ∨ (¬ v70.toInt = 0 ∧ ¬ v70.toInt = 1 ∧ ¬ v70.toInt = 2 ∧ v86.toInt = (s67.1 55 21).toInt)) := h87
        have q91 := h87.1.symm
        subst q91
        have q92 := h87.2
        intro v93 e94
        intro v95 e96
        intro v97 e98
        refine And.intro (Nat.le_of_ble_eq_true rfl) (And.intro ⟨55, v80, v97, rfl, by decide, i68, by omega⟩ ?_)
        intro s100 h99
        have h99 : Iv s100 ∧ Kp s67 s100 ∧ (True) := h99
        have i101 := h99.1
        have k102 : Kp s0 s100 := Kx.tr k69 (h99.2.1)
        refine And.intro (by first | exact Or.inl rfl | exact Or.inr rfl | exact vg_01 (by omega) (by omega)) ?_
        show Iv s100 ∧ Kp s0 s100 ∧ (0 ≤ (Int32.ofInt 1).toInt ∧ (Int32.ofInt 1).toInt ≤ 1)
        exact ⟨i101, k102, (by first | trivial | omega | assumption)⟩
      · have c79 : ¬ (v72.toInt ≤ w64.toInt) := c79
        refine And.intro ⟨by omega, by omega⟩ ?_
        intro v103 e104
        have w105 : v70 = v103 := by rw [e104, e71]
        subst w105
        refine And.intro (Nat.le_of_ble_eq_true rfl) (And.intro ⟨55, v70, w64, rfl, by decide, i68, by omega⟩ ?_)
        intro v106 s108 h107
        have h107 : s108 = s67 ∧ (v106 = vg_tp (s67.1 61) v70 w64.toNatClampNeg) := h107
        have q111 := h107.1.symm
        subst q111
        have q112 := h107.2
        intro v113 e114
        intro v115 e116
        have b117 := vg_add e116 (by omega) (by omega)
        refine And.intro ⟨by omega, by omega⟩ ?_
        intro v118 e119
        intro v120 e121
        intro v122 e123
        intro v124 e125
        have b126 := vg_add e125 (by omega) (by omega)
        exact ⟨rfl, ⟨w60, v122, v124, rfl, (by omega), (by omega), (by omega), (by omega), i68, k69⟩, (by show (0 + (11 - v124.toInt) * 1000000000000).toNat < (0 + (11 - w64.toInt) * 1000000000000).toNat; omega)⟩
def o_X11_goes : List vg_I := [(0, .aload_n 0, 1, 0, 0, 0, 0), (1, .aload_n 0, 1, 0, 0, 0, 0), (2, .iconst 0, 1, 0, 0, 0, 0), (3, .invokevirtual 110, 3, 0, 11, 1, 1202), (6, .invokevirtual 207, 3, 1, 11, 1, 1276), (9, .istore_n 1, 1, 0, 0, 0, 0), (10, .aload_n 0, 1, 0, 0, 0, 0), (11, .getfield 7, 3, 1061, 11, 0, 0), (14, .iconst 0, 1, 0, 0, 0, 0), (15, .dup2, 1, 0, 0, 0, 0), (16, .laload, 1, 0, 0, 0, 0), (17, .lconst 1, 1, 0, 0, 0, 0), (18, .ladd, 1, 0, 0, 0, 0), (19, .lastore, 1, 0, 0, 0, 0), (20, .aload_n 0, 1, 0, 0, 0, 0), (21, .iconst 0, 1, 0, 0, 0, 0), (22, .iload_n 1, 1, 0, 0, 0, 0), (23, .i2l, 1, 0, 0, 0, 0), (24, .invokevirtual 191, 3, 2, 11, 2, 1281), (27, .aload_n 0, 1, 0, 0, 0, 0), (28, .iload_n 1, 1, 0, 0, 0, 0), (29, .aload_n 0, 1, 0, 0, 0, 0), (30, .invokevirtual 210, 3, 3, 11, 0, 1285), (33, .invokevirtual 213, 3, 4, 11, 2, 1293), (36, .istore_n 2, 1, 0, 0, 0, 0), (37, .aload_n 0, 1, 0, 0, 0, 0), (38, .iconst 1, 1, 0, 0, 0, 0), (39, .iload_n 2, 1, 0, 0, 0, 0), (40, .i2l, 1, 0, 0, 0, 0), (41, .invokevirtual 191, 3, 2, 11, 2, 1281), (44, .aload_n 0, 1, 0, 0, 0, 0), (45, .getfield 7, 3, 1061, 11, 0, 0), (48, .iconst 4, 1, 0, 0, 0, 0), (49, .dup2, 1, 0, 0, 0, 0), (50, .laload, 1, 0, 0, 0, 0), (51, .aload_n 0, 1, 0, 0, 0, 0), (52, .getfield 7, 3, 1061, 11, 0, 0), (55, .sipush 144, 3, 0, 0, 0, 0), (58, .laload, 1, 0, 0, 0, 0), (59, .ladd, 1, 0, 0, 0, 0), (60, .lastore, 1, 0, 0, 0, 0), (61, .aload_n 0, 1, 0, 0, 0, 0), (62, .getfield 7, 3, 1061, 11, 0, 0), (65, .bipush 6, 2, 0, 0, 0, 0), (67, .dup2, 1, 0, 0, 0, 0), (68, .laload, 1, 0, 0, 0, 0), (69, .iload_n 1, 1, 0, 0, 0, 0), (70, .i2l, 1, 0, 0, 0, 0), (71, .ladd, 1, 0, 0, 0, 0), (72, .lastore, 1, 0, 0, 0, 0), (73, .aload_n 0, 1, 0, 0, 0, 0), (74, .getfield 7, 3, 1061, 11, 0, 0), (77, .bipush 7, 2, 0, 0, 0, 0), (79, .dup2, 1, 0, 0, 0, 0), (80, .laload, 1, 0, 0, 0, 0), (81, .aload_n 0, 1, 0, 0, 0, 0), (82, .getfield 7, 3, 1061, 11, 0, 0), (85, .iconst 2, 1, 0, 0, 0, 0), (86, .laload, 1, 0, 0, 0, 0), (87, .ladd, 1, 0, 0, 0, 0), (88, .lastore, 1, 0, 0, 0, 0), (89, .aload_n 0, 1, 0, 0, 0, 0), (90, .getfield 7, 3, 1061, 11, 0, 0), (93, .bipush 8, 2, 0, 0, 0, 0), (95, .dup2, 1, 0, 0, 0, 0), (96, .laload, 1, 0, 0, 0, 0), (97, .iload_n 2, 1, 0, 0, 0, 0), (98, .i2l, 1, 0, 0, 0, 0), (99, .ladd, 1, 0, 0, 0, 0), (100, .lastore, 1, 0, 0, 0, 0), (101, .aload_n 0, 1, 0, 0, 0, 0), (102, .getfield 7, 3, 1061, 11, 0, 0), (105, .bipush 9, 2, 0, 0, 0, 0), (107, .aload_n 0, 1, 0, 0, 0, 0), (108, .getfield 7, 3, 1061, 11, 0, 0), (111, .bipush 9, 2, 0, 0, 0, 0), (113, .laload, 1, 0, 0, 0, 0), (114, .aload_n 0, 1, 0, 0, 0, 0), (115, .getfield 7, 3, 1061, 11, 0, 0), (118, .bipush 7, 2, 0, 0, 0, 0), (120, .laload, 1, 0, 0, 0, 0), (121, .aload_n 0, 1, 0, 0, 0, 0), (122, .getfield 7, 3, 1061, 11, 0, 0), (125, .bipush 6, 2, 0, 0, 0, 0), (127, .laload, 1, 0, 0, 0, 0), (128, .lsub, 1, 0, 0, 0, 0), (129, .invokestatic 216, 3, 5, 1, 1, 1326), (132, .invokestatic 176, 3, 6, 1, 2, 1327), (135, .lastore, 1, 0, 0, 0, 0), (136, .aload_n 0, 1, 0, 0, 0, 0), (137, .iload_n 2, 1, 0, 0, 0, 0), (138, .invokevirtual 218, 3, 7, 11, 1, 1328), (141, .istore_n 3, 1, 0, 0, 0, 0), (142, .aload_n 0, 1, 0, 0, 0, 0), (143, .iconst 2, 1, 0, 0, 0, 0), (144, .iload_n 3, 1, 0, 0, 0, 0), (145, .i2l, 1, 0, 0, 0, 0), (146, .invokevirtual 191, 3, 2, 11, 2, 1281), (149, .aload_n 0, 1, 0, 0, 0, 0), (150, .aload_n 0, 1, 0, 0, 0, 0), (151, .getfield 221, 3, 1080, 11, 19, 0), (154, .ifCond .ne 8, 3, 0, 0, 0, 0), (157, .iload_n 2, 1, 0, 0, 0, 0), (158, .i2l, 1, 0, 0, 0, 0), (159, .goto 5, 3, 0, 0, 0, 0), (162, .iload_n 3, 1, 0, 0, 0, 0), (163, .i2l, 1, 0, 0, 0, 0), (164, .invokevirtual 224, 3, 8, 11, 1, 1345), (167, .istore 4, 2, 0, 0, 0, 0), (169, .iconst 0, 1, 0, 0, 0, 0), (170, .istore 5, 2, 0, 0, 0, 0), (172, .iload 5, 2, 0, 0, 0, 0), (174, .aload_n 0, 1, 0, 0, 0, 0), (175, .getfield 228, 3, 1081, 11, 20, 0), (178, .if_icmp .ge 31, 3, 0, 0, 0, 0), (181, .iload 4, 2, 0, 0, 0, 0), (183, .ifCond .eq 26, 3, 0, 0, 0, 0), (186, .aload_n 0, 1, 0, 0, 0, 0), (187, .iload 5, 2, 0, 0, 0, 0), (189, .aload_n 0, 1, 0, 0, 0, 0), (190, .iconst 3, 1, 0, 0, 0, 0), (191, .iload 5, 2, 0, 0, 0, 0), (193, .iadd, 1, 0, 0, 0, 0), (194, .iconst 0, 1, 0, 0, 0, 0), (195, .invokevirtual 231, 3, 9, 11, 2, 1353), (198, .invokevirtual 235, 3, 10, 11, 2, 1357), (201, .istore 4, 2, 0, 0, 0, 0), (203, .iinc 5 1, 3, 0, 0, 0, 0), (206, .goto (-34), 3, 0, 0, 0, 0), (209, .return_, 1, 0, 0, 0, 0)]
set_option maxRecDepth 100000 in
set_option maxHeartbeats 4000000 in
theorem c_X11_goes (l : Launch) (G : vg_G) (hp : vg_Hp G) : vg_Ct l G vg_sh r_X11_goes := by
  refine vg_meth hp vg_sh_ok r_X11_goes k_X11_goes rfl (fun h => by cases h) o_X11_goes [r_X11_get, r_X11_sourceAt, r_X11_tells, r_X11_drawn, r_X11_loops, r_J9_abs_067f4, r_J9_max_f86c9, r_X11_goesElements, r_X11_combs, r_X11_latestOf, r_X11_folds] false (by decide +kernel) (by decide +kernel) ⟨_, _, rfl, rfl⟩ (List.forall_mem_cons.mpr ⟨⟨c_X11_get l G hp, Nat.le_of_ble_eq_true rfl, Nat.le_of_ble_eq_true rfl⟩, List.forall_mem_cons.mpr ⟨⟨c_X11_sourceAt l G hp, Nat.le_of_ble_eq_true rfl, Nat.le_of_ble_eq_true rfl⟩, List.forall_mem_cons.mpr ⟨⟨c_X11_tells l G hp, Nat.le_of_ble_eq_true rfl, Nat.le_of_ble_eq_true rfl⟩, List.forall_mem_cons.mpr ⟨⟨c_X11_drawn l G hp, Nat.le_of_ble_eq_true rfl, Nat.le_of_ble_eq_true rfl⟩, List.forall_mem_cons.mpr ⟨⟨c_X11_loops l G hp, Nat.le_of_ble_eq_true rfl, Nat.le_of_ble_eq_true rfl⟩, List.forall_mem_cons.mpr ⟨⟨c_J9_abs_067f4 l G hp, Nat.le_of_ble_eq_true rfl, Nat.le_of_ble_eq_true rfl⟩, List.forall_mem_cons.mpr ⟨⟨c_J9_max_f86c9 l G hp, Nat.le_of_ble_eq_true rfl, Nat.le_of_ble_eq_true rfl⟩, List.forall_mem_cons.mpr ⟨⟨c_X11_goesElements l G hp, Nat.le_of_ble_eq_true rfl, Nat.le_of_ble_eq_true rfl⟩, List.forall_mem_cons.mpr ⟨⟨c_X11_combs l G hp, Nat.le_of_ble_eq_true rfl, Nat.le_of_ble_eq_true rfl⟩, List.forall_mem_cons.mpr ⟨⟨c_X11_latestOf l G hp, Nat.le_of_ble_eq_true rfl, Nat.le_of_ble_eq_true rfl⟩, List.forall_mem_cons.mpr ⟨⟨c_X11_folds l G hp, Nat.le_of_ble_eq_true rfl, Nat.le_of_ble_eq_true rfl⟩, fun _ h => absurd h List.not_mem_nil⟩⟩⟩⟩⟩⟩⟩⟩⟩⟩⟩) (fun h => by cases h) 600 ?_
  intro as s0 hpre
  obtain ⟨r, rfl, hr, i0, p0⟩ := hpre
  simp only [List.mem_cons, List.not_mem_nil, or_false] at hr
  rcases hr with rfl
  ·
    have z0 : (Int32.ofInt 0).toInt = 0 := by decide
    have z1 : (Int32.ofInt 1).toInt = 1 := by decide
    have z2 : (Int32.ofInt 2).toInt = 2 := by decide
    have z3 : (Int32.ofInt 3).toInt = 3 := by decide
    have z4 : (Int32.ofInt 4).toInt = 4 := by decide
    have z6 : (Int32.ofInt 6).toInt = 6 := by decide
    have z7 : (Int32.ofInt 7).toInt = 7 := by decide
    have z8 : (Int32.ofInt 8).toInt = 8 := by decide
    have z9 : (Int32.ofInt 9).toInt = 9 := by decide
    have z144 : (Int32.ofInt 144).toInt = 144 := by decide
    refine ⟨Nat.le_of_ble_eq_true rfl, [(172, [true, false, false, false, true, true], (fun L t => ∃ (x4 : Int32) (x5 : Int32), L = [some (.ref 55), none, none, none, some (.int x4), some (.int x5)] ∧ (0 : Int) ≤ x5.toInt ∧ x5.toInt ≤ (3 : Int) ∧ ((t.2 56 0).toInt = (s0.2 56 0).toInt + 1) ∧ Iv t ∧ Kg s0 t), (fun L _ => (0 + (3 - (vg_li L 5).toInt) * 1000000000000).toNat))], ?_, List.forall_mem_cons.mpr ⟨?_, fun _ h => absurd h List.not_mem_nil⟩⟩
    ·
      refine And.intro (Nat.le_of_ble_eq_true rfl) (And.intro ⟨55, (Int32.ofInt 0), rfl, by decide, i0, by omega⟩ ?_)
      intro v1 s3 h2
      have h2 : s3 = s0 ∧ (v1 = (s0.2 56 (Int32.ofInt 0).toNatClampNeg).toInt32) := h2
      have q6 := h2.1.symm
      subst q6
      have q7 := h2.2
      have y1 : v1.toInt = (s0.2 56 0).toInt := vg_l2i (x := s0.2 56 0) q7 (by omega) (by omega)
      refine And.intro (Nat.le_of_ble_eq_true rfl) (And.intro ⟨55, v1, rfl, by decide, i0, by omega⟩ ?_)
      intro v8 s10 h9
      have h9 : s10 = s0 ∧ (True) := h9
      have q13 := h9.1.symm
      subst q13
      refine And.intro ⟨by omega, by omega⟩ ?_
      intro v14 e15
      intro v16 e17
      refine And.intro ⟨by omega, by omega⟩ ?_
      intro s18 e19
      have i20 : Iv s18 := Iv.u2 i0 e19
      have k21 : Kg s0 s18 := Kx.u2 Kx.rf e19 rfl
      have y22 : (s18.2 56 0).toInt = (s0.2 56 0).toInt + 1 := vg_clk1 e15 e17 e19 (by decide) (by omega) (by omega)
      intro v23 e24
      refine And.intro (Nat.le_of_ble_eq_true rfl) (And.intro ⟨55, (Int32.ofInt 0), v23, rfl, by decide, i20, by omega⟩ ?_)
      intro s26 h25
      have h25 : Iv s26 ∧ Kp s18 s26 ∧ (True) := h25
      have i27 := h25.1
      have k28 : Kg s0 s26 := Kx.tr k21 ((h25.2.1).pg)
      have y29 : (s26.2 56 0).toInt = (s0.2 56 0).toInt + 1 := by rw [h25.2.1.2 56 0 rfl]; exact y22
      refine And.intro (Nat.le_of_ble_eq_true rfl) (And.intro ⟨55, rfl, by decide, i27⟩ ?_)
      intro v30 s32 h31
      have h31 : Iv s32 ∧ Kp s26 s32 ∧ (True) := h31
      have i33 := h31.1
      have k34 : Kg s0 s32 := Kx.tr k28 ((h31.2.1).pg)
      have y35 : (s32.2 56 0).toInt = (s0.2 56 0).toInt + 1 := by rw [h31.2.1.2 56 0 rfl]; exact y29
      refine And.intro (Nat.le_of_ble_eq_true rfl) (And.intro ⟨55, v8, v30, rfl, by decide, i33⟩ ?_)
      intro v36 s38 h37
      have h37 : Iv s38 ∧ Kp s32 s38 ∧ (True) := h37
      have i39 := h37.1
      have k40 : Kg s0 s38 := Kx.tr k34 ((h37.2.1).pg)
      have y41 : (s38.2 56 0).toInt = (s0.2 56 0).toInt + 1 := by rw [h37.2.1.2 56 0 rfl]; exact y35
      intro v42 e43
      refine And.intro (Nat.le_of_ble_eq_true rfl) (And.intro ⟨55, (Int32.ofInt 1), v42, rfl, by decide, i39, by omega⟩ ?_)
      intro s45 h44
      have h44 : Iv s45 ∧ Kp s38 s45 ∧ (True) := h44
      have i46 := h44.1
      have k47 : Kg s0 s45 := Kx.tr k40 ((h44.2.1).pg)
      have y48 : (s45.2 56 0).toInt = (s0.2 56 0).toInt + 1 := by rw [h44.2.1.2 56 0 rfl]; exact y41
      refine And.intro ⟨by omega, by omega⟩ ?_
      intro v49 e50
      refine And.intro ⟨by omega, by omega⟩ ?_
      intro v51 e52
      intro v53 e54
      refine And.intro ⟨by omega, by omega⟩ ?_
      intro s55 e56
      have i57 : Iv s55 := Iv.u2 i46 e56
      have k58 : Kg s0 s55 := Kx.u2 k47 e56 (vg_kq_pos (by omega)).2.2
      have y59 : (s55.2 56 0).toInt = (s0.2 56 0).toInt + 1 := by rw [e56, vg_u2_at (a := 56) (b := 0) (k := 56) (i := (Int32.ofInt 4).toNatClampNeg) (by first | decide | (have h9 : (Int32.ofInt 4).toNatClampNeg = (Int32.ofInt 4).toInt.toNat := rfl; omega))]; exact y48
      refine And.intro ⟨by omega, by omega⟩ ?_
      intro v60 e61
      intro v62 e63
      intro v64 e65
      refine And.intro ⟨by omega, by omega⟩ ?_
      intro s66 e67
      have i68 : Iv s66 := Iv.u2 i57 e67
      have k69 : Kg s0 s66 := Kx.u2 k58 e67 (vg_kq_pos (by omega)).2.2
      have y70 : (s66.2 56 0).toInt = (s0.2 56 0).toInt + 1 := by rw [e67, vg_u2_at (a := 56) (b := 0) (k := 56) (i := (Int32.ofInt 6).toNatClampNeg) (by first | decide | (have h9 : (Int32.ofInt 6).toNatClampNeg = (Int32.ofInt 6).toInt.toNat := rfl; omega))]; exact y59
      refine And.intro ⟨by omega, by omega⟩ ?_
      intro v71 e72
      refine And.intro ⟨by omega, by omega⟩ ?_
      intro v73 e74
      intro v75 e76
      refine And.intro ⟨by omega, by omega⟩ ?_
      intro s77 e78
      have i79 : Iv s77 := Iv.u2 i68 e78
      have k80 : Kg s0 s77 := Kx.u2 k69 e78 (vg_kq_pos (by omega)).2.2
      have y81 : (s77.2 56 0).toInt = (s0.2 56 0).toInt + 1 := by rw [e78, vg_u2_at (a := 56) (b := 0) (k := 56) (i := (Int32.ofInt 7).toNatClampNeg) (by first | decide | (have h9 : (Int32.ofInt 7).toNatClampNeg = (Int32.ofInt 7).toInt.toNat := rfl; omega))]; exact y70
      refine And.intro ⟨by omega, by omega⟩ ?_
      intro v82 e83
      intro v84 e85
      intro v86 e87
      refine And.intro ⟨by omega, by omega⟩ ?_
      intro s88 e89
      have i90 : Iv s88 := Iv.u2 i79 e89
      have k91 : Kg s0 s88 := Kx.u2 k80 e89 (vg_kq_pos (by omega)).2.2
      have y92 : (s88.2 56 0).toInt = (s0.2 56 0).toInt + 1 := by rw [e89, vg_u2_at (a := 56) (b := 0) (k := 56) (i := (Int32.ofInt 8).toNatClampNeg) (by first | decide | (have h9 : (Int32.ofInt 8).toNatClampNeg = (Int32.ofInt 8).toInt.toNat := rfl; omega))]; exact y81
      refine And.intro ⟨by omega, by omega⟩ ?_
      intro v93 e94
      refine And.intro ⟨by omega, by omega⟩ ?_
      intro v95 e96
      refine And.intro ⟨by omega, by omega⟩ ?_
      intro v97 e98
      intro v99 e100
      refine And.intro (Nat.le_of_ble_eq_true rfl) (And.intro ⟨v99, rfl, trivial⟩ ?_)
      intro v101 s103 h102
      have h102 : s103 = s88 ∧ (True) := h102
      have q106 := h102.1.symm
      subst q106
      refine And.intro (Nat.le_of_ble_eq_true rfl) (And.intro ⟨v93, v101, rfl, trivial⟩ ?_)
      intro v107 s109 h108
      have h108 : s109 = s88 ∧ (True) := h108
      have q112 := h108.1.symm
      subst q112
      refine And.intro ⟨by omega, by omega⟩ ?_
      intro s113 e114
      have i115 : Iv s113 := Iv.u2 i90 e114
      have k116 : Kg s0 s113 := Kx.u2 k91 e114 (vg_kq_pos (by omega)).2.2
      have y117 : (s113.2 56 0).toInt = (s0.2 56 0).toInt + 1 := by rw [e114, vg_u2_at (a := 56) (b := 0) (k := 56) (i := (Int32.ofInt 9).toNatClampNeg) (by first | decide | (have h9 : (Int32.ofInt 9).toNatClampNeg = (Int32.ofInt 9).toInt.toNat := rfl; omega))]; exact y92
      refine And.intro (Nat.le_of_ble_eq_true rfl) (And.intro ⟨55, v36, rfl, by decide, i115⟩ ?_)
      intro v118 s120 h119
      have h119 : Iv s120 ∧ Kp s113 s120 ∧ (True) := h119
      have i121 := h119.1
      have k122 : Kg s0 s120 := Kx.tr k116 ((h119.2.1).pg)
      have y123 : (s120.2 56 0).toInt = (s0.2 56 0).toInt + 1 := by rw [h119.2.1.2 56 0 rfl]; exact y117
      intro v124 e125
      refine And.intro (Nat.le_of_ble_eq_true rfl) (And.intro ⟨55, (Int32.ofInt 2), v124, rfl, by decide, i121, by omega⟩ ?_)
      intro s127 h126
      have h126 : Iv s127 ∧ Kp s120 s127 ∧ (True) := h126
      have i128 := h126.1
      have k129 : Kg s0 s127 := Kx.tr k122 ((h126.2.1).pg)
      have y130 : (s127.2 56 0).toInt = (s0.2 56 0).toInt + 1 := by rw [h126.2.1.2 56 0 rfl]; exact y123
      intro v131 e132
      have g133 : s127.1 55 19 = v131 := by rw [e132]
      refine And.intro (fun c134 => ?_) (fun c134 => ?_)
      · have c134 : ¬ v131.toInt = 0 := c134
        intro v135 e136
        refine And.intro (Nat.le_of_ble_eq_true rfl) (And.intro ⟨55, v135, rfl, by decide, i128⟩ ?_)
        intro v137 s139 h138
        have h138 : Iv s139 ∧ Kp s127 s139 ∧ (0 ≤ v137.toInt ∧ v137.toInt ≤ 1) := h138
        have i140 := h138.1
        have k141 : Kg s0 s139 := Kx.tr k129 ((h138.2.1).pg)
        have q142 := h138.2.2
        have y143 : (s139.2 56 0).toInt = (s0.2 56 0).toInt + 1 := by rw [h138.2.1.2 56 0 rfl]; exact y130
        exact ⟨rfl, ⟨v137, (Int32.ofInt 0), rfl, (by omega), (by omega), y143, i140, k141⟩, trivial⟩
      · have c134 : ¬ (¬ v131.toInt = 0) := c134
        intro v144 e145
        refine And.intro (Nat.le_of_ble_eq_true rfl) (And.intro ⟨55, v144, rfl, by decide, i128⟩ ?_)
        intro v146 s148 h147
        have h147 : Iv s148 ∧ Kp s127 s148 ∧ (0 ≤ v146.toInt ∧ v146.toInt ≤ 1) := h147
        have i149 := h147.1
        have k150 : Kg s0 s148 := Kx.tr k129 ((h147.2.1).pg)
        have q151 := h147.2.2
        have y152 : (s148.2 56 0).toInt = (s0.2 56 0).toInt + 1 := by rw [h147.2.1.2 56 0 rfl]; exact y130
        exact ⟨rfl, ⟨v146, (Int32.ofInt 0), rfl, (by omega), (by omega), y152, i149, k150⟩, trivial⟩
    ·
      intro L s158 hL
      obtain ⟨w153, w154, rfl, b155, b156, y157, i159, k160⟩ := hL
      intro v161 e162
      have g163 : s158.1 55 20 = v161 := by rw [e162]
      have b164 : (0 : Int) ≤ v161.toInt ∧ v161.toInt ≤ 3 := by rw [e162]; exact Iv_55_20 i159
      refine And.intro (fun c165 => ?_) (fun c165 => ?_)
      · have c165 : v161.toInt ≤ w154.toInt := c165
        show Iv s158 ∧ Kg s0 s158 ∧ ((s158.2 56 0).toInt = (s0.2 56 0).toInt + 1)
        exact ⟨i159, k160, (y157)⟩
      · have c165 : ¬ (v161.toInt ≤ w154.toInt) := c165
        refine And.intro (fun c166 => ?_) (fun c166 => ?_)
        · have c166 : w153.toInt = 0 := c166
          show Iv s158 ∧ Kg s0 s158 ∧ ((s158.2 56 0).toInt = (s0.2 56 0).toInt + 1)
          exact ⟨i159, k160, (y157)⟩
        · have c166 : ¬ (w153.toInt = 0) := c166
          intro v167 e168
          have b169 := vg_add e168 (by omega) (by omega)
          refine And.intro (Nat.le_of_ble_eq_true rfl) (And.intro ⟨55, v167, (Int32.ofInt 0), rfl, by decide, i159, by omega⟩ ?_)
          intro v170 s172 h171
          have h171 : s172 = s158 ∧ (True) := h171
          have q175 := h171.1.symm
          subst q175
          refine And.intro (Nat.le_of_ble_eq_true rfl) (And.intro ⟨55, w154, v170, rfl, by decide, i159, by omega⟩ ?_)
          intro v176 s178 h177
          have h177 : Iv s178 ∧ Kp s158 s178 ∧ (0 ≤ v176.toInt ∧ v176.toInt ≤ 1) := h177
          have i179 := h177.1
          have k180 : Kg s0 s178 := Kx.tr k160 ((h177.2.1).pg)
          have q181 := h177.2.2
          have y182 : (s178.2 56 0).toInt = (s0.2 56 0).toInt + 1 := by rw [h177.2.1.2 56 0 rfl]; exact y157
          intro v183 e184
          have b185 := vg_add e184 (by omega) (by omega)
          exact ⟨rfl, ⟨v176, v183, rfl, (by omega), (by omega), y182, i179, k180⟩, (by show (0 + (3 - v183.toInt) * 1000000000000).toNat < (0 + (3 - w154.toInt) * 1000000000000).toNat; omega)⟩
def o_X11_source : List vg_I := [(0, .iload_n 1, 1, 0, 0, 0, 0), (1, .iconst 0, 1, 0, 0, 0, 0), (2, .iconst 3, 1, 0, 0, 0, 0), (3, .invokestatic 76, 3, 0, 1, 3, 1175), (6, .ifCond .eq 29, 3, 0, 0, 0, 0), (9, .iload_n 2, 1, 0, 0, 0, 0), (10, .invokestatic 238, 3, 1, 1, 1, 1178), (13, .ifCond .eq 22, 3, 0, 0, 0, 0), (16, .iload_n 3, 1, 0, 0, 0, 0), (17, .invokestatic 238, 3, 1, 1, 1, 1178), (20, .ifCond .eq 15, 3, 0, 0, 0, 0), (23, .iload 4, 2, 0, 0, 0, 0), (25, .iconst 1, 1, 0, 0, 0, 0), (26, .sipush 1000, 3, 0, 0, 0, 0), (29, .invokestatic 76, 3, 0, 1, 3, 1175), (32, .ifCond .ne 9, 3, 0, 0, 0, 0), (35, .aload_n 0, 1, 0, 0, 0, 0), (36, .iconst 1, 1, 0, 0, 0, 0), (37, .invokevirtual 242, 3, 2, 11, 1, 1181), (40, .ireturn, 1, 0, 0, 0, 0), (41, .aload_n 0, 1, 0, 0, 0, 0), (42, .iload_n 1, 1, 0, 0, 0, 0), (43, .putfield 116, 3, 1064, 11, 3, 0), (46, .aload_n 0, 1, 0, 0, 0, 0), (47, .iload_n 2, 1, 0, 0, 0, 0), (48, .putfield 119, 3, 1065, 11, 4, 0), (51, .aload_n 0, 1, 0, 0, 0, 0), (52, .iload_n 3, 1, 0, 0, 0, 0), (53, .putfield 122, 3, 1066, 11, 5, 0), (56, .aload_n 0, 1, 0, 0, 0, 0), (57, .iload 4, 2, 0, 0, 0, 0), (59, .putfield 16, 3, 1067, 11, 6, 0), (62, .aload_n 0, 1, 0, 0, 0, 0), (63, .iconst 0, 1, 0, 0, 0, 0), (64, .invokevirtual 245, 3, 3, 11, 1, 1185), (67, .aload_n 0, 1, 0, 0, 0, 0), (68, .aload_n 0, 1, 0, 0, 0, 0), (69, .iconst 0, 1, 0, 0, 0, 0), (70, .invokevirtual 110, 3, 4, 11, 1, 1202), (73, .invokevirtual 249, 3, 5, 11, 1, 1206), (76, .ireturn, 1, 0, 0, 0, 0)]
set_option maxRecDepth 100000 in
set_option maxHeartbeats 4000000 in
theorem c_X11_source (l : Launch) (G : vg_G) (hp : vg_Hp G) : vg_Ct l G vg_sh r_X11_source := by
  refine vg_meth hp vg_sh_ok r_X11_source k_X11_source rfl (fun h => by cases h) o_X11_source [r_X11_isFrom, r_X11_isFar, r_X11_refuse, r_X11_begins, r_X11_get, r_X11_gives] false (by decide +kernel) (by decide +kernel) ⟨_, _, rfl, rfl⟩ (List.forall_mem_cons.mpr ⟨⟨c_X11_isFrom l G hp, Nat.le_of_ble_eq_true rfl, Nat.le_of_ble_eq_true rfl⟩, List.forall_mem_cons.mpr ⟨⟨c_X11_isFar l G hp, Nat.le_of_ble_eq_true rfl, Nat.le_of_ble_eq_true rfl⟩, List.forall_mem_cons.mpr ⟨⟨c_X11_refuse l G hp, Nat.le_of_ble_eq_true rfl, Nat.le_of_ble_eq_true rfl⟩, List.forall_mem_cons.mpr ⟨⟨c_X11_begins l G hp, Nat.le_of_ble_eq_true rfl, Nat.le_of_ble_eq_true rfl⟩, List.forall_mem_cons.mpr ⟨⟨c_X11_get l G hp, Nat.le_of_ble_eq_true rfl, Nat.le_of_ble_eq_true rfl⟩, List.forall_mem_cons.mpr ⟨⟨c_X11_gives l G hp, Nat.le_of_ble_eq_true rfl, Nat.le_of_ble_eq_true rfl⟩, fun _ h => absurd h List.not_mem_nil⟩⟩⟩⟩⟩⟩) (fun h => by cases h) 600 ?_
  intro as s0 hpre
  obtain ⟨r, a1, a2, a3, a4, rfl, hr, i0, p0⟩ := hpre
  simp only [List.mem_cons, List.not_mem_nil, or_false] at hr
  rcases hr with rfl
  ·
    have z0 : (Int32.ofInt 0).toInt = 0 := by decide
    have z1 : (Int32.ofInt 1).toInt = 1 := by decide
    have z3 : (Int32.ofInt 3).toInt = 3 := by decide
    have z1000 : (Int32.ofInt 1000).toInt = 1000 := by decide
    refine ⟨Nat.le_of_ble_eq_true rfl, [], ?_, fun _ h => absurd h List.not_mem_nil⟩
    ·
      refine And.intro (Nat.le_of_ble_eq_true rfl) (And.intro ⟨a1, (Int32.ofInt 0), (Int32.ofInt 3), rfl, trivial⟩ ?_)
      intro v1 s3 h2
      have h2 : s3 = s0 ∧ ((v1.toInt = 1 ∧ (Int32.ofInt 0).toInt ≤ a1.toInt ∧ a1.toInt ≤ (Int32.ofInt 3).toInt) ∨ (v1.toInt = 0 ∧ (a1.toInt < (Int32.ofInt 0).toInt ∨ (Int32.ofInt 3).toInt < a1.toInt))) := h2
      have q6 := h2.1.symm
      subst q6
      have q7 := h2.2
      refine And.intro (fun c8 => ?_) (fun c8 => ?_)
      · have c8 : v1.toInt = 0 := c8
        refine And.intro (Nat.le_of_ble_eq_true rfl) (And.intro ⟨55, (Int32.ofInt 1), rfl, by decide, i0⟩ ?_)
        intro v9 s11 h10
        have h10 : Iv s11 ∧ Kp s0 s11 ∧ (v9.toInt = -1) := h10
        have i12 := h10.1
        have k13 : Kp s0 s11 := Kx.tr Kx.rf (h10.2.1)
        have q14 := h10.2.2
        show Iv s11 ∧ Kp s0 s11 ∧ (((0 ≤ a1.toInt ∧ a1.toInt ≤ 3 ∧ -30000 ≤ a2.toInt ∧ a2.toInt ≤ 30000 ∧ -30000 ≤ a3.toInt ∧ a3.toInt ≤ 30000 ∧ 1 ≤ a4.toInt ∧ a4.toInt ≤ 1000) ∧ v9.toInt = (s0.2 56 0).toInt) ∨ (¬ (0 ≤ a1.toInt ∧ a1.toInt ≤ 3 ∧ -30000 ≤ a2.toInt ∧ a2.toInt ≤ 30000 ∧ -30000 ≤ a3.toInt ∧ a3.toInt ≤ 30000 ∧ 1 ≤ a4.toInt ∧ a4.toInt ≤ 1000) ∧ v9.toInt = -1))
        exact ⟨i12, k13, (by have h9 := congrArg Int64.toInt (k13.2 56 0 rfl); have h8 := congrArg Int64.toInt (h10.2.1.2 56 0 rfl); omega)⟩
      · have c8 : ¬ (v1.toInt = 0) := c8
        refine And.intro (Nat.le_of_ble_eq_true rfl) (And.intro ⟨a2, rfl, trivial⟩ ?_)
        intro v15 s17 h16
        have h16 : s17 = s0 ∧ ((v15.toInt = 1 ∧ -30000 ≤ a2.toInt ∧ a2.toInt ≤ 30000) ∨ (v15.toInt = 0 ∧ (a2.toInt < -30000 ∨ 30000 < a2.toInt))) := h16
        have q20 := h16.1.symm
        subst q20
        have q21 := h16.2
        refine And.intro (fun c22 => ?_) (fun c22 => ?_)
        · have c22 : v15.toInt = 0 := c22
          refine And.intro (Nat.le_of_ble_eq_true rfl) (And.intro ⟨55, (Int32.ofInt 1), rfl, by decide, i0⟩ ?_)
          intro v23 s25 h24
          have h24 : Iv s25 ∧ Kp s0 s25 ∧ (v23.toInt = -1) := h24
          have i26 := h24.1
          have k27 : Kp s0 s25 := Kx.tr Kx.rf (h24.2.1)
          have q28 := h24.2.2
          show Iv s25 ∧ Kp s0 s25 ∧ (((0 ≤ a1.toInt ∧ a1.toInt ≤ 3 ∧ -30000 ≤ a2.toInt ∧ a2.toInt ≤ 30000 ∧ -30000 ≤ a3.toInt ∧ a3.toInt ≤ 30000 ∧ 1 ≤ a4.toInt ∧ a4.toInt ≤ 1000) ∧ v23.toInt = (s0.2 56 0).toInt) ∨ (¬ (0 ≤ a1.toInt ∧ a1.toInt ≤ 3 ∧ -30000 ≤ a2.toInt ∧ a2.toInt ≤ 30000 ∧ -30000 ≤ a3.toInt ∧ a3.toInt ≤ 30000 ∧ 1 ≤ a4.toInt ∧ a4.toInt ≤ 1000) ∧ v23.toInt = -1))
          exact ⟨i26, k27, (by have h9 := congrArg Int64.toInt (k27.2 56 0 rfl); have h8 := congrArg Int64.toInt (h24.2.1.2 56 0 rfl); omega)⟩
        · have c22 : ¬ (v15.toInt = 0) := c22
          refine And.intro (Nat.le_of_ble_eq_true rfl) (And.intro ⟨a3, rfl, trivial⟩ ?_)
          intro v29 s31 h30
          have h30 : s31 = s0 ∧ ((v29.toInt = 1 ∧ -30000 ≤ a3.toInt ∧ a3.toInt ≤ 30000) ∨ (v29.toInt = 0 ∧ (a3.toInt < -30000 ∨ 30000 < a3.toInt))) := h30
          have q34 := h30.1.symm
          subst q34
          have q35 := h30.2
          refine And.intro (fun c36 => ?_) (fun c36 => ?_)
          · have c36 : v29.toInt = 0 := c36
            refine And.intro (Nat.le_of_ble_eq_true rfl) (And.intro ⟨55, (Int32.ofInt 1), rfl, by decide, i0⟩ ?_)
            intro v37 s39 h38
            have h38 : Iv s39 ∧ Kp s0 s39 ∧ (v37.toInt = -1) := h38
            have i40 := h38.1
            have k41 : Kp s0 s39 := Kx.tr Kx.rf (h38.2.1)
            have q42 := h38.2.2
            show Iv s39 ∧ Kp s0 s39 ∧ (((0 ≤ a1.toInt ∧ a1.toInt ≤ 3 ∧ -30000 ≤ a2.toInt ∧ a2.toInt ≤ 30000 ∧ -30000 ≤ a3.toInt ∧ a3.toInt ≤ 30000 ∧ 1 ≤ a4.toInt ∧ a4.toInt ≤ 1000) ∧ v37.toInt = (s0.2 56 0).toInt) ∨ (¬ (0 ≤ a1.toInt ∧ a1.toInt ≤ 3 ∧ -30000 ≤ a2.toInt ∧ a2.toInt ≤ 30000 ∧ -30000 ≤ a3.toInt ∧ a3.toInt ≤ 30000 ∧ 1 ≤ a4.toInt ∧ a4.toInt ≤ 1000) ∧ v37.toInt = -1))
            exact ⟨i40, k41, (by have h9 := congrArg Int64.toInt (k41.2 56 0 rfl); have h8 := congrArg Int64.toInt (h38.2.1.2 56 0 rfl); omega)⟩
          · have c36 : ¬ (v29.toInt = 0) := c36
            refine And.intro (Nat.le_of_ble_eq_true rfl) (And.intro ⟨a4, (Int32.ofInt 1), (Int32.ofInt 1000), rfl, trivial⟩ ?_)
            intro v43 s45 h44
            have h44 : s45 = s0 ∧ ((v43.toInt = 1 ∧ (Int32.ofInt 1).toInt ≤ a4.toInt ∧ a4.toInt ≤ (Int32.ofInt 1000).toInt) ∨ (v43.toInt = 0 ∧ (a4.toInt < (Int32.ofInt 1).toInt ∨ (Int32.ofInt 1000).toInt < a4.toInt))) := h44
            have q48 := h44.1.symm
            subst q48
            have q49 := h44.2
            refine And.intro (fun c50 => ?_) (fun c50 => ?_)
            · have c50 : ¬ v43.toInt = 0 := c50
              intro s51 e52
              have i53 : Iv s51 := Iv.u1 i0 e52 rfl
              have k54 : Kp s0 s51 := Kx.u1 Kx.rf e52 rfl
              intro s55 e56
              have i57 : Iv s55 := Iv.u1 i53 e56 rfl
              have k58 : Kp s0 s55 := Kx.u1 k54 e56 rfl
              intro s59 e60
              have i61 : Iv s59 := Iv.u1 i57 e60 rfl
              have k62 : Kp s0 s59 := Kx.u1 k58 e60 rfl
              intro s63 e64
              have i65 : Iv s63 := Iv.c1 (lo := 1) (hi := 1000) i61 e64 rfl (by omega) (by omega)
              have k66 : Kp s0 s63 := Kx.u1 k62 e64 rfl
              refine And.intro (Nat.le_of_ble_eq_true rfl) (And.intro ⟨55, (Int32.ofInt 0), rfl, by decide, i65, by omega⟩ ?_)
              intro s68 h67
              have h67 : Iv s68 ∧ Kp s63 s68 ∧ (True) := h67
              have i69 := h67.1
              have k70 : Kp s0 s68 := Kx.tr k66 (h67.2.1)
              refine And.intro (Nat.le_of_ble_eq_true rfl) (And.intro ⟨55, (Int32.ofInt 0), rfl, by decide, i69, by omega⟩ ?_)
              intro v71 s73 h72
              have h72 : s73 = s68 ∧ (v71 = (s68.2 56 (Int32.ofInt 0).toNatClampNeg).toInt32) := h72
              have q76 := h72.1.symm
              subst q76
              have q77 := h72.2
              have y0 := congrArg Int64.toInt (k70.2 56 0 rfl)
              have y1 : v71.toInt = (s68.2 56 0).toInt := vg_l2i (x := s68.2 56 0) q77 (by omega) (by omega)
              refine And.intro (Nat.le_of_ble_eq_true rfl) (And.intro ⟨55, v71, rfl, by decide, i69⟩ ?_)
              intro v78 s80 h79
              have h79 : Iv s80 ∧ Kp s68 s80 ∧ (v78 = v71 ∧ v78.toInt = v71.toInt) := h79
              have i81 := h79.1
              have k82 : Kp s0 s80 := Kx.tr k70 (h79.2.1)
              have q83 := h79.2.2
              show Iv s80 ∧ Kp s0 s80 ∧ (((0 ≤ a1.toInt ∧ a1.toInt ≤ 3 ∧ -30000 ≤ a2.toInt ∧ a2.toInt ≤ 30000 ∧ -30000 ≤ a3.toInt ∧ a3.toInt ≤ 30000 ∧ 1 ≤ a4.toInt ∧ a4.toInt ≤ 1000) ∧ v78.toInt = (s0.2 56 0).toInt) ∨ (¬ (0 ≤ a1.toInt ∧ a1.toInt ≤ 3 ∧ -30000 ≤ a2.toInt ∧ a2.toInt ≤ 30000 ∧ -30000 ≤ a3.toInt ∧ a3.toInt ≤ 30000 ∧ 1 ≤ a4.toInt ∧ a4.toInt ≤ 1000) ∧ v78.toInt = -1))
              exact ⟨i81, k82, (by have h9 := congrArg Int64.toInt (k82.2 56 0 rfl); have h8 := congrArg Int64.toInt (h79.2.1.2 56 0 rfl); omega)⟩
            · have c50 : ¬ (¬ v43.toInt = 0) := c50
              refine And.intro (Nat.le_of_ble_eq_true rfl) (And.intro ⟨55, (Int32.ofInt 1), rfl, by decide, i0⟩ ?_)
              intro v84 s86 h85
              have h85 : Iv s86 ∧ Kp s0 s86 ∧ (v84.toInt = -1) := h85
              have i87 := h85.1
              have k88 : Kp s0 s86 := Kx.tr Kx.rf (h85.2.1)
              have q89 := h85.2.2
              show Iv s86 ∧ Kp s0 s86 ∧ (((0 ≤ a1.toInt ∧ a1.toInt ≤ 3 ∧ -30000 ≤ a2.toInt ∧ a2.toInt ≤ 30000 ∧ -30000 ≤ a3.toInt ∧ a3.toInt ≤ 30000 ∧ 1 ≤ a4.toInt ∧ a4.toInt ≤ 1000) ∧ v84.toInt = (s0.2 56 0).toInt) ∨ (¬ (0 ≤ a1.toInt ∧ a1.toInt ≤ 3 ∧ -30000 ≤ a2.toInt ∧ a2.toInt ≤ 30000 ∧ -30000 ≤ a3.toInt ∧ a3.toInt ≤ 30000 ∧ 1 ≤ a4.toInt ∧ a4.toInt ≤ 1000) ∧ v84.toInt = -1))
              exact ⟨i87, k88, (by have h9 := congrArg Int64.toInt (k88.2 56 0 rfl); have h8 := congrArg Int64.toInt (h85.2.1.2 56 0 rfl); omega)⟩
def o_X11_anew : List vg_I := [(0, .iload_n 1, 1, 0, 0, 0, 0), (1, .invokestatic 261, 3, 0, 1, 1, 1265), (4, .ifCond .ne 9, 3, 0, 0, 0, 0), (7, .aload_n 0, 1, 0, 0, 0, 0), (8, .iconst 2, 1, 0, 0, 0, 0), (9, .invokevirtual 242, 3, 1, 11, 1, 1181), (12, .ireturn, 1, 0, 0, 0, 0), (13, .aload_n 0, 1, 0, 0, 0, 0), (14, .iload_n 1, 1, 0, 0, 0, 0), (15, .invokevirtual 245, 3, 2, 11, 1, 1185), (18, .aload_n 0, 1, 0, 0, 0, 0), (19, .aload_n 0, 1, 0, 0, 0, 0), (20, .iconst 0, 1, 0, 0, 0, 0), (21, .invokevirtual 110, 3, 3, 11, 1, 1202), (24, .invokevirtual 249, 3, 4, 11, 1, 1206), (27, .ireturn, 1, 0, 0, 0, 0)]
set_option maxRecDepth 100000 in
set_option maxHeartbeats 4000000 in
theorem c_X11_anew (l : Launch) (G : vg_G) (hp : vg_Hp G) : vg_Ct l G vg_sh r_X11_anew := by
  refine vg_meth hp vg_sh_ok r_X11_anew k_X11_anew rfl (fun h => by cases h) o_X11_anew [r_X11_isStage, r_X11_refuse, r_X11_begins, r_X11_get, r_X11_gives] false (by decide +kernel) (by decide +kernel) ⟨_, _, rfl, rfl⟩ (List.forall_mem_cons.mpr ⟨⟨c_X11_isStage l G hp, Nat.le_of_ble_eq_true rfl, Nat.le_of_ble_eq_true rfl⟩, List.forall_mem_cons.mpr ⟨⟨c_X11_refuse l G hp, Nat.le_of_ble_eq_true rfl, Nat.le_of_ble_eq_true rfl⟩, List.forall_mem_cons.mpr ⟨⟨c_X11_begins l G hp, Nat.le_of_ble_eq_true rfl, Nat.le_of_ble_eq_true rfl⟩, List.forall_mem_cons.mpr ⟨⟨c_X11_get l G hp, Nat.le_of_ble_eq_true rfl, Nat.le_of_ble_eq_true rfl⟩, List.forall_mem_cons.mpr ⟨⟨c_X11_gives l G hp, Nat.le_of_ble_eq_true rfl, Nat.le_of_ble_eq_true rfl⟩, fun _ h => absurd h List.not_mem_nil⟩⟩⟩⟩⟩) (fun h => by cases h) 600 ?_
  intro as s0 hpre
  obtain ⟨r, a1, rfl, hr, i0, p0⟩ := hpre
  simp only [List.mem_cons, List.not_mem_nil, or_false] at hr
  rcases hr with rfl
  ·
    have z0 : (Int32.ofInt 0).toInt = 0 := by decide
    have z2 : (Int32.ofInt 2).toInt = 2 := by decide
    refine ⟨Nat.le_of_ble_eq_true rfl, [], ?_, fun _ h => absurd h List.not_mem_nil⟩
    ·
      refine And.intro (Nat.le_of_ble_eq_true rfl) (And.intro ⟨a1, rfl, trivial⟩ ?_)
      intro v1 s3 h2
      have h2 : s3 = s0 ∧ ((v1.toInt = 1 ∧ 0 ≤ a1.toInt ∧ a1.toInt ≤ 6) ∨ (v1.toInt = 0 ∧ (a1.toInt < 0 ∨ 6 < a1.toInt))) := h2
      have q6 := h2.1.symm
      subst q6
      have q7 := h2.2
      refine And.intro (fun c8 => ?_) (fun c8 => ?_)
      · have c8 : ¬ v1.toInt = 0 := c8
        refine And.intro (Nat.le_of_ble_eq_true rfl) (And.intro ⟨55, a1, rfl, by decide, i0, by omega⟩ ?_)
        intro s10 h9
        have h9 : Iv s10 ∧ Kp s0 s10 ∧ (True) := h9
        have i11 := h9.1
        have k12 : Kp s0 s10 := Kx.tr Kx.rf (h9.2.1)
        refine And.intro (Nat.le_of_ble_eq_true rfl) (And.intro ⟨55, (Int32.ofInt 0), rfl, by decide, i11, by omega⟩ ?_)
        intro v13 s15 h14
        have h14 : s15 = s10 ∧ (v13 = (s10.2 56 (Int32.ofInt 0).toNatClampNeg).toInt32) := h14
        have q18 := h14.1.symm
        subst q18
        have q19 := h14.2
        have y0 := congrArg Int64.toInt (k12.2 56 0 rfl)
        have y1 : v13.toInt = (s10.2 56 0).toInt := vg_l2i (x := s10.2 56 0) q19 (by omega) (by omega)
        refine And.intro (Nat.le_of_ble_eq_true rfl) (And.intro ⟨55, v13, rfl, by decide, i11⟩ ?_)
        intro v20 s22 h21
        have h21 : Iv s22 ∧ Kp s10 s22 ∧ (v20 = v13 ∧ v20.toInt = v13.toInt) := h21
        have i23 := h21.1
        have k24 : Kp s0 s22 := Kx.tr k12 (h21.2.1)
        have q25 := h21.2.2
        show Iv s22 ∧ Kp s0 s22 ∧ (((0 ≤ a1.toInt ∧ a1.toInt ≤ 6) ∧ v20.toInt = (s0.2 56 0).toInt) ∨ (¬ (0 ≤ a1.toInt ∧ a1.toInt ≤ 6) ∧ v20.toInt = -1))
        exact ⟨i23, k24, (by have h9 := congrArg Int64.toInt (k24.2 56 0 rfl); have h8 := congrArg Int64.toInt (h21.2.1.2 56 0 rfl); omega)⟩
      · have c8 : ¬ (¬ v1.toInt = 0) := c8
        refine And.intro (Nat.le_of_ble_eq_true rfl) (And.intro ⟨55, (Int32.ofInt 2), rfl, by decide, i0⟩ ?_)
        intro v26 s28 h27
        have h27 : Iv s28 ∧ Kp s0 s28 ∧ (v26.toInt = -1) := h27
        have i29 := h27.1
        have k30 : Kp s0 s28 := Kx.tr Kx.rf (h27.2.1)
        have q31 := h27.2.2
        show Iv s28 ∧ Kp s0 s28 ∧ (((0 ≤ a1.toInt ∧ a1.toInt ≤ 6) ∧ v26.toInt = (s0.2 56 0).toInt) ∨ (¬ (0 ≤ a1.toInt ∧ a1.toInt ≤ 6) ∧ v26.toInt = -1))
        exact ⟨i29, k30, (by have h9 := congrArg Int64.toInt (k30.2 56 0 rfl); have h8 := congrArg Int64.toInt (h27.2.1.2 56 0 rfl); omega)⟩
def o_X11_sample : List vg_I := [(0, .iload_n 1, 1, 0, 0, 0, 0), (1, .iconst 0, 1, 0, 0, 0, 0), (2, .bipush 15, 2, 0, 0, 0, 0), (4, .invokestatic 76, 3, 0, 1, 3, 1175), (7, .ifCond .eq 10, 3, 0, 0, 0, 0), (10, .iload_n 2, 1, 0, 0, 0, 0), (11, .invokestatic 238, 3, 1, 1, 1, 1178), (14, .ifCond .ne 9, 3, 0, 0, 0, 0), (17, .aload_n 0, 1, 0, 0, 0, 0), (18, .iconst 1, 1, 0, 0, 0, 0), (19, .invokevirtual 242, 3, 2, 11, 1, 1181), (22, .ireturn, 1, 0, 0, 0, 0), (23, .aload_n 0, 1, 0, 0, 0, 0), (24, .getfield 42, 3, 1083, 11, 22, 0), (27, .iload_n 1, 1, 0, 0, 0, 0), (28, .iaload, 1, 0, 0, 0, 0), (29, .istore_n 3, 1, 0, 0, 0, 0), (30, .aload_n 0, 1, 0, 0, 0, 0), (31, .getfield 42, 3, 1083, 11, 22, 0), (34, .iload_n 1, 1, 0, 0, 0, 0), (35, .iload_n 2, 1, 0, 0, 0, 0), (36, .iastore, 1, 0, 0, 0, 0), (37, .aload_n 0, 1, 0, 0, 0, 0), (38, .iload_n 3, 1, 0, 0, 0, 0), (39, .invokevirtual 249, 3, 3, 11, 1, 1206), (42, .ireturn, 1, 0, 0, 0, 0)]
set_option maxRecDepth 100000 in
set_option maxHeartbeats 4000000 in
theorem c_X11_sample (l : Launch) (G : vg_G) (hp : vg_Hp G) : vg_Ct l G vg_sh r_X11_sample := by
  refine vg_meth hp vg_sh_ok r_X11_sample k_X11_sample rfl (fun h => by cases h) o_X11_sample [r_X11_isFrom, r_X11_isFar, r_X11_refuse, r_X11_gives] false (by decide +kernel) (by decide +kernel) ⟨_, _, rfl, rfl⟩ (List.forall_mem_cons.mpr ⟨⟨c_X11_isFrom l G hp, Nat.le_of_ble_eq_true rfl, Nat.le_of_ble_eq_true rfl⟩, List.forall_mem_cons.mpr ⟨⟨c_X11_isFar l G hp, Nat.le_of_ble_eq_true rfl, Nat.le_of_ble_eq_true rfl⟩, List.forall_mem_cons.mpr ⟨⟨c_X11_refuse l G hp, Nat.le_of_ble_eq_true rfl, Nat.le_of_ble_eq_true rfl⟩, List.forall_mem_cons.mpr ⟨⟨c_X11_gives l G hp, Nat.le_of_ble_eq_true rfl, Nat.le_of_ble_eq_true rfl⟩, fun _ h => absurd h List.not_mem_nil⟩⟩⟩⟩) (fun h => by cases h) 600 ?_
  intro as s0 hpre
  obtain ⟨r, a1, a2, rfl, hr, i0⟩ := hpre
  simp only [List.mem_cons, List.not_mem_nil, or_false] at hr
  rcases hr with rfl
  ·
    have z0 : (Int32.ofInt 0).toInt = 0 := by decide
    have z1 : (Int32.ofInt 1).toInt = 1 := by decide
    have z15 : (Int32.ofInt 15).toInt = 15 := by decide
    refine ⟨Nat.le_of_ble_eq_true rfl, [], ?_, fun _ h => absurd h List.not_mem_nil⟩
    ·
      refine And.intro (Nat.le_of_ble_eq_true rfl) (And.intro ⟨a1, (Int32.ofInt 0), (Int32.ofInt 15), rfl, trivial⟩ ?_)
      intro v1 s3 h2
      have h2 : s3 = s0 ∧ ((v1.toInt = 1 ∧ (Int32.ofInt 0).toInt ≤ a1.toInt ∧ a1.toInt ≤ (Int32.ofInt 15).toInt) ∨ (v1.toInt = 0 ∧ (a1.toInt < (Int32.ofInt 0).toInt ∨ (Int32.ofInt 15).toInt < a1.toInt))) := h2
      have q6 := h2.1.symm
      subst q6
      have q7 := h2.2
      refine And.intro (fun c8 => ?_) (fun c8 => ?_)
      · have c8 : v1.toInt = 0 := c8
        refine And.intro (Nat.le_of_ble_eq_true rfl) (And.intro ⟨55, (Int32.ofInt 1), rfl, by decide, i0⟩ ?_)
        intro v9 s11 h10
        have h10 : Iv s11 ∧ Kp s0 s11 ∧ (v9.toInt = -1) := h10
        have i12 := h10.1
        have k13 : Kp s0 s11 := Kx.tr Kx.rf (h10.2.1)
        have q14 := h10.2.2
        show Iv s11 ∧ Kp s0 s11 ∧ (True)
        exact ⟨i12, k13, (trivial)⟩
      · have c8 : ¬ (v1.toInt = 0) := c8
        refine And.intro (Nat.le_of_ble_eq_true rfl) (And.intro ⟨a2, rfl, trivial⟩ ?_)
        intro v15 s17 h16
        have h16 : s17 = s0 ∧ ((v15.toInt = 1 ∧ -30000 ≤ a2.toInt ∧ a2.toInt ≤ 30000) ∨ (v15.toInt = 0 ∧ (a2.toInt < -30000 ∨ 30000 < a2.toInt))) := h16
        have q20 := h16.1.symm
        subst q20
        have q21 := h16.2
        refine And.intro (fun c22 => ?_) (fun c22 => ?_)
        · have c22 : ¬ v15.toInt = 0 := c22
          refine And.intro ⟨by omega, by omega⟩ ?_
          intro v23 e24
          refine And.intro ⟨by omega, by omega⟩ ?_
          intro s25 e26
          have i27 : Iv s25 := Iv.a1 i0 e26 rfl
          have k28 : Kp s0 s25 := Kx.u1 Kx.rf e26 rfl
          refine And.intro (Nat.le_of_ble_eq_true rfl) (And.intro ⟨55, v23, rfl, by decide, i27⟩ ?_)
          intro v29 s31 h30
          have h30 : Iv s31 ∧ Kp s25 s31 ∧ (v29 = v23 ∧ v29.toInt = v23.toInt) := h30
          have i32 := h30.1
          have k33 : Kp s0 s31 := Kx.tr k28 (h30.2.1)
          have q34 := h30.2.2
          show Iv s31 ∧ Kp s0 s31 ∧ (True)
          exact ⟨i32, k33, (trivial)⟩
        · have c22 : ¬ (¬ v15.toInt = 0) := c22
          refine And.intro (Nat.le_of_ble_eq_true rfl) (And.intro ⟨55, (Int32.ofInt 1), rfl, by decide, i0⟩ ?_)
          intro v35 s37 h36
          have h36 : Iv s37 ∧ Kp s0 s37 ∧ (v35.toInt = -1) := h36
          have i38 := h36.1
          have k39 : Kp s0 s37 := Kx.tr Kx.rf (h36.2.1)
          have q40 := h36.2.2
          show Iv s37 ∧ Kp s0 s37 ∧ (True)
          exact ⟨i38, k39, (trivial)⟩
def o_X11_told : List vg_I := [(0, .iload_n 1, 1, 0, 0, 0, 0), (1, .invokestatic 261, 3, 0, 1, 1, 1265), (4, .ifCond .eq 18, 3, 0, 0, 0, 0), (7, .aload_n 0, 1, 0, 0, 0, 0), (8, .aload_n 0, 1, 0, 0, 0, 0), (9, .bipush 16, 2, 0, 0, 0, 0), (11, .iload_n 1, 1, 0, 0, 0, 0), (12, .iadd, 1, 0, 0, 0, 0), (13, .invokevirtual 110, 3, 1, 11, 1, 1202), (16, .invokevirtual 249, 3, 2, 11, 1, 1206), (19, .goto 8, 3, 0, 0, 0, 0), (22, .aload_n 0, 1, 0, 0, 0, 0), (23, .iconst 2, 1, 0, 0, 0, 0), (24, .invokevirtual 242, 3, 3, 11, 1, 1181), (27, .ireturn, 1, 0, 0, 0, 0)]
set_option maxRecDepth 100000 in
set_option maxHeartbeats 4000000 in
theorem c_X11_told (l : Launch) (G : vg_G) (hp : vg_Hp G) : vg_Ct l G vg_sh r_X11_told := by
  refine vg_meth hp vg_sh_ok r_X11_told k_X11_told rfl (fun h => by cases h) o_X11_told [r_X11_isStage, r_X11_get, r_X11_gives, r_X11_refuse] false (by decide +kernel) (by decide +kernel) ⟨_, _, rfl, rfl⟩ (List.forall_mem_cons.mpr ⟨⟨c_X11_isStage l G hp, Nat.le_of_ble_eq_true rfl, Nat.le_of_ble_eq_true rfl⟩, List.forall_mem_cons.mpr ⟨⟨c_X11_get l G hp, Nat.le_of_ble_eq_true rfl, Nat.le_of_ble_eq_true rfl⟩, List.forall_mem_cons.mpr ⟨⟨c_X11_gives l G hp, Nat.le_of_ble_eq_true rfl, Nat.le_of_ble_eq_true rfl⟩, List.forall_mem_cons.mpr ⟨⟨c_X11_refuse l G hp, Nat.le_of_ble_eq_true rfl, Nat.le_of_ble_eq_true rfl⟩, fun _ h => absurd h List.not_mem_nil⟩⟩⟩⟩) (fun h => by cases h) 600 ?_
  intro as s0 hpre
  obtain ⟨r, a1, rfl, hr, i0⟩ := hpre
  simp only [List.mem_cons, List.not_mem_nil, or_false] at hr
  rcases hr with rfl
  ·
    have z2 : (Int32.ofInt 2).toInt = 2 := by decide
    have z16 : (Int32.ofInt 16).toInt = 16 := by decide
    refine ⟨Nat.le_of_ble_eq_true rfl, [], ?_, fun _ h => absurd h List.not_mem_nil⟩
    ·
      refine And.intro (Nat.le_of_ble_eq_true rfl) (And.intro ⟨a1, rfl, trivial⟩ ?_)
      intro v1 s3 h2
      have h2 : s3 = s0 ∧ ((v1.toInt = 1 ∧ 0 ≤ a1.toInt ∧ a1.toInt ≤ 6) ∨ (v1.toInt = 0 ∧ (a1.toInt < 0 ∨ 6 < a1.toInt))) := h2
      have q6 := h2.1.symm
      subst q6
      have q7 := h2.2
      refine And.intro (fun c8 => ?_) (fun c8 => ?_)
      · have c8 : v1.toInt = 0 := c8
        refine And.intro (Nat.le_of_ble_eq_true rfl) (And.intro ⟨55, (Int32.ofInt 2), rfl, by decide, i0⟩ ?_)
        intro v9 s11 h10
        have h10 : Iv s11 ∧ Kp s0 s11 ∧ (v9.toInt = -1) := h10
        have i12 := h10.1
        have k13 : Kp s0 s11 := Kx.tr Kx.rf (h10.2.1)
        have q14 := h10.2.2
        show Iv s11 ∧ Kp s0 s11 ∧ (True)
        exact ⟨i12, k13, (trivial)⟩
      · have c8 : ¬ (v1.toInt = 0) := c8
        intro v15 e16
        have b17 := vg_add e16 (by omega) (by omega)
        refine And.intro (Nat.le_of_ble_eq_true rfl) (And.intro ⟨55, v15, rfl, by decide, i0, by omega⟩ ?_)
        intro v18 s20 h19
        have h19 : s20 = s0 ∧ (v18 = (s0.2 56 v15.toNatClampNeg).toInt32) := h19
        have q23 := h19.1.symm
        subst q23
        have q24 := h19.2
        refine And.intro (Nat.le_of_ble_eq_true rfl) (And.intro ⟨55, v18, rfl, by decide, i0⟩ ?_)
        intro v25 s27 h26
        have h26 : Iv s27 ∧ Kp s0 s27 ∧ (v25 = v18 ∧ v25.toInt = v18.toInt) := h26
        have i28 := h26.1
        have k29 : Kp s0 s27 := Kx.tr Kx.rf (h26.2.1)
        have q30 := h26.2.2
        show Iv s27 ∧ Kp s0 s27 ∧ (True)
        exact ⟨i28, k29, (trivial)⟩
def o_X11_latest : List vg_I := [(0, .iload_n 2, 1, 0, 0, 0, 0), (1, .ifCond .ge 9, 3, 0, 0, 0, 0), (4, .aload_n 0, 1, 0, 0, 0, 0), (5, .iconst 1, 1, 0, 0, 0, 0), (6, .invokevirtual 242, 3, 0, 11, 1, 1181), (9, .ireturn, 1, 0, 0, 0, 0), (10, .iload_n 1, 1, 0, 0, 0, 0), (11, .invokestatic 261, 3, 1, 1, 1, 1265), (14, .ifCond .ne 9, 3, 0, 0, 0, 0), (17, .aload_n 0, 1, 0, 0, 0, 0), (18, .iconst 2, 1, 0, 0, 0, 0), (19, .invokevirtual 242, 3, 0, 11, 1, 1181), (22, .ireturn, 1, 0, 0, 0, 0), (23, .iload_n 2, 1, 0, 0, 0, 0), (24, .aload_n 0, 1, 0, 0, 0, 0), (25, .iload_n 1, 1, 0, 0, 0, 0), (26, .invokevirtual 267, 3, 2, 11, 1, 1381), (29, .if_icmp .ge 17, 3, 0, 0, 0, 0), (32, .aload_n 0, 1, 0, 0, 0, 0), (33, .aload_n 0, 1, 0, 0, 0, 0), (34, .iload_n 1, 1, 0, 0, 0, 0), (35, .iload_n 2, 1, 0, 0, 0, 0), (36, .invokevirtual 231, 3, 3, 11, 2, 1353), (39, .l2i, 1, 0, 0, 0, 0), (40, .invokevirtual 249, 3, 4, 11, 1, 1206), (43, .goto 8, 3, 0, 0, 0, 0), (46, .aload_n 0, 1, 0, 0, 0, 0), (47, .iconst 5, 1, 0, 0, 0, 0), (48, .invokevirtual 242, 3, 0, 11, 1, 1181), (51, .ireturn, 1, 0, 0, 0, 0)]
set_option maxRecDepth 100000 in
set_option maxHeartbeats 4000000 in
theorem c_X11_latest (l : Launch) (G : vg_G) (hp : vg_Hp G) : vg_Ct l G vg_sh r_X11_latest := by
  refine vg_meth hp vg_sh_ok r_X11_latest k_X11_latest rfl (fun h => by cases h) o_X11_latest [r_X11_refuse, r_X11_isStage, r_X11_many, r_X11_latestOf, r_X11_gives] false (by decide +kernel) (by decide +kernel) ⟨_, _, rfl, rfl⟩ (List.forall_mem_cons.mpr ⟨⟨c_X11_refuse l G hp, Nat.le_of_ble_eq_true rfl, Nat.le_of_ble_eq_true rfl⟩, List.forall_mem_cons.mpr ⟨⟨c_X11_isStage l G hp, Nat.le_of_ble_eq_true rfl, Nat.le_of_ble_eq_true rfl⟩, List.forall_mem_cons.mpr ⟨⟨c_X11_many l G hp, Nat.le_of_ble_eq_true rfl, Nat.le_of_ble_eq_true rfl⟩, List.forall_mem_cons.mpr ⟨⟨c_X11_latestOf l G hp, Nat.le_of_ble_eq_true rfl, Nat.le_of_ble_eq_true rfl⟩, List.forall_mem_cons.mpr ⟨⟨c_X11_gives l G hp, Nat.le_of_ble_eq_true rfl, Nat.le_of_ble_eq_true rfl⟩, fun _ h => absurd h List.not_mem_nil⟩⟩⟩⟩⟩) (fun h => by cases h) 600 ?_
  intro as s0 hpre
  obtain ⟨r, a1, a2, rfl, hr, i0⟩ := hpre
  simp only [List.mem_cons, List.not_mem_nil, or_false] at hr
  rcases hr with rfl
  ·
    have z1 : (Int32.ofInt 1).toInt = 1 := by decide
    have z2 : (Int32.ofInt 2).toInt = 2 := by decide
    have z5 : (Int32.ofInt 5).toInt = 5 := by decide
    refine ⟨Nat.le_of_ble_eq_true rfl, [], ?_, fun _ h => absurd h List.not_mem_nil⟩
    ·
      refine And.intro (fun c1 => ?_) (fun c1 => ?_)
      · have c1 : 0 ≤ a2.toInt := c1
        refine And.intro (Nat.le_of_ble_eq_true rfl) (And.intro ⟨a1, rfl, trivial⟩ ?_)
        intro v2 s4 h3
        have h3 : s4 = s0 ∧ ((v2.toInt = 1 ∧ 0 ≤ a1.toInt ∧ a1.toInt ≤ 6) ∨ (v2.toInt = 0 ∧ (a1.toInt < 0 ∨ 6 < a1.toInt))) := h3
        have q7 := h3.1.symm
        subst q7
        have q8 := h3.2
        refine And.intro (fun c9 => ?_) (fun c9 => ?_)
        · have c9 : ¬ v2.toInt = 0 := c9
          refine And.intro (Nat.le_of_ble_eq_true rfl) (And.intro ⟨55, a1, rfl, by decide, i0, by omega⟩ ?_)
          intro v10 s12 h11
          have h11 : s12 = s0 ∧ (v10.toInt ≤ 48) := h11
          have q15 := h11.1.symm
          subst q15
          have q16 := h11.2
          refine And.intro (fun c17 => ?_) (fun c17 => ?_)
          · have c17 : v10.toInt ≤ a2.toInt := c17
            refine And.intro (Nat.le_of_ble_eq_true rfl) (And.intro ⟨55, (Int32.ofInt 5), rfl, by decide, i0⟩ ?_)
            intro v18 s20 h19
            have h19 : Iv s20 ∧ Kp s0 s20 ∧ (v18.toInt = -1) := h19
            have i21 := h19.1
            have k22 : Kp s0 s20 := Kx.tr Kx.rf (h19.2.1)
            have q23 := h19.2.2
            show Iv s20 ∧ Kp s0 s20 ∧ (True)
            exact ⟨i21, k22, (trivial)⟩
          · have c17 : ¬ (v10.toInt ≤ a2.toInt) := c17
            refine And.intro (Nat.le_of_ble_eq_true rfl) (And.intro ⟨55, a1, a2, rfl, by decide, i0, by omega⟩ ?_)
            intro v24 s26 h25
            have h25 : s26 = s0 ∧ (True) := h25
            have q29 := h25.1.symm
            subst q29
            intro v30 e31
            refine And.intro (Nat.le_of_ble_eq_true rfl) (And.intro ⟨55, v30, rfl, by decide, i0⟩ ?_)
            intro v32 s34 h33
            have h33 : Iv s34 ∧ Kp s0 s34 ∧ (v32 = v30 ∧ v32.toInt = v30.toInt) := h33
            have i35 := h33.1
            have k36 : Kp s0 s34 := Kx.tr Kx.rf (h33.2.1)
            have q37 := h33.2.2
            show Iv s34 ∧ Kp s0 s34 ∧ (True)
            exact ⟨i35, k36, (trivial)⟩
        · have c9 : ¬ (¬ v2.toInt = 0) := c9
          refine And.intro (Nat.le_of_ble_eq_true rfl) (And.intro ⟨55, (Int32.ofInt 2), rfl, by decide, i0⟩ ?_)
          intro v38 s40 h39
          have h39 : Iv s40 ∧ Kp s0 s40 ∧ (v38.toInt = -1) := h39
          have i41 := h39.1
          have k42 : Kp s0 s40 := Kx.tr Kx.rf (h39.2.1)
          have q43 := h39.2.2
          show Iv s40 ∧ Kp s0 s40 ∧ (True)
          exact ⟨i41, k42, (trivial)⟩
      · have c1 : ¬ (0 ≤ a2.toInt) := c1
        refine And.intro (Nat.le_of_ble_eq_true rfl) (And.intro ⟨55, (Int32.ofInt 1), rfl, by decide, i0⟩ ?_)
        intro v44 s46 h45
        have h45 : Iv s46 ∧ Kp s0 s46 ∧ (v44.toInt = -1) := h45
        have i47 := h45.1
        have k48 : Kp s0 s46 := Kx.tr Kx.rf (h45.2.1)
        have q49 := h45.2.2
        show Iv s46 ∧ Kp s0 s46 ∧ (True)
        exact ⟨i47, k48, (trivial)⟩
def o_X11_state : List vg_I := [(0, .iload_n 1, 1, 0, 0, 0, 0), (1, .iconst 0, 1, 0, 0, 0, 0), (2, .bipush 13, 2, 0, 0, 0, 0), (4, .invokestatic 76, 3, 0, 1, 3, 1175), (7, .ifCond .ne 9, 3, 0, 0, 0, 0), (10, .aload_n 0, 1, 0, 0, 0, 0), (11, .iconst 1, 1, 0, 0, 0, 0), (12, .invokevirtual 242, 3, 1, 11, 1, 1181), (15, .ireturn, 1, 0, 0, 0, 0), (16, .iload_n 1, 1, 0, 0, 0, 0), (17, .iconst 4, 1, 0, 0, 0, 0), (18, .if_icmp .ge 28, 3, 0, 0, 0, 0), (21, .aload_n 0, 1, 0, 0, 0, 0), (22, .iload_n 1, 1, 0, 0, 0, 0), (23, .aload_n 0, 1, 0, 0, 0, 0), (24, .getfield 20, 3, 1069, 11, 8, 0), (27, .if_icmp .ge 14, 3, 0, 0, 0, 0), (30, .aload_n 0, 1, 0, 0, 0, 0), (31, .bipush 23, 2, 0, 0, 0, 0), (33, .iload_n 1, 1, 0, 0, 0, 0), (34, .iadd, 1, 0, 0, 0, 0), (35, .invokevirtual 110, 3, 2, 11, 1, 1202), (38, .goto 4, 3, 0, 0, 0, 0), (41, .iconst 0, 1, 0, 0, 0, 0), (42, .invokevirtual 249, 3, 3, 11, 1, 1206), (45, .ireturn, 1, 0, 0, 0, 0), (46, .iload_n 1, 1, 0, 0, 0, 0), (47, .tableswitch 137 4 12 #[49, 59, 69, 80, 90, 100, 109, 118, 128], 49, 0, 0, 0, 0), (96, .aload_n 0, 1, 0, 0, 0, 0), (97, .aload_n 0, 1, 0, 0, 0, 0), (98, .iconst 2, 1, 0, 0, 0, 0), (99, .invokevirtual 110, 3, 2, 11, 1, 1202), (102, .invokevirtual 249, 3, 3, 11, 1, 1206), (105, .ireturn, 1, 0, 0, 0, 0), (106, .aload_n 0, 1, 0, 0, 0, 0), (107, .aload_n 0, 1, 0, 0, 0, 0), (108, .iconst 1, 1, 0, 0, 0, 0), (109, .invokevirtual 110, 3, 2, 11, 1, 1202), (112, .invokevirtual 249, 3, 3, 11, 1, 1206), (115, .ireturn, 1, 0, 0, 0, 0), (116, .aload_n 0, 1, 0, 0, 0, 0), (117, .aload_n 0, 1, 0, 0, 0, 0), (118, .bipush 10, 2, 0, 0, 0, 0), (120, .invokevirtual 110, 3, 2, 11, 1, 1202), (123, .invokevirtual 249, 3, 3, 11, 1, 1206), (126, .ireturn, 1, 0, 0, 0, 0), (127, .aload_n 0, 1, 0, 0, 0, 0), (128, .aload_n 0, 1, 0, 0, 0, 0), (129, .iconst 3, 1, 0, 0, 0, 0), (130, .invokevirtual 110, 3, 2, 11, 1, 1202), (133, .invokevirtual 249, 3, 3, 11, 1, 1206), (136, .ireturn, 1, 0, 0, 0, 0), (137, .aload_n 0, 1, 0, 0, 0, 0), (138, .aload_n 0, 1, 0, 0, 0, 0), (139, .iconst 4, 1, 0, 0, 0, 0), (140, .invokevirtual 110, 3, 2, 11, 1, 1202), (143, .invokevirtual 249, 3, 3, 11, 1, 1206), (146, .ireturn, 1, 0, 0, 0, 0), (147, .aload_n 0, 1, 0, 0, 0, 0), (148, .aload_n 0, 1, 0, 0, 0, 0), (149, .invokevirtual 102, 3, 4, 11, 0, 1218), (152, .invokevirtual 249, 3, 3, 11, 1, 1206), (155, .ireturn, 1, 0, 0, 0, 0), (156, .aload_n 0, 1, 0, 0, 0, 0), (157, .aload_n 0, 1, 0, 0, 0, 0), (158, .getfield 164, 3, 1076, 11, 15, 0), (161, .invokevirtual 249, 3, 3, 11, 1, 1206), (164, .ireturn, 1, 0, 0, 0, 0), (165, .aload_n 0, 1, 0, 0, 0, 0), (166, .aload_n 0, 1, 0, 0, 0, 0), (167, .iconst 0, 1, 0, 0, 0, 0), (168, .invokevirtual 110, 3, 2, 11, 1, 1202), (171, .invokevirtual 249, 3, 3, 11, 1, 1206), (174, .ireturn, 1, 0, 0, 0, 0), (175, .aload_n 0, 1, 0, 0, 0, 0), (176, .aload_n 0, 1, 0, 0, 0, 0), (177, .getfield 228, 3, 1081, 11, 20, 0), (180, .invokevirtual 249, 3, 3, 11, 1, 1206), (183, .ireturn, 1, 0, 0, 0, 0), (184, .aload_n 0, 1, 0, 0, 0, 0), (185, .aload_n 0, 1, 0, 0, 0, 0), (186, .getfield 252, 3, 1094, 11, 33, 0), (189, .invokevirtual 249, 3, 3, 11, 1, 1206), (192, .ireturn, 1, 0, 0, 0, 0)]
set_option maxRecDepth 100000 in
set_option maxHeartbeats 4000000 in
theorem c_X11_state (l : Launch) (G : vg_G) (hp : vg_Hp G) : vg_Ct l G vg_sh r_X11_state := by
  refine vg_meth hp vg_sh_ok r_X11_state k_X11_state rfl (fun h => by cases h) o_X11_state [r_X11_isFrom, r_X11_refuse, r_X11_get, r_X11_gives, r_X11_elements] false (by decide +kernel) (by decide +kernel) ⟨_, _, rfl, rfl⟩ (List.forall_mem_cons.mpr ⟨⟨c_X11_isFrom l G hp, Nat.le_of_ble_eq_true rfl, Nat.le_of_ble_eq_true rfl⟩, List.forall_mem_cons.mpr ⟨⟨c_X11_refuse l G hp, Nat.le_of_ble_eq_true rfl, Nat.le_of_ble_eq_true rfl⟩, List.forall_mem_cons.mpr ⟨⟨c_X11_get l G hp, Nat.le_of_ble_eq_true rfl, Nat.le_of_ble_eq_true rfl⟩, List.forall_mem_cons.mpr ⟨⟨c_X11_gives l G hp, Nat.le_of_ble_eq_true rfl, Nat.le_of_ble_eq_true rfl⟩, List.forall_mem_cons.mpr ⟨⟨c_X11_elements l G hp, Nat.le_of_ble_eq_true rfl, Nat.le_of_ble_eq_true rfl⟩, fun _ h => absurd h List.not_mem_nil⟩⟩⟩⟩⟩) (fun h => by cases h) 600 ?_
  intro as s0 hpre
  obtain ⟨r, a1, rfl, hr, i0⟩ := hpre
  simp only [List.mem_cons, List.not_mem_nil, or_false] at hr
  rcases hr with rfl
  ·
    have z0 : (Int32.ofInt 0).toInt = 0 := by decide
    have z1 : (Int32.ofInt 1).toInt = 1 := by decide
    have z2 : (Int32.ofInt 2).toInt = 2 := by decide
    have z3 : (Int32.ofInt 3).toInt = 3 := by decide
    have z4 : (Int32.ofInt 4).toInt = 4 := by decide
    have z10 : (Int32.ofInt 10).toInt = 10 := by decide
    have z13 : (Int32.ofInt 13).toInt = 13 := by decide
    have z23 : (Int32.ofInt 23).toInt = 23 := by decide
    refine ⟨Nat.le_of_ble_eq_true rfl, [], ?_, fun _ h => absurd h List.not_mem_nil⟩
    ·
      refine And.intro (Nat.le_of_ble_eq_true rfl) (And.intro ⟨a1, (Int32.ofInt 0), (Int32.ofInt 13), rfl, trivial⟩ ?_)
      intro v1 s3 h2
      have h2 : s3 = s0 ∧ ((v1.toInt = 1 ∧ (Int32.ofInt 0).toInt ≤ a1.toInt ∧ a1.toInt ≤ (Int32.ofInt 13).toInt) ∨ (v1.toInt = 0 ∧ (a1.toInt < (Int32.ofInt 0).toInt ∨ (Int32.ofInt 13).toInt < a1.toInt))) := h2
      have q6 := h2.1.symm
      subst q6
      have q7 := h2.2
      refine And.intro (fun c8 => ?_) (fun c8 => ?_)
      · have c8 : ¬ v1.toInt = 0 := c8
        refine And.intro (fun c9 => ?_) (fun c9 => ?_)
        · have c9 : (Int32.ofInt 4).toInt ≤ a1.toInt := c9
          refine And.intro (fun c10 => ?_) ?_
          · have c10 : a1.toInt < (4) ∨ (12) < a1.toInt := c10
            intro v11 e12
            have g13 : s0.1 55 33 = v11 := by rw [e12]
            have b14 : (0 : Int) ≤ v11.toInt ∧ v11.toInt ≤ 12 := by rw [e12]; exact Iv_55_33 i0
            refine And.intro (Nat.le_of_ble_eq_true rfl) (And.intro ⟨55, v11, rfl, by decide, i0⟩ ?_)
            intro v15 s17 h16
            have h16 : Iv s17 ∧ Kp s0 s17 ∧ (v15 = v11 ∧ v15.toInt = v11.toInt) := h16
            have i18 := h16.1
            have k19 : Kp s0 s17 := Kx.tr Kx.rf (h16.2.1)
            have q20 := h16.2.2
            show Iv s17 ∧ Kp s0 s17 ∧ (True)
            exact ⟨i18, k19, (trivial)⟩
          refine And.intro (fun c21 => ?_) ?_
          · have c21 : a1.toInt = (4) := c21
            refine And.intro (Nat.le_of_ble_eq_true rfl) (And.intro ⟨55, (Int32.ofInt 2), rfl, by decide, i0, by omega⟩ ?_)
            intro v22 s24 h23
            have h23 : s24 = s0 ∧ (v22 = (s0.2 56 (Int32.ofInt 2).toNatClampNeg).toInt32) := h23
            have q27 := h23.1.symm
            subst q27
            have q28 := h23.2
            refine And.intro (Nat.le_of_ble_eq_true rfl) (And.intro ⟨55, v22, rfl, by decide, i0⟩ ?_)
            intro v29 s31 h30
            have h30 : Iv s31 ∧ Kp s0 s31 ∧ (v29 = v22 ∧ v29.toInt = v22.toInt) := h30
            have i32 := h30.1
            have k33 : Kp s0 s31 := Kx.tr Kx.rf (h30.2.1)
            have q34 := h30.2.2
            show Iv s31 ∧ Kp s0 s31 ∧ (True)
            exact ⟨i32, k33, (trivial)⟩
          refine And.intro (fun c35 => ?_) ?_
          · have c35 : a1.toInt = (5) := c35
            refine And.intro (Nat.le_of_ble_eq_true rfl) (And.intro ⟨55, (Int32.ofInt 1), rfl, by decide, i0, by omega⟩ ?_)
            intro v36 s38 h37
            have h37 : s38 = s0 ∧ (v36 = (s0.2 56 (Int32.ofInt 1).toNatClampNeg).toInt32) := h37
            have q41 := h37.1.symm
            subst q41
            have q42 := h37.2
            refine And.intro (Nat.le_of_ble_eq_true rfl) (And.intro ⟨55, v36, rfl, by decide, i0⟩ ?_)
            intro v43 s45 h44
            have h44 : Iv s45 ∧ Kp s0 s45 ∧ (v43 = v36 ∧ v43.toInt = v36.toInt) := h44
            have i46 := h44.1
            have k47 : Kp s0 s45 := Kx.tr Kx.rf (h44.2.1)
            have q48 := h44.2.2
            show Iv s45 ∧ Kp s0 s45 ∧ (True)
            exact ⟨i46, k47, (trivial)⟩
          refine And.intro (fun c49 => ?_) ?_
          · have c49 : a1.toInt = (6) := c49
            refine And.intro (Nat.le_of_ble_eq_true rfl) (And.intro ⟨55, (Int32.ofInt 10), rfl, by decide, i0, by omega⟩ ?_)
            intro v50 s52 h51
            have h51 : s52 = s0 ∧ (v50 = (s0.2 56 (Int32.ofInt 10).toNatClampNeg).toInt32) := h51
            have q55 := h51.1.symm
            subst q55
            have q56 := h51.2
            refine And.intro (Nat.le_of_ble_eq_true rfl) (And.intro ⟨55, v50, rfl, by decide, i0⟩ ?_)
            intro v57 s59 h58
            have h58 : Iv s59 ∧ Kp s0 s59 ∧ (v57 = v50 ∧ v57.toInt = v50.toInt) := h58
            have i60 := h58.1
            have k61 : Kp s0 s59 := Kx.tr Kx.rf (h58.2.1)
            have q62 := h58.2.2
            show Iv s59 ∧ Kp s0 s59 ∧ (True)
            exact ⟨i60, k61, (trivial)⟩
          refine And.intro (fun c63 => ?_) ?_
          · have c63 : a1.toInt = (7) := c63
            refine And.intro (Nat.le_of_ble_eq_true rfl) (And.intro ⟨55, (Int32.ofInt 3), rfl, by decide, i0, by omega⟩ ?_)
            intro v64 s66 h65
            have h65 : s66 = s0 ∧ (v64 = (s0.2 56 (Int32.ofInt 3).toNatClampNeg).toInt32) := h65
            have q69 := h65.1.symm
            subst q69
            have q70 := h65.2
            refine And.intro (Nat.le_of_ble_eq_true rfl) (And.intro ⟨55, v64, rfl, by decide, i0⟩ ?_)
            intro v71 s73 h72
            have h72 : Iv s73 ∧ Kp s0 s73 ∧ (v71 = v64 ∧ v71.toInt = v64.toInt) := h72
            have i74 := h72.1
            have k75 : Kp s0 s73 := Kx.tr Kx.rf (h72.2.1)
            have q76 := h72.2.2
            show Iv s73 ∧ Kp s0 s73 ∧ (True)
            exact ⟨i74, k75, (trivial)⟩
          refine And.intro (fun c77 => ?_) ?_
          · have c77 : a1.toInt = (8) := c77
            refine And.intro (Nat.le_of_ble_eq_true rfl) (And.intro ⟨55, (Int32.ofInt 4), rfl, by decide, i0, by omega⟩ ?_)
            intro v78 s80 h79
            have h79 : s80 = s0 ∧ (v78 = (s0.2 56 (Int32.ofInt 4).toNatClampNeg).toInt32) := h79
            have q83 := h79.1.symm
            subst q83
            have q84 := h79.2
            refine And.intro (Nat.le_of_ble_eq_true rfl) (And.intro ⟨55, v78, rfl, by decide, i0⟩ ?_)
            intro v85 s87 h86
            have h86 : Iv s87 ∧ Kp s0 s87 ∧ (v85 = v78 ∧ v85.toInt = v78.toInt) := h86
            have i88 := h86.1
            have k89 : Kp s0 s87 := Kx.tr Kx.rf (h86.2.1)
            have q90 := h86.2.2
            show Iv s87 ∧ Kp s0 s87 ∧ (True)
            exact ⟨i88, k89, (trivial)⟩
          refine And.intro (fun c91 => ?_) ?_
          · have c91 : a1.toInt = (9) := c91
            refine And.intro (Nat.le_of_ble_eq_true rfl) (And.intro ⟨55, rfl, by decide, i0⟩ ?_)
            intro v92 s94 h93
            have h93 : s94 = s0 ∧ (v92 = vg_me s0 ∧ 1 ≤ v92.toInt ∧ v92.toInt ≤ 16) := h93
            have q97 := h93.1.symm
            subst q97
            have q98 := h93.2
            refine And.intro (Nat.le_of_ble_eq_true rfl) (And.intro ⟨55, v92, rfl, by decide, i0⟩ ?_)
            intro v99 s101 h100
            have h100 : Iv s101 ∧ Kp s0 s101 ∧ (v99 = v92 ∧ v99.toInt = v92.toInt) := h100
            have i102 := h100.1
            have k103 : Kp s0 s101 := Kx.tr Kx.rf (h100.2.1)
            have q104 := h100.2.2
            show Iv s101 ∧ Kp s0 s101 ∧ (True)
            exact ⟨i102, k103, (trivial)⟩
          refine And.intro (fun c105 => ?_) ?_
          · have c105 : a1.toInt = (10) := c105
            intro v106 e107
            have g108 : s0.1 55 15 = v106 := by rw [e107]
            refine And.intro (Nat.le_of_ble_eq_true rfl) (And.intro ⟨55, v106, rfl, by decide, i0⟩ ?_)
            intro v109 s111 h110
            have h110 : Iv s111 ∧ Kp s0 s111 ∧ (v109 = v106 ∧ v109.toInt = v106.toInt) := h110
            have i112 := h110.1
            have k113 : Kp s0 s111 := Kx.tr Kx.rf (h110.2.1)
            have q114 := h110.2.2
            show Iv s111 ∧ Kp s0 s111 ∧ (True)
            exact ⟨i112, k113, (trivial)⟩
          refine And.intro (fun c115 => ?_) ?_
          · have c115 : a1.toInt = (11) := c115
            refine And.intro (Nat.le_of_ble_eq_true rfl) (And.intro ⟨55, (Int32.ofInt 0), rfl, by decide, i0, by omega⟩ ?_)
            intro v116 s118 h117
            have h117 : s118 = s0 ∧ (v116 = (s0.2 56 (Int32.ofInt 0).toNatClampNeg).toInt32) := h117
            have q121 := h117.1.symm
            subst q121
            have q122 := h117.2
            refine And.intro (Nat.le_of_ble_eq_true rfl) (And.intro ⟨55, v116, rfl, by decide, i0⟩ ?_)
            intro v123 s125 h124
            have h124 : Iv s125 ∧ Kp s0 s125 ∧ (v123 = v116 ∧ v123.toInt = v116.toInt) := h124
            have i126 := h124.1
            have k127 : Kp s0 s125 := Kx.tr Kx.rf (h124.2.1)
            have q128 := h124.2.2
            show Iv s125 ∧ Kp s0 s125 ∧ (True)
            exact ⟨i126, k127, (trivial)⟩
          refine And.intro (fun c129 => ?_) ?_
          · have c129 : a1.toInt = (12) := c129
            intro v130 e131
            have g132 : s0.1 55 20 = v130 := by rw [e131]
            have b133 : (0 : Int) ≤ v130.toInt ∧ v130.toInt ≤ 3 := by rw [e131]; exact Iv_55_20 i0
            refine And.intro (Nat.le_of_ble_eq_true rfl) (And.intro ⟨55, v130, rfl, by decide, i0⟩ ?_)
            intro v134 s136 h135
            have h135 : Iv s136 ∧ Kp s0 s136 ∧ (v134 = v130 ∧ v134.toInt = v130.toInt) := h135
            have i137 := h135.1
            have k138 : Kp s0 s136 := Kx.tr Kx.rf (h135.2.1)
            have q139 := h135.2.2
            show Iv s136 ∧ Kp s0 s136 ∧ (True)
            exact ⟨i137, k138, (trivial)⟩
          exact trivial
        · have c9 : ¬ ((Int32.ofInt 4).toInt ≤ a1.toInt) := c9
          intro v140 e141
          have g142 : s0.1 55 8 = v140 := by rw [e141]
          have b143 : (1 : Int) ≤ v140.toInt ∧ v140.toInt ≤ 4 := by rw [e141]; exact Iv_55_8 i0
          refine And.intro (fun c144 => ?_) (fun c144 => ?_)
          · have c144 : v140.toInt ≤ a1.toInt := c144
            refine And.intro (Nat.le_of_ble_eq_true rfl) (And.intro ⟨55, (Int32.ofInt 0), rfl, by decide, i0⟩ ?_)
            intro v145 s147 h146
            have h146 : Iv s147 ∧ Kp s0 s147 ∧ (v145 = (Int32.ofInt 0) ∧ v145.toInt = (Int32.ofInt 0).toInt) := h146
            have i148 := h146.1
            have k149 : Kp s0 s147 := Kx.tr Kx.rf (h146.2.1)
            have q150 := h146.2.2
            show Iv s147 ∧ Kp s0 s147 ∧ (True)
            exact ⟨i148, k149, (trivial)⟩
          · have c144 : ¬ (v140.toInt ≤ a1.toInt) := c144
            intro v151 e152
            have b153 := vg_add e152 (by omega) (by omega)
            refine And.intro (Nat.le_of_ble_eq_true rfl) (And.intro ⟨55, v151, rfl, by decide, i0, by omega⟩ ?_)
            intro v154 s156 h155
            have h155 : s156 = s0 ∧ (v154 = (s0.2 56 v151.toNatClampNeg).toInt32) := h155
            have q159 := h155.1.symm
            subst q159
            have q160 := h155.2
            refine And.intro (Nat.le_of_ble_eq_true rfl) (And.intro ⟨55, v154, rfl, by decide, i0⟩ ?_)
            intro v161 s163 h162
            have h162 : Iv s163 ∧ Kp s0 s163 ∧ (v161 = v154 ∧ v161.toInt = v154.toInt) := h162
            have i164 := h162.1
            have k165 : Kp s0 s163 := Kx.tr Kx.rf (h162.2.1)
            have q166 := h162.2.2
            show Iv s163 ∧ Kp s0 s163 ∧ (True)
            exact ⟨i164, k165, (trivial)⟩
      · have c8 : ¬ (¬ v1.toInt = 0) := c8
        refine And.intro (Nat.le_of_ble_eq_true rfl) (And.intro ⟨55, (Int32.ofInt 1), rfl, by decide, i0⟩ ?_)
        intro v167 s169 h168
        have h168 : Iv s169 ∧ Kp s0 s169 ∧ (v167.toInt = -1) := h168
        have i170 := h168.1
        have k171 : Kp s0 s169 := Kx.tr Kx.rf (h168.2.1)
        have q172 := h168.2.2
        show Iv s169 ∧ Kp s0 s169 ∧ (True)
        exact ⟨i170, k171, (trivial)⟩
def o_X11_sum : List vg_I := [(0, .iload_n 1, 1, 0, 0, 0, 0), (1, .tableswitch 110 0 5 #[39, 51, 63, 75, 86, 98], 39, 0, 0, 0, 0), (40, .aload_n 0, 1, 0, 0, 0, 0), (41, .aload_n 0, 1, 0, 0, 0, 0), (42, .getfield 7, 3, 1061, 11, 0, 0), (45, .bipush 6, 2, 0, 0, 0, 0), (47, .laload, 1, 0, 0, 0, 0), (48, .invokevirtual 270, 3, 0, 11, 1, 1393), (51, .lreturn, 1, 0, 0, 0, 0), (52, .aload_n 0, 1, 0, 0, 0, 0), (53, .aload_n 0, 1, 0, 0, 0, 0), (54, .getfield 7, 3, 1061, 11, 0, 0), (57, .bipush 7, 2, 0, 0, 0, 0), (59, .laload, 1, 0, 0, 0, 0), (60, .invokevirtual 270, 3, 0, 11, 1, 1393), (63, .lreturn, 1, 0, 0, 0, 0), (64, .aload_n 0, 1, 0, 0, 0, 0), (65, .aload_n 0, 1, 0, 0, 0, 0), (66, .getfield 7, 3, 1061, 11, 0, 0), (69, .bipush 8, 2, 0, 0, 0, 0), (71, .laload, 1, 0, 0, 0, 0), (72, .invokevirtual 270, 3, 0, 11, 1, 1393), (75, .lreturn, 1, 0, 0, 0, 0), (76, .aload_n 0, 1, 0, 0, 0, 0), (77, .aload_n 0, 1, 0, 0, 0, 0), (78, .getfield 7, 3, 1061, 11, 0, 0), (81, .iconst 5, 1, 0, 0, 0, 0), (82, .laload, 1, 0, 0, 0, 0), (83, .invokevirtual 270, 3, 0, 11, 1, 1393), (86, .lreturn, 1, 0, 0, 0, 0), (87, .aload_n 0, 1, 0, 0, 0, 0), (88, .aload_n 0, 1, 0, 0, 0, 0), (89, .getfield 7, 3, 1061, 11, 0, 0), (92, .bipush 11, 2, 0, 0, 0, 0), (94, .laload, 1, 0, 0, 0, 0), (95, .invokevirtual 270, 3, 0, 11, 1, 1393), (98, .lreturn, 1, 0, 0, 0, 0), (99, .aload_n 0, 1, 0, 0, 0, 0), (100, .aload_n 0, 1, 0, 0, 0, 0), (101, .getfield 7, 3, 1061, 11, 0, 0), (104, .bipush 12, 2, 0, 0, 0, 0), (106, .laload, 1, 0, 0, 0, 0), (107, .invokevirtual 270, 3, 0, 11, 1, 1393), (110, .lreturn, 1, 0, 0, 0, 0), (111, .aload_n 0, 1, 0, 0, 0, 0), (112, .iconst 1, 1, 0, 0, 0, 0), (113, .invokevirtual 242, 3, 1, 11, 1, 1181), (116, .i2l, 1, 0, 0, 0, 0), (117, .lreturn, 1, 0, 0, 0, 0)]
set_option maxRecDepth 100000 in
set_option maxHeartbeats 4000000 in
theorem c_X11_sum (l : Launch) (G : vg_G) (hp : vg_Hp G) : vg_Ct l G vg_sh r_X11_sum := by
  refine vg_meth hp vg_sh_ok r_X11_sum k_X11_sum rfl (fun h => by cases h) o_X11_sum [r_X11_givesLong, r_X11_refuse] false (by decide +kernel) (by decide +kernel) ⟨_, _, rfl, rfl⟩ (List.forall_mem_cons.mpr ⟨⟨c_X11_givesLong l G hp, Nat.le_of_ble_eq_true rfl, Nat.le_of_ble_eq_true rfl⟩, List.forall_mem_cons.mpr ⟨⟨c_X11_refuse l G hp, Nat.le_of_ble_eq_true rfl, Nat.le_of_ble_eq_true rfl⟩, fun _ h => absurd h List.not_mem_nil⟩⟩) (fun h => by cases h) 600 ?_
  intro as s0 hpre
  obtain ⟨r, a1, rfl, hr, i0⟩ := hpre
  simp only [List.mem_cons, List.not_mem_nil, or_false] at hr
  rcases hr with rfl
  ·
    have z1 : (Int32.ofInt 1).toInt = 1 := by decide
    have z5 : (Int32.ofInt 5).toInt = 5 := by decide
    have z6 : (Int32.ofInt 6).toInt = 6 := by decide
    have z7 : (Int32.ofInt 7).toInt = 7 := by decide
    have z8 : (Int32.ofInt 8).toInt = 8 := by decide
    have z11 : (Int32.ofInt 11).toInt = 11 := by decide
    have z12 : (Int32.ofInt 12).toInt = 12 := by decide
    refine ⟨Nat.le_of_ble_eq_true rfl, [], ?_, fun _ h => absurd h List.not_mem_nil⟩
    ·
      refine And.intro (fun c1 => ?_) ?_
      · have c1 : a1.toInt < (0) ∨ (5) < a1.toInt := c1
        refine And.intro (Nat.le_of_ble_eq_true rfl) (And.intro ⟨55, (Int32.ofInt 1), rfl, by decide, i0⟩ ?_)
        intro v2 s4 h3
        have h3 : Iv s4 ∧ Kp s0 s4 ∧ (v2.toInt = -1) := h3
        have i5 := h3.1
        have k6 : Kp s0 s4 := Kx.tr Kx.rf (h3.2.1)
        have q7 := h3.2.2
        intro v8 e9
        show Iv s4 ∧ Kp s0 s4 ∧ (True)
        exact ⟨i5, k6, (trivial)⟩
      refine And.intro (fun c10 => ?_) ?_
      · have c10 : a1.toInt = (0) := c10
        refine And.intro ⟨by omega, by omega⟩ ?_
        intro v11 e12
        refine And.intro (Nat.le_of_ble_eq_true rfl) (And.intro ⟨55, v11, rfl, by decide, i0⟩ ?_)
        intro v13 s15 h14
        have h14 : Iv s15 ∧ Kp s0 s15 ∧ (v13 = v11) := h14
        have i16 := h14.1
        have k17 : Kp s0 s15 := Kx.tr Kx.rf (h14.2.1)
        have q18 := h14.2.2
        show Iv s15 ∧ Kp s0 s15 ∧ (True)
        exact ⟨i16, k17, (trivial)⟩
      refine And.intro (fun c19 => ?_) ?_
      · have c19 : a1.toInt = (1) := c19
        refine And.intro ⟨by omega, by omega⟩ ?_
        intro v20 e21
        refine And.intro (Nat.le_of_ble_eq_true rfl) (And.intro ⟨55, v20, rfl, by decide, i0⟩ ?_)
        intro v22 s24 h23
        have h23 : Iv s24 ∧ Kp s0 s24 ∧ (v22 = v20) := h23
        have i25 := h23.1
        have k26 : Kp s0 s24 := Kx.tr Kx.rf (h23.2.1)
        have q27 := h23.2.2
        show Iv s24 ∧ Kp s0 s24 ∧ (True)
        exact ⟨i25, k26, (trivial)⟩
      refine And.intro (fun c28 => ?_) ?_
      · have c28 : a1.toInt = (2) := c28
        refine And.intro ⟨by omega, by omega⟩ ?_
        intro v29 e30
        refine And.intro (Nat.le_of_ble_eq_true rfl) (And.intro ⟨55, v29, rfl, by decide, i0⟩ ?_)
        intro v31 s33 h32
        have h32 : Iv s33 ∧ Kp s0 s33 ∧ (v31 = v29) := h32
        have i34 := h32.1
        have k35 : Kp s0 s33 := Kx.tr Kx.rf (h32.2.1)
        have q36 := h32.2.2
        show Iv s33 ∧ Kp s0 s33 ∧ (True)
        exact ⟨i34, k35, (trivial)⟩
      refine And.intro (fun c37 => ?_) ?_
      · have c37 : a1.toInt = (3) := c37
        refine And.intro ⟨by omega, by omega⟩ ?_
        intro v38 e39
        refine And.intro (Nat.le_of_ble_eq_true rfl) (And.intro ⟨55, v38, rfl, by decide, i0⟩ ?_)
        intro v40 s42 h41
        have h41 : Iv s42 ∧ Kp s0 s42 ∧ (v40 = v38) := h41
        have i43 := h41.1
        have k44 : Kp s0 s42 := Kx.tr Kx.rf (h41.2.1)
        have q45 := h41.2.2
        show Iv s42 ∧ Kp s0 s42 ∧ (True)
        exact ⟨i43, k44, (trivial)⟩
      refine And.intro (fun c46 => ?_) ?_
      · have c46 : a1.toInt = (4) := c46
        refine And.intro ⟨by omega, by omega⟩ ?_
        intro v47 e48
        refine And.intro (Nat.le_of_ble_eq_true rfl) (And.intro ⟨55, v47, rfl, by decide, i0⟩ ?_)
        intro v49 s51 h50
        have h50 : Iv s51 ∧ Kp s0 s51 ∧ (v49 = v47) := h50
        have i52 := h50.1
        have k53 : Kp s0 s51 := Kx.tr Kx.rf (h50.2.1)
        have q54 := h50.2.2
        show Iv s51 ∧ Kp s0 s51 ∧ (True)
        exact ⟨i52, k53, (trivial)⟩
      refine And.intro (fun c55 => ?_) ?_
      · have c55 : a1.toInt = (5) := c55
        refine And.intro ⟨by omega, by omega⟩ ?_
        intro v56 e57
        refine And.intro (Nat.le_of_ble_eq_true rfl) (And.intro ⟨55, v56, rfl, by decide, i0⟩ ?_)
        intro v58 s60 h59
        have h59 : Iv s60 ∧ Kp s0 s60 ∧ (v58 = v56) := h59
        have i61 := h59.1
        have k62 : Kp s0 s60 := Kx.tr Kx.rf (h59.2.1)
        have q63 := h59.2.2
        show Iv s60 ∧ Kp s0 s60 ∧ (True)
        exact ⟨i61, k62, (trivial)⟩
      exact trivial
def o_X11_element : List vg_I := [(0, .iload_n 2, 1, 0, 0, 0, 0), (1, .iconst 0, 1, 0, 0, 0, 0), (2, .iconst 4, 1, 0, 0, 0, 0), (3, .invokestatic 76, 3, 0, 1, 3, 1175), (6, .ifCond .ne 9, 3, 0, 0, 0, 0), (9, .aload_n 0, 1, 0, 0, 0, 0), (10, .iconst 1, 1, 0, 0, 0, 0), (11, .invokevirtual 242, 3, 1, 11, 1, 1181), (14, .ireturn, 1, 0, 0, 0, 0), (15, .iload_n 1, 1, 0, 0, 0, 0), (16, .iconst 0, 1, 0, 0, 0, 0), (17, .aload_n 0, 1, 0, 0, 0, 0), (18, .invokevirtual 102, 3, 2, 11, 0, 1218), (21, .iconst 1, 1, 0, 0, 0, 0), (22, .isub, 1, 0, 0, 0, 0), (23, .invokestatic 76, 3, 0, 1, 3, 1175), (26, .ifCond .ne 9, 3, 0, 0, 0, 0), (29, .aload_n 0, 1, 0, 0, 0, 0), (30, .iconst 2, 1, 0, 0, 0, 0), (31, .invokevirtual 242, 3, 1, 11, 1, 1181), (34, .ireturn, 1, 0, 0, 0, 0), (35, .iload_n 2, 1, 0, 0, 0, 0), (36, .tableswitch 81 0 3 #[32, 42, 55, 68], 32, 0, 0, 0, 0), (68, .aload_n 0, 1, 0, 0, 0, 0), (69, .aload_n 0, 1, 0, 0, 0, 0), (70, .iload_n 1, 1, 0, 0, 0, 0), (71, .invokevirtual 106, 3, 3, 11, 1, 1242), (74, .invokevirtual 249, 3, 4, 11, 1, 1206), (77, .ireturn, 1, 0, 0, 0, 0), (78, .aload_n 0, 1, 0, 0, 0, 0), (79, .aload_n 0, 1, 0, 0, 0, 0), (80, .bipush 71, 2, 0, 0, 0, 0), (82, .iload_n 1, 1, 0, 0, 0, 0), (83, .iadd, 1, 0, 0, 0, 0), (84, .invokevirtual 110, 3, 5, 11, 1, 1202), (87, .invokevirtual 249, 3, 4, 11, 1, 1206), (90, .ireturn, 1, 0, 0, 0, 0), (91, .aload_n 0, 1, 0, 0, 0, 0), (92, .aload_n 0, 1, 0, 0, 0, 0), (93, .bipush 39, 2, 0, 0, 0, 0), (95, .iload_n 1, 1, 0, 0, 0, 0), (96, .iadd, 1, 0, 0, 0, 0), (97, .invokevirtual 110, 3, 5, 11, 1, 1202), (100, .invokevirtual 249, 3, 4, 11, 1, 1206), (103, .ireturn, 1, 0, 0, 0, 0), (104, .aload_n 0, 1, 0, 0, 0, 0), (105, .aload_n 0, 1, 0, 0, 0, 0), (106, .bipush 55, 2, 0, 0, 0, 0), (108, .iload_n 1, 1, 0, 0, 0, 0), (109, .iadd, 1, 0, 0, 0, 0), (110, .invokevirtual 110, 3, 5, 11, 1, 1202), (113, .invokevirtual 249, 3, 4, 11, 1, 1206), (116, .ireturn, 1, 0, 0, 0, 0), (117, .aload_n 0, 1, 0, 0, 0, 0), (118, .aload_n 0, 1, 0, 0, 0, 0), (119, .bipush 87, 2, 0, 0, 0, 0), (121, .invokevirtual 110, 3, 5, 11, 1, 1202), (124, .iload_n 1, 1, 0, 0, 0, 0), (125, .ishr, 1, 0, 0, 0, 0), (126, .iconst 1, 1, 0, 0, 0, 0), (127, .iand, 1, 0, 0, 0, 0), (128, .invokevirtual 249, 3, 4, 11, 1, 1206), (131, .ireturn, 1, 0, 0, 0, 0)]
set_option maxRecDepth 100000 in
set_option maxHeartbeats 4000000 in
theorem c_X11_element (l : Launch) (G : vg_G) (hp : vg_Hp G) : vg_Ct l G vg_sh r_X11_element := by
  refine vg_meth hp vg_sh_ok r_X11_element k_X11_element rfl (fun h => by cases h) o_X11_element [r_X11_isFrom, r_X11_refuse, r_X11_elements, r_X11_weight, r_X11_gives, r_X11_get] false (by decide +kernel) (by decide +kernel) ⟨_, _, rfl, rfl⟩ (List.forall_mem_cons.mpr ⟨⟨c_X11_isFrom l G hp, Nat.le_of_ble_eq_true rfl, Nat.le_of_ble_eq_true rfl⟩, List.forall_mem_cons.mpr ⟨⟨c_X11_refuse l G hp, Nat.le_of_ble_eq_true rfl, Nat.le_of_ble_eq_true rfl⟩, List.forall_mem_cons.mpr ⟨⟨c_X11_elements l G hp, Nat.le_of_ble_eq_true rfl, Nat.le_of_ble_eq_true rfl⟩, List.forall_mem_cons.mpr ⟨⟨c_X11_weight l G hp, Nat.le_of_ble_eq_true rfl, Nat.le_of_ble_eq_true rfl⟩, List.forall_mem_cons.mpr ⟨⟨c_X11_gives l G hp, Nat.le_of_ble_eq_true rfl, Nat.le_of_ble_eq_true rfl⟩, List.forall_mem_cons.mpr ⟨⟨c_X11_get l G hp, Nat.le_of_ble_eq_true rfl, Nat.le_of_ble_eq_true rfl⟩, fun _ h => absurd h List.not_mem_nil⟩⟩⟩⟩⟩⟩) (fun h => by cases h) 600 ?_
  intro as s0 hpre
  obtain ⟨r, a1, a2, rfl, hr, i0⟩ := hpre
  simp only [List.mem_cons, List.not_mem_nil, or_false] at hr
  rcases hr with rfl
  ·
    have z0 : (Int32.ofInt 0).toInt = 0 := by decide
    have z1 : (Int32.ofInt 1).toInt = 1 := by decide
    have z2 : (Int32.ofInt 2).toInt = 2 := by decide
    have z4 : (Int32.ofInt 4).toInt = 4 := by decide
    have z39 : (Int32.ofInt 39).toInt = 39 := by decide
    have z55 : (Int32.ofInt 55).toInt = 55 := by decide
    have z71 : (Int32.ofInt 71).toInt = 71 := by decide
    have z87 : (Int32.ofInt 87).toInt = 87 := by decide
    refine ⟨Nat.le_of_ble_eq_true rfl, [], ?_, fun _ h => absurd h List.not_mem_nil⟩
    ·
      refine And.intro (Nat.le_of_ble_eq_true rfl) (And.intro ⟨a2, (Int32.ofInt 0), (Int32.ofInt 4), rfl, trivial⟩ ?_)
      intro v1 s3 h2
      have h2 : s3 = s0 ∧ ((v1.toInt = 1 ∧ (Int32.ofInt 0).toInt ≤ a2.toInt ∧ a2.toInt ≤ (Int32.ofInt 4).toInt) ∨ (v1.toInt = 0 ∧ (a2.toInt < (Int32.ofInt 0).toInt ∨ (Int32.ofInt 4).toInt < a2.toInt))) := h2
      have q6 := h2.1.symm
      subst q6
      have q7 := h2.2
      refine And.intro (fun c8 => ?_) (fun c8 => ?_)
      · have c8 : ¬ v1.toInt = 0 := c8
        refine And.intro (Nat.le_of_ble_eq_true rfl) (And.intro ⟨55, rfl, by decide, i0⟩ ?_)
        intro v9 s11 h10
        have h10 : s11 = s0 ∧ (v9 = vg_me s0 ∧ 1 ≤ v9.toInt ∧ v9.toInt ≤ 16) := h10
        have q14 := h10.1.symm
        subst q14
        have q15 := h10.2
        intro v16 e17
        have b18 := vg_sub e17 (by omega) (by omega)
        refine And.intro (Nat.le_of_ble_eq_true rfl) (And.intro ⟨a1, (Int32.ofInt 0), v16, rfl, trivial⟩ ?_)
        intro v19 s21 h20
        have h20 : s21 = s0 ∧ ((v19.toInt = 1 ∧ (Int32.ofInt 0).toInt ≤ a1.toInt ∧ a1.toInt ≤ v16.toInt) ∨ (v19.toInt = 0 ∧ (a1.toInt < (Int32.ofInt 0).toInt ∨ v16.toInt < a1.toInt))) := h20
        have q24 := h20.1.symm
        subst q24
        have q25 := h20.2
        refine And.intro (fun c26 => ?_) (fun c26 => ?_)
        · have c26 : ¬ v19.toInt = 0 := c26
          refine And.intro (fun c27 => ?_) ?_
          · have c27 : a2.toInt < (0) ∨ (3) < a2.toInt := c27
            refine And.intro (Nat.le_of_ble_eq_true rfl) (And.intro ⟨55, (Int32.ofInt 87), rfl, by decide, i0, by omega⟩ ?_)
            intro v28 s30 h29
            have h29 : s30 = s0 ∧ (v28 = (s0.2 56 (Int32.ofInt 87).toNatClampNeg).toInt32) := h29
            have q33 := h29.1.symm
            subst q33
            have q34 := h29.2
            intro v35 e36
            intro v37 e38
            have b39 := vg_and e38 (by omega)
            refine And.intro (Nat.le_of_ble_eq_true rfl) (And.intro ⟨55, v37, rfl, by decide, i0⟩ ?_)
            intro v40 s42 h41
            have h41 : Iv s42 ∧ Kp s0 s42 ∧ (v40 = v37 ∧ v40.toInt = v37.toInt) := h41
            have i43 := h41.1
            have k44 : Kp s0 s42 := Kx.tr Kx.rf (h41.2.1)
            have q45 := h41.2.2
            show Iv s42 ∧ Kp s0 s42 ∧ (True)
            exact ⟨i43, k44, (trivial)⟩
          refine And.intro (fun c46 => ?_) ?_
          · have c46 : a2.toInt = (0) := c46
            refine And.intro (Nat.le_of_ble_eq_true rfl) (And.intro ⟨55, a1, rfl, by decide, i0, by omega⟩ ?_)
            intro v47 s49 h48
            have h48 : s49 = s0 ∧ (v47 = Int32.ofInt 1000 + s0.1 59 a1.toNatClampNeg) := h48
            have q52 := h48.1.symm
            subst q52
            have q53 := h48.2
            refine And.intro (Nat.le_of_ble_eq_true rfl) (And.intro ⟨55, v47, rfl, by decide, i0⟩ ?_)
            intro v54 s56 h55
            have h55 : Iv s56 ∧ Kp s0 s56 ∧ (v54 = v47 ∧ v54.toInt = v47.toInt) := h55
            have i57 := h55.1
            have k58 : Kp s0 s56 := Kx.tr Kx.rf (h55.2.1)
            have q59 := h55.2.2
            show Iv s56 ∧ Kp s0 s56 ∧ (True)
            exact ⟨i57, k58, (trivial)⟩
          refine And.intro (fun c60 => ?_) ?_
          · have c60 : a2.toInt = (1) := c60
            intro v61 e62
            have b63 := vg_add e62 (by omega) (by omega)
            refine And.intro (Nat.le_of_ble_eq_true rfl) (And.intro ⟨55, v61, rfl, by decide, i0, by omega⟩ ?_)
            intro v64 s66 h65
            have h65 : s66 = s0 ∧ (v64 = (s0.2 56 v61.toNatClampNeg).toInt32) := h65
            have q69 := h65.1.symm
            subst q69
            have q70 := h65.2
            refine And.intro (Nat.le_of_ble_eq_true rfl) (And.intro ⟨55, v64, rfl, by decide, i0⟩ ?_)
            intro v71 s73 h72
            have h72 : Iv s73 ∧ Kp s0 s73 ∧ (v71 = v64 ∧ v71.toInt = v64.toInt) := h72
            have i74 := h72.1
            have k75 : Kp s0 s73 := Kx.tr Kx.rf (h72.2.1)
            have q76 := h72.2.2
            show Iv s73 ∧ Kp s0 s73 ∧ (True)
            exact ⟨i74, k75, (trivial)⟩
          refine And.intro (fun c77 => ?_) ?_
          · have c77 : a2.toInt = (2) := c77
            intro v78 e79
            have b80 := vg_add e79 (by omega) (by omega)
            refine And.intro (Nat.le_of_ble_eq_true rfl) (And.intro ⟨55, v78, rfl, by decide, i0, by omega⟩ ?_)
            intro v81 s83 h82
            have h82 : s83 = s0 ∧ (v81 = (s0.2 56 v78.toNatClampNeg).toInt32) := h82
            have q86 := h82.1.symm
            subst q86
            have q87 := h82.2
            refine And.intro (Nat.le_of_ble_eq_true rfl) (And.intro ⟨55, v81, rfl, by decide, i0⟩ ?_)
            intro v88 s90 h89
            have h89 : Iv s90 ∧ Kp s0 s90 ∧ (v88 = v81 ∧ v88.toInt = v81.toInt) := h89
            have i91 := h89.1
            have k92 : Kp s0 s90 := Kx.tr Kx.rf (h89.2.1)
            have q93 := h89.2.2
            show Iv s90 ∧ Kp s0 s90 ∧ (True)
            exact ⟨i91, k92, (trivial)⟩
          refine And.intro (fun c94 => ?_) ?_
          · have c94 : a2.toInt = (3) := c94
            intro v95 e96
            have b97 := vg_add e96 (by omega) (by omega)
            refine And.intro (Nat.le_of_ble_eq_true rfl) (And.intro ⟨55, v95, rfl, by decide, i0, by omega⟩ ?_)
            intro v98 s100 h99
            have h99 : s100 = s0 ∧ (v98 = (s0.2 56 v95.toNatClampNeg).toInt32) := h99
            have q103 := h99.1.symm
            subst q103
            have q104 := h99.2
            refine And.intro (Nat.le_of_ble_eq_true rfl) (And.intro ⟨55, v98, rfl, by decide, i0⟩ ?_)
            intro v105 s107 h106
            have h106 : Iv s107 ∧ Kp s0 s107 ∧ (v105 = v98 ∧ v105.toInt = v98.toInt) := h106
            have i108 := h106.1
            have k109 : Kp s0 s107 := Kx.tr Kx.rf (h106.2.1)
            have q110 := h106.2.2
            show Iv s107 ∧ Kp s0 s107 ∧ (True)
            exact ⟨i108, k109, (trivial)⟩
          exact trivial
        · have c26 : ¬ (¬ v19.toInt = 0) := c26
          refine And.intro (Nat.le_of_ble_eq_true rfl) (And.intro ⟨55, (Int32.ofInt 2), rfl, by decide, i0⟩ ?_)
          intro v111 s113 h112
          have h112 : Iv s113 ∧ Kp s0 s113 ∧ (v111.toInt = -1) := h112
          have i114 := h112.1
          have k115 : Kp s0 s113 := Kx.tr Kx.rf (h112.2.1)
          have q116 := h112.2.2
          show Iv s113 ∧ Kp s0 s113 ∧ (True)
          exact ⟨i114, k115, (trivial)⟩
      · have c8 : ¬ (¬ v1.toInt = 0) := c8
        refine And.intro (Nat.le_of_ble_eq_true rfl) (And.intro ⟨55, (Int32.ofInt 1), rfl, by decide, i0⟩ ?_)
        intro v117 s119 h118
        have h118 : Iv s119 ∧ Kp s0 s119 ∧ (v117.toInt = -1) := h118
        have i120 := h118.1
        have k121 : Kp s0 s119 := Kx.tr Kx.rf (h118.2.1)
        have q122 := h118.2.2
        show Iv s119 ∧ Kp s0 s119 ∧ (True)
        exact ⟨i120, k121, (trivial)⟩
def o_X11_spreadNow : List vg_I := [(0, .aload_n 0, 1, 0, 0, 0, 0), (1, .bipush 71, 2, 0, 0, 0, 0), (3, .invokevirtual 110, 3, 0, 11, 1, 1202), (6, .istore_n 1, 1, 0, 0, 0, 0), (7, .iload_n 1, 1, 0, 0, 0, 0), (8, .istore_n 2, 1, 0, 0, 0, 0), (9, .iconst 1, 1, 0, 0, 0, 0), (10, .istore_n 3, 1, 0, 0, 0, 0), (11, .iload_n 3, 1, 0, 0, 0, 0), (12, .aload_n 0, 1, 0, 0, 0, 0), (13, .invokevirtual 102, 3, 1, 11, 0, 1218), (16, .if_icmp .ge 35, 3, 0, 0, 0, 0), (19, .iload_n 1, 1, 0, 0, 0, 0), (20, .aload_n 0, 1, 0, 0, 0, 0), (21, .bipush 71, 2, 0, 0, 0, 0), (23, .iload_n 3, 1, 0, 0, 0, 0), (24, .iadd, 1, 0, 0, 0, 0), (25, .invokevirtual 110, 3, 0, 11, 1, 1202), (28, .invokestatic 113, 3, 2, 1, 2, 1280), (31, .istore_n 1, 1, 0, 0, 0, 0), (32, .iload_n 2, 1, 0, 0, 0, 0), (33, .aload_n 0, 1, 0, 0, 0, 0), (34, .bipush 71, 2, 0, 0, 0, 0), (36, .iload_n 3, 1, 0, 0, 0, 0), (37, .iadd, 1, 0, 0, 0, 0), (38, .invokevirtual 110, 3, 0, 11, 1, 1202), (41, .invokestatic 90, 3, 3, 1, 2, 1201), (44, .istore_n 2, 1, 0, 0, 0, 0), (45, .iinc 3 1, 3, 0, 0, 0, 0), (48, .goto (-37), 3, 0, 0, 0, 0), (51, .iload_n 2, 1, 0, 0, 0, 0), (52, .iload_n 1, 1, 0, 0, 0, 0), (53, .isub, 1, 0, 0, 0, 0), (54, .ireturn, 1, 0, 0, 0, 0)]
set_option maxRecDepth 100000 in
set_option maxHeartbeats 4000000 in
theorem c_X11_spreadNow (l : Launch) (G : vg_G) (hp : vg_Hp G) : vg_Ct l G vg_sh r_X11_spreadNow := by
  refine vg_meth hp vg_sh_ok r_X11_spreadNow k_X11_spreadNow rfl (fun h => by cases h) o_X11_spreadNow [r_X11_get, r_X11_elements, r_J9_min_7cf53, r_J9_max_7cf53] false (by decide +kernel) (by decide +kernel) ⟨_, _, rfl, rfl⟩ (List.forall_mem_cons.mpr ⟨⟨c_X11_get l G hp, Nat.le_of_ble_eq_true rfl, Nat.le_of_ble_eq_true rfl⟩, List.forall_mem_cons.mpr ⟨⟨c_X11_elements l G hp, Nat.le_of_ble_eq_true rfl, Nat.le_of_ble_eq_true rfl⟩, List.forall_mem_cons.mpr ⟨⟨c_J9_min_7cf53 l G hp, Nat.le_of_ble_eq_true rfl, Nat.le_of_ble_eq_true rfl⟩, List.forall_mem_cons.mpr ⟨⟨c_J9_max_7cf53 l G hp, Nat.le_of_ble_eq_true rfl, Nat.le_of_ble_eq_true rfl⟩, fun _ h => absurd h List.not_mem_nil⟩⟩⟩⟩) (fun h => by cases h) 600 ?_
  intro as s0 hpre
  obtain ⟨r, rfl, hr, i0⟩ := hpre
  simp only [List.mem_cons, List.not_mem_nil, or_false] at hr
  rcases hr with rfl
  ·
    have z1 : (Int32.ofInt 1).toInt = 1 := by decide
    have z71 : (Int32.ofInt 71).toInt = 71 := by decide
    refine ⟨Nat.le_of_ble_eq_true rfl, [(11, [true, true, true, true], (fun L t => ∃ (x1 : Int32) (x2 : Int32) (x3 : Int32), L = [some (.ref 55), some (.int x1), some (.int x2), some (.int x3)] ∧ (1 : Int) ≤ x3.toInt ∧ x3.toInt ≤ (16 : Int) ∧ t = s0), (fun L _ => (0 + (16 - (vg_li L 3).toInt) * 1000000000000).toNat))], ?_, List.forall_mem_cons.mpr ⟨?_, fun _ h => absurd h List.not_mem_nil⟩⟩
    ·
      refine And.intro (Nat.le_of_ble_eq_true rfl) (And.intro ⟨55, (Int32.ofInt 71), rfl, by decide, i0, by omega⟩ ?_)
      intro v1 s3 h2
      have h2 : s3 = s0 ∧ (v1 = (s0.2 56 (Int32.ofInt 71).toNatClampNeg).toInt32) := h2
      have q6 := h2.1.symm
      subst q6
      have q7 := h2.2
      exact ⟨rfl, ⟨v1, v1, (Int32.ofInt 1), rfl, (by omega), (by omega), rfl⟩, trivial⟩
    ·
      intro L s13 hL
      obtain ⟨w8, w9, w10, rfl, b11, b12, q16⟩ := hL
      have q16 := q16.symm
      subst q16
      refine And.intro (Nat.le_of_ble_eq_true rfl) (And.intro ⟨55, rfl, by decide, i0⟩ ?_)
      intro v17 s19 h18
      have h18 : s19 = s0 ∧ (v17 = vg_me s0 ∧ 1 ≤ v17.toInt ∧ v17.toInt ≤ 16) := h18
      have q22 := h18.1.symm
      subst q22
      have q23 := h18.2
      refine And.intro (fun c24 => ?_) (fun c24 => ?_)
      · have c24 : v17.toInt ≤ w10.toInt := c24
        intro v25 e26
        show s0 = s0 ∧ (True)
        exact ⟨rfl, (trivial)⟩
      · have c24 : ¬ (v17.toInt ≤ w10.toInt) := c24
        intro v27 e28
        have b29 := vg_add e28 (by omega) (by omega)
        refine And.intro (Nat.le_of_ble_eq_true rfl) (And.intro ⟨55, v27, rfl, by decide, i0, by omega⟩ ?_)
        intro v30 s32 h31
        have h31 : s32 = s0 ∧ (v30 = (s0.2 56 v27.toNatClampNeg).toInt32) := h31
        have q35 := h31.1.symm
        subst q35
        have q36 := h31.2
        refine And.intro (Nat.le_of_ble_eq_true rfl) (And.intro ⟨w8, v30, rfl, trivial⟩ ?_)
        intro v37 s39 h38
        have h38 : s39 = s0 ∧ (v37.toInt ≤ w8.toInt ∧ v37.toInt ≤ v30.toInt ∧ (v37.toInt = w8.toInt ∨ v37.toInt = v30.toInt)) := h38
        have q42 := h38.1.symm
        subst q42
        have q43 := h38.2
        intro v44 e45
        have b46 := vg_add e45 (by omega) (by omega)
        refine And.intro (Nat.le_of_ble_eq_true rfl) (And.intro ⟨55, v44, rfl, by decide, i0, by omega⟩ ?_)
        intro v47 s49 h48
        have h48 : s49 = s0 ∧ (v47 = (s0.2 56 v44.toNatClampNeg).toInt32) := h48
        have q52 := h48.1.symm
        subst q52
        have q53 := h48.2
        refine And.intro (Nat.le_of_ble_eq_true rfl) (And.intro ⟨w9, v47, rfl, trivial⟩ ?_)
        intro v54 s56 h55
        have h55 : s56 = s0 ∧ (w9.toInt ≤ v54.toInt ∧ v47.toInt ≤ v54.toInt ∧ (v54.toInt = w9.toInt ∨ v54.toInt = v47.toInt)) := h55
        have q59 := h55.1.symm
        subst q59
        have q60 := h55.2
        intro v61 e62
        have b63 := vg_add e62 (by omega) (by omega)
        exact ⟨rfl, ⟨v37, v54, v61, rfl, (by omega), (by omega), rfl⟩, (by show (0 + (16 - v61.toInt) * 1000000000000).toNat < (0 + (16 - w10.toInt) * 1000000000000).toNat; omega)⟩
def o_X11_spread : List vg_I := [(0, .aload_n 0, 1, 0, 0, 0, 0), (1, .aload_n 0, 1, 0, 0, 0, 0), (2, .invokevirtual 273, 3, 0, 11, 0, 1417), (5, .invokevirtual 249, 3, 1, 11, 1, 1206), (8, .ireturn, 1, 0, 0, 0, 0)]
set_option maxRecDepth 100000 in
set_option maxHeartbeats 4000000 in
theorem c_X11_spread (l : Launch) (G : vg_G) (hp : vg_Hp G) : vg_Ct l G vg_sh r_X11_spread := by
  refine vg_meth hp vg_sh_ok r_X11_spread k_X11_spread rfl (fun h => by cases h) o_X11_spread [r_X11_spreadNow, r_X11_gives] false (by decide +kernel) (by decide +kernel) ⟨_, _, rfl, rfl⟩ (List.forall_mem_cons.mpr ⟨⟨c_X11_spreadNow l G hp, Nat.le_of_ble_eq_true rfl, Nat.le_of_ble_eq_true rfl⟩, List.forall_mem_cons.mpr ⟨⟨c_X11_gives l G hp, Nat.le_of_ble_eq_true rfl, Nat.le_of_ble_eq_true rfl⟩, fun _ h => absurd h List.not_mem_nil⟩⟩) (fun h => by cases h) 600 ?_
  intro as s0 hpre
  obtain ⟨r, rfl, hr, i0⟩ := hpre
  simp only [List.mem_cons, List.not_mem_nil, or_false] at hr
  rcases hr with rfl
  ·
    refine ⟨Nat.le_of_ble_eq_true rfl, [], ?_, fun _ h => absurd h List.not_mem_nil⟩
    ·
      refine And.intro (Nat.le_of_ble_eq_true rfl) (And.intro ⟨55, rfl, by decide, i0⟩ ?_)
      intro v1 s3 h2
      have h2 : s3 = s0 ∧ (True) := h2
      have q6 := h2.1.symm
      subst q6
      refine And.intro (Nat.le_of_ble_eq_true rfl) (And.intro ⟨55, v1, rfl, by decide, i0⟩ ?_)
      intro v7 s9 h8
      have h8 : Iv s9 ∧ Kp s0 s9 ∧ (v7 = v1 ∧ v7.toInt = v1.toInt) := h8
      have i10 := h8.1
      have k11 : Kp s0 s9 := Kx.tr Kx.rf (h8.2.1)
      have q12 := h8.2.2
      show Iv s9 ∧ Kp s0 s9 ∧ (True)
      exact ⟨i10, k11, (trivial)⟩
def o_X11_combed : List vg_I := [(0, .iload_n 1, 1, 0, 0, 0, 0), (1, .iconst 0, 1, 0, 0, 0, 0), (2, .iconst 4, 1, 0, 0, 0, 0), (3, .invokestatic 76, 3, 0, 1, 3, 1175), (6, .ifCond .ne 9, 3, 0, 0, 0, 0), (9, .aload_n 0, 1, 0, 0, 0, 0), (10, .iconst 1, 1, 0, 0, 0, 0), (11, .invokevirtual 242, 3, 1, 11, 1, 1181), (14, .ireturn, 1, 0, 0, 0, 0), (15, .iload_n 1, 1, 0, 0, 0, 0), (16, .aload_n 0, 1, 0, 0, 0, 0), (17, .getfield 33, 3, 1077, 11, 16, 0), (20, .if_icmp .ge 18, 3, 0, 0, 0, 0), (23, .aload_n 0, 1, 0, 0, 0, 0), (24, .aload_n 0, 1, 0, 0, 0, 0), (25, .bipush 88, 2, 0, 0, 0, 0), (27, .iload_n 1, 1, 0, 0, 0, 0), (28, .iadd, 1, 0, 0, 0, 0), (29, .invokevirtual 110, 3, 2, 11, 1, 1202), (32, .invokevirtual 249, 3, 3, 11, 1, 1206), (35, .goto 8, 3, 0, 0, 0, 0), (38, .aload_n 0, 1, 0, 0, 0, 0), (39, .iconst 5, 1, 0, 0, 0, 0), (40, .invokevirtual 242, 3, 1, 11, 1, 1181), (43, .ireturn, 1, 0, 0, 0, 0)]
set_option maxRecDepth 100000 in
set_option maxHeartbeats 4000000 in
theorem c_X11_combed (l : Launch) (G : vg_G) (hp : vg_Hp G) : vg_Ct l G vg_sh r_X11_combed := by
  refine vg_meth hp vg_sh_ok r_X11_combed k_X11_combed rfl (fun h => by cases h) o_X11_combed [r_X11_isFrom, r_X11_refuse, r_X11_get, r_X11_gives] false (by decide +kernel) (by decide +kernel) ⟨_, _, rfl, rfl⟩ (List.forall_mem_cons.mpr ⟨⟨c_X11_isFrom l G hp, Nat.le_of_ble_eq_true rfl, Nat.le_of_ble_eq_true rfl⟩, List.forall_mem_cons.mpr ⟨⟨c_X11_refuse l G hp, Nat.le_of_ble_eq_true rfl, Nat.le_of_ble_eq_true rfl⟩, List.forall_mem_cons.mpr ⟨⟨c_X11_get l G hp, Nat.le_of_ble_eq_true rfl, Nat.le_of_ble_eq_true rfl⟩, List.forall_mem_cons.mpr ⟨⟨c_X11_gives l G hp, Nat.le_of_ble_eq_true rfl, Nat.le_of_ble_eq_true rfl⟩, fun _ h => absurd h List.not_mem_nil⟩⟩⟩⟩) (fun h => by cases h) 600 ?_
  intro as s0 hpre
  obtain ⟨r, a1, rfl, hr, i0⟩ := hpre
  simp only [List.mem_cons, List.not_mem_nil, or_false] at hr
  rcases hr with rfl
  ·
    have z0 : (Int32.ofInt 0).toInt = 0 := by decide
    have z1 : (Int32.ofInt 1).toInt = 1 := by decide
    have z4 : (Int32.ofInt 4).toInt = 4 := by decide
    have z5 : (Int32.ofInt 5).toInt = 5 := by decide
    have z88 : (Int32.ofInt 88).toInt = 88 := by decide
    refine ⟨Nat.le_of_ble_eq_true rfl, [], ?_, fun _ h => absurd h List.not_mem_nil⟩
    ·
      refine And.intro (Nat.le_of_ble_eq_true rfl) (And.intro ⟨a1, (Int32.ofInt 0), (Int32.ofInt 4), rfl, trivial⟩ ?_)
      intro v1 s3 h2
      have h2 : s3 = s0 ∧ ((v1.toInt = 1 ∧ (Int32.ofInt 0).toInt ≤ a1.toInt ∧ a1.toInt ≤ (Int32.ofInt 4).toInt) ∨ (v1.toInt = 0 ∧ (a1.toInt < (Int32.ofInt 0).toInt ∨ (Int32.ofInt 4).toInt < a1.toInt))) := h2
      have q6 := h2.1.symm
      subst q6
      have q7 := h2.2
      refine And.intro (fun c8 => ?_) (fun c8 => ?_)
      · have c8 : ¬ v1.toInt = 0 := c8
        intro v9 e10
        have g11 : s0.1 55 16 = v9 := by rw [e10]
        have b12 : (1 : Int) ≤ v9.toInt ∧ v9.toInt ≤ 5 := by rw [e10]; exact Iv_55_16 i0
        refine And.intro (fun c13 => ?_) (fun c13 => ?_)
        · have c13 : v9.toInt ≤ a1.toInt := c13
          refine And.intro (Nat.le_of_ble_eq_true rfl) (And.intro ⟨55, (Int32.ofInt 5), rfl, by decide, i0⟩ ?_)
          intro v14 s16 h15
          have h15 : Iv s16 ∧ Kp s0 s16 ∧ (v14.toInt = -1) := h15
          have i17 := h15.1
          have k18 : Kp s0 s16 := Kx.tr Kx.rf (h15.2.1)
          have q19 := h15.2.2
          show Iv s16 ∧ Kp s0 s16 ∧ (True)
          exact ⟨i17, k18, (trivial)⟩
        · have c13 : ¬ (v9.toInt ≤ a1.toInt) := c13
          intro v20 e21
          have b22 := vg_add e21 (by omega) (by omega)
          refine And.intro (Nat.le_of_ble_eq_true rfl) (And.intro ⟨55, v20, rfl, by decide, i0, by omega⟩ ?_)
          intro v23 s25 h24
          have h24 : s25 = s0 ∧ (v23 = (s0.2 56 v20.toNatClampNeg).toInt32) := h24
          have q28 := h24.1.symm
          subst q28
          have q29 := h24.2
          refine And.intro (Nat.le_of_ble_eq_true rfl) (And.intro ⟨55, v23, rfl, by decide, i0⟩ ?_)
          intro v30 s32 h31
          have h31 : Iv s32 ∧ Kp s0 s32 ∧ (v30 = v23 ∧ v30.toInt = v23.toInt) := h31
          have i33 := h31.1
          have k34 : Kp s0 s32 := Kx.tr Kx.rf (h31.2.1)
          have q35 := h31.2.2
          show Iv s32 ∧ Kp s0 s32 ∧ (True)
          exact ⟨i33, k34, (trivial)⟩
      · have c8 : ¬ (¬ v1.toInt = 0) := c8
        refine And.intro (Nat.le_of_ble_eq_true rfl) (And.intro ⟨55, (Int32.ofInt 1), rfl, by decide, i0⟩ ?_)
        intro v36 s38 h37
        have h37 : Iv s38 ∧ Kp s0 s38 ∧ (v36.toInt = -1) := h37
        have i39 := h37.1
        have k40 : Kp s0 s38 := Kx.tr Kx.rf (h37.2.1)
        have q41 := h37.2.2
        show Iv s38 ∧ Kp s0 s38 ∧ (True)
        exact ⟨i39, k40, (trivial)⟩
def o_X11_wrong : List vg_I := [(0, .iload_n 1, 1, 0, 0, 0, 0), (1, .iconst 0, 1, 0, 0, 0, 0), (2, .iconst 1, 1, 0, 0, 0, 0), (3, .invokestatic 76, 3, 0, 1, 3, 1175), (6, .ifCond .ne 10, 3, 0, 0, 0, 0), (9, .aload_n 0, 1, 0, 0, 0, 0), (10, .iconst 1, 1, 0, 0, 0, 0), (11, .invokevirtual 242, 3, 1, 11, 1, 1181), (14, .i2l, 1, 0, 0, 0, 0), (15, .lreturn, 1, 0, 0, 0, 0), (16, .iload_n 1, 1, 0, 0, 0, 0), (17, .ifCond .ne 15, 3, 0, 0, 0, 0), (20, .aload_n 0, 1, 0, 0, 0, 0), (21, .aload_n 0, 1, 0, 0, 0, 0), (22, .getfield 7, 3, 1061, 11, 0, 0), (25, .bipush 14, 2, 0, 0, 0, 0), (27, .laload, 1, 0, 0, 0, 0), (28, .invokevirtual 270, 3, 2, 11, 1, 1393), (31, .lreturn, 1, 0, 0, 0, 0), (32, .aload_n 0, 1, 0, 0, 0, 0), (33, .getfield 7, 3, 1061, 11, 0, 0), (36, .bipush 19, 2, 0, 0, 0, 0), (38, .laload, 1, 0, 0, 0, 0), (39, .lconst 0, 1, 0, 0, 0, 0), (40, .lcmp, 1, 0, 0, 0, 0), (41, .ifCond .ne 12, 3, 0, 0, 0, 0), (44, .aload_n 0, 1, 0, 0, 0, 0), (45, .iconst 5, 1, 0, 0, 0, 0), (46, .invokevirtual 242, 3, 1, 11, 1, 1181), (49, .i2l, 1, 0, 0, 0, 0), (50, .goto 14, 3, 0, 0, 0, 0), (53, .aload_n 0, 1, 0, 0, 0, 0), (54, .aload_n 0, 1, 0, 0, 0, 0), (55, .getfield 7, 3, 1061, 11, 0, 0), (58, .bipush 15, 2, 0, 0, 0, 0), (60, .laload, 1, 0, 0, 0, 0), (61, .invokevirtual 270, 3, 2, 11, 1, 1393), (64, .lreturn, 1, 0, 0, 0, 0)]
set_option maxRecDepth 100000 in
set_option maxHeartbeats 4000000 in
theorem c_X11_wrong (l : Launch) (G : vg_G) (hp : vg_Hp G) : vg_Ct l G vg_sh r_X11_wrong := by
  refine vg_meth hp vg_sh_ok r_X11_wrong k_X11_wrong rfl (fun h => by cases h) o_X11_wrong [r_X11_isFrom, r_X11_refuse, r_X11_givesLong] false (by decide +kernel) (by decide +kernel) ⟨_, _, rfl, rfl⟩ (List.forall_mem_cons.mpr ⟨⟨c_X11_isFrom l G hp, Nat.le_of_ble_eq_true rfl, Nat.le_of_ble_eq_true rfl⟩, List.forall_mem_cons.mpr ⟨⟨c_X11_refuse l G hp, Nat.le_of_ble_eq_true rfl, Nat.le_of_ble_eq_true rfl⟩, List.forall_mem_cons.mpr ⟨⟨c_X11_givesLong l G hp, Nat.le_of_ble_eq_true rfl, Nat.le_of_ble_eq_true rfl⟩, fun _ h => absurd h List.not_mem_nil⟩⟩⟩) (fun h => by cases h) 600 ?_
  intro as s0 hpre
  obtain ⟨r, a1, rfl, hr, i0⟩ := hpre
  simp only [List.mem_cons, List.not_mem_nil, or_false] at hr
  rcases hr with rfl
  ·
    have z0 : (Int32.ofInt 0).toInt = 0 := by decide
    have z1 : (Int32.ofInt 1).toInt = 1 := by decide
    have z5 : (Int32.ofInt 5).toInt = 5 := by decide
    have z14 : (Int32.ofInt 14).toInt = 14 := by decide
    have z15 : (Int32.ofInt 15).toInt = 15 := by decide
    have z19 : (Int32.ofInt 19).toInt = 19 := by decide
    refine ⟨Nat.le_of_ble_eq_true rfl, [], ?_, fun _ h => absurd h List.not_mem_nil⟩
    ·
      refine And.intro (Nat.le_of_ble_eq_true rfl) (And.intro ⟨a1, (Int32.ofInt 0), (Int32.ofInt 1), rfl, trivial⟩ ?_)
      intro v1 s3 h2
      have h2 : s3 = s0 ∧ ((v1.toInt = 1 ∧ (Int32.ofInt 0).toInt ≤ a1.toInt ∧ a1.toInt ≤ (Int32.ofInt 1).toInt) ∨ (v1.toInt = 0 ∧ (a1.toInt < (Int32.ofInt 0).toInt ∨ (Int32.ofInt 1).toInt < a1.toInt))) := h2
      have q6 := h2.1.symm
      subst q6
      have q7 := h2.2
      refine And.intro (fun c8 => ?_) (fun c8 => ?_)
      · have c8 : ¬ v1.toInt = 0 := c8
        refine And.intro (fun c9 => ?_) (fun c9 => ?_)
        · have c9 : ¬ a1.toInt = 0 := c9
          refine And.intro ⟨by omega, by omega⟩ ?_
          intro v10 e11
          intro v12 e13
          refine And.intro (fun c14 => ?_) (fun c14 => ?_)
          · have c14 : ¬ v12.toInt = 0 := c14
            refine And.intro ⟨by omega, by omega⟩ ?_
            intro v15 e16
            refine And.intro (Nat.le_of_ble_eq_true rfl) (And.intro ⟨55, v15, rfl, by decide, i0⟩ ?_)
            intro v17 s19 h18
            have h18 : Iv s19 ∧ Kp s0 s19 ∧ (v17 = v15) := h18
            have i20 := h18.1
            have k21 : Kp s0 s19 := Kx.tr Kx.rf (h18.2.1)
            have q22 := h18.2.2
            show Iv s19 ∧ Kp s0 s19 ∧ (True)
            exact ⟨i20, k21, (trivial)⟩
          · have c14 : ¬ (¬ v12.toInt = 0) := c14
            refine And.intro (Nat.le_of_ble_eq_true rfl) (And.intro ⟨55, (Int32.ofInt 5), rfl, by decide, i0⟩ ?_)
            intro v23 s25 h24
            have h24 : Iv s25 ∧ Kp s0 s25 ∧ (v23.toInt = -1) := h24
            have i26 := h24.1
            have k27 : Kp s0 s25 := Kx.tr Kx.rf (h24.2.1)
            have q28 := h24.2.2
            intro v29 e30
            show Iv s25 ∧ Kp s0 s25 ∧ (True)
            exact ⟨i26, k27, (trivial)⟩
        · have c9 : ¬ (¬ a1.toInt = 0) := c9
          refine And.intro ⟨by omega, by omega⟩ ?_
          intro v31 e32
          refine And.intro (Nat.le_of_ble_eq_true rfl) (And.intro ⟨55, v31, rfl, by decide, i0⟩ ?_)
          intro v33 s35 h34
          have h34 : Iv s35 ∧ Kp s0 s35 ∧ (v33 = v31) := h34
          have i36 := h34.1
          have k37 : Kp s0 s35 := Kx.tr Kx.rf (h34.2.1)
          have q38 := h34.2.2
          show Iv s35 ∧ Kp s0 s35 ∧ (True)
          exact ⟨i36, k37, (trivial)⟩
      · have c8 : ¬ (¬ v1.toInt = 0) := c8
        refine And.intro (Nat.le_of_ble_eq_true rfl) (And.intro ⟨55, (Int32.ofInt 1), rfl, by decide, i0⟩ ?_)
        intro v39 s41 h40
        have h40 : Iv s41 ∧ Kp s0 s41 ∧ (v39.toInt = -1) := h40
        have i42 := h40.1
        have k43 : Kp s0 s41 := Kx.tr Kx.rf (h40.2.1)
        have q44 := h40.2.2
        intro v45 e46
        show Iv s41 ∧ Kp s0 s41 ∧ (True)
        exact ⟨i42, k43, (trivial)⟩
def o_X11_unlikeNone : List vg_I := [(0, .iconst 0, 1, 0, 0, 0, 0), (1, .istore_n 2, 1, 0, 0, 0, 0), (2, .iconst 0, 1, 0, 0, 0, 0), (3, .istore_n 3, 1, 0, 0, 0, 0), (4, .iload_n 3, 1, 0, 0, 0, 0), (5, .aload_n 0, 1, 0, 0, 0, 0), (6, .iload_n 1, 1, 0, 0, 0, 0), (7, .invokevirtual 195, 3, 0, 11, 1, 1361), (10, .if_icmp .ge 26, 3, 0, 0, 0, 0), (13, .iload_n 2, 1, 0, 0, 0, 0), (14, .aload_n 0, 1, 0, 0, 0, 0), (15, .iload_n 1, 1, 0, 0, 0, 0), (16, .iload_n 3, 1, 0, 0, 0, 0), (17, .invokevirtual 201, 3, 1, 11, 2, 1365), (20, .ifCond .eq 7, 3, 0, 0, 0, 0), (23, .iconst 1, 1, 0, 0, 0, 0), (24, .goto 4, 3, 0, 0, 0, 0), (27, .iconst 0, 1, 0, 0, 0, 0), (28, .iadd, 1, 0, 0, 0, 0), (29, .istore_n 2, 1, 0, 0, 0, 0), (30, .iinc 3 1, 3, 0, 0, 0, 0), (33, .goto (-29), 3, 0, 0, 0, 0), (36, .iload_n 2, 1, 0, 0, 0, 0), (37, .ireturn, 1, 0, 0, 0, 0)]
set_option maxRecDepth 100000 in
set_option maxHeartbeats 4000000 in
theorem c_X11_unlikeNone (l : Launch) (G : vg_G) (hp : vg_Hp G) : vg_Ct l G vg_sh r_X11_unlikeNone := by
  refine vg_meth hp vg_sh_ok r_X11_unlikeNone k_X11_unlikeNone rfl (fun h => by cases h) o_X11_unlikeNone [r_X11_tapMany, r_X11_tapOf] false (by decide +kernel) (by decide +kernel) ⟨_, _, rfl, rfl⟩ (List.forall_mem_cons.mpr ⟨⟨c_X11_tapMany l G hp, Nat.le_of_ble_eq_true rfl, Nat.le_of_ble_eq_true rfl⟩, List.forall_mem_cons.mpr ⟨⟨c_X11_tapOf l G hp, Nat.le_of_ble_eq_true rfl, Nat.le_of_ble_eq_true rfl⟩, fun _ h => absurd h List.not_mem_nil⟩⟩) (fun h => by cases h) 600 ?_
  intro as s0 hpre
  obtain ⟨r, a1, rfl, hr, i0⟩ := hpre
  simp only [List.mem_cons, List.not_mem_nil, or_false] at hr
  rcases hr with rfl
  ·
    have z0 : (Int32.ofInt 0).toInt = 0 := by decide
    have z1 : (Int32.ofInt 1).toInt = 1 := by decide
    refine ⟨Nat.le_of_ble_eq_true rfl, [(4, [true, true, true, true], (fun L t => ∃ (x2 : Int32) (x3 : Int32), L = [some (.ref 55), some (.int a1), some (.int x2), some (.int x3)] ∧ (0 : Int) ≤ x3.toInt ∧ x3.toInt ≤ (11 : Int) ∧ (x2 = vg_cnt (vg_tp (s0.1 61) a1) x3.toNatClampNeg ∧ x3.toInt ≤ (vg_tn a1 : Int)) ∧ t = s0), (fun L _ => (0 + (11 - (vg_li L 3).toInt) * 1000000000000).toNat))], ?_, List.forall_mem_cons.mpr ⟨?_, fun _ h => absurd h List.not_mem_nil⟩⟩
    ·
      exact ⟨rfl, ⟨(Int32.ofInt 0), (Int32.ofInt 0), rfl, (by omega), (by omega), (by first | exact ⟨rfl, by omega⟩ | exact ⟨vg_cnt_s1 None.1 None None None (by omega) (by omega), by omega⟩ | exact ⟨vg_cnt_s2 None.1 None None None (by omega) (by omega), by omega⟩), rfl⟩, trivial⟩
    ·
      intro L s6 hL
      obtain ⟨w1, w2, rfl, b3, b4, x5, q9⟩ := hL
      have q9 := q9.symm
      subst q9
      refine And.intro (Nat.le_of_ble_eq_true rfl) (And.intro ⟨55, a1, rfl, by decide, i0⟩ ?_)
      intro v10 s12 h11
      have h11 : s12 = s0 ∧ (((a1.toInt = 0 ∧ v10.toInt = 3) ∨ (a1.toInt = 2 ∧ v10.toInt = 11) ∨ (¬ a1.toInt = 0 ∧ ¬ a1.toInt = 2 ∧ v10.toInt = 7)) ∧ v10.toInt = (vg_tn a1 : Int)) := h11
      have q15 := h11.1.symm
      subst q15
      have q16 := h11.2
      refine And.intro (fun c17 => ?_) (fun c17 => ?_)
      · have c17 : v10.toInt ≤ w2.toInt := c17
        show s0 = s0 ∧ (w1 = vg_cnt (vg_tp (s0.1 61) a1) (vg_tn a1))
        exact ⟨rfl, (vg_cnt_to x5.1 (by omega))⟩
      · have c17 : ¬ (v10.toInt ≤ w2.toInt) := c17
        refine And.intro (Nat.le_of_ble_eq_true rfl) (And.intro ⟨55, a1, w2, rfl, by decide, i0, by omega⟩ ?_)
        intro v18 s20 h19
        have h19 : s20 = s0 ∧ (v18 = vg_tp (s0.1 61) a1 w2.toNatClampNeg) := h19
        have q23 := h19.1.symm
        subst q23
        have q24 := h19.2
        refine And.intro (fun c25 => ?_) (fun c25 => ?_)
        · have c25 : v18.toInt = 0 := c25
          intro v26 e27
          intro v28 e29
          have b30 := vg_add e29 (by omega) (by omega)
          exact ⟨rfl, ⟨v26, v28, rfl, (by omega), (by omega), (by first | exact ⟨rfl, by omega⟩ | exact ⟨vg_cnt_s1 x5.1 q24 c25 e27 (by omega) (by omega), by omega⟩ | exact ⟨vg_cnt_s2 x5.1 q24 c25 e27 (by omega) (by omega), by omega⟩), rfl⟩, (by show (0 + (11 - v28.toInt) * 1000000000000).toNat < (0 + (11 - w2.toInt) * 1000000000000).toNat; omega)⟩
        · have c25 : ¬ (v18.toInt = 0) := c25
          intro v31 e32
          intro v33 e34
          have b35 := vg_add e34 (by omega) (by omega)
          exact ⟨rfl, ⟨v31, v33, rfl, (by omega), (by omega), (by first | exact ⟨rfl, by omega⟩ | exact ⟨vg_cnt_s1 x5.1 q24 c25 e32 (by omega) (by omega), by omega⟩ | exact ⟨vg_cnt_s2 x5.1 q24 c25 e32 (by omega) (by omega), by omega⟩), rfl⟩, (by show (0 + (11 - v33.toInt) * 1000000000000).toNat < (0 + (11 - w2.toInt) * 1000000000000).toNat; omega)⟩
def o_X11_work : List vg_I := [(0, .iload_n 2, 1, 0, 0, 0, 0), (1, .iconst 0, 1, 0, 0, 0, 0), (2, .iconst 1, 1, 0, 0, 0, 0), (3, .invokestatic 76, 3, 0, 1, 3, 1175), (6, .ifCond .ne 9, 3, 0, 0, 0, 0), (9, .aload_n 0, 1, 0, 0, 0, 0), (10, .iconst 1, 1, 0, 0, 0, 0), (11, .invokevirtual 242, 3, 1, 11, 1, 1181), (14, .ireturn, 1, 0, 0, 0, 0), (15, .iload_n 1, 1, 0, 0, 0, 0), (16, .iconst 0, 1, 0, 0, 0, 0), (17, .aload_n 0, 1, 0, 0, 0, 0), (18, .getfield 228, 3, 1081, 11, 20, 0), (21, .iconst 1, 1, 0, 0, 0, 0), (22, .isub, 1, 0, 0, 0, 0), (23, .invokestatic 76, 3, 0, 1, 3, 1175), (26, .ifCond .ne 9, 3, 0, 0, 0, 0), (29, .aload_n 0, 1, 0, 0, 0, 0), (30, .iconst 2, 1, 0, 0, 0, 0), (31, .invokevirtual 242, 3, 1, 11, 1, 1181), (34, .ireturn, 1, 0, 0, 0, 0), (35, .aload_n 0, 1, 0, 0, 0, 0), (36, .aload_n 0, 1, 0, 0, 0, 0), (37, .getfield 49, 3, 1085, 11, 24, 0), (40, .iload_n 1, 1, 0, 0, 0, 0), (41, .iaload, 1, 0, 0, 0, 0), (42, .invokevirtual 276, 3, 2, 11, 1, 1433), (45, .istore_n 3, 1, 0, 0, 0, 0), (46, .iload_n 2, 1, 0, 0, 0, 0), (47, .ifCond .ne 7, 3, 0, 0, 0, 0), (50, .iload_n 3, 1, 0, 0, 0, 0), (51, .goto 8, 3, 0, 0, 0, 0), (54, .iload_n 3, 1, 0, 0, 0, 0), (55, .iconst 1, 1, 0, 0, 0, 0), (56, .iadd, 1, 0, 0, 0, 0), (57, .iconst 2, 1, 0, 0, 0, 0), (58, .idiv, 1, 0, 0, 0, 0), (59, .istore 4, 2, 0, 0, 0, 0), (61, .aload_n 0, 1, 0, 0, 0, 0), (62, .iload 4, 2, 0, 0, 0, 0), (64, .aload_n 0, 1, 0, 0, 0, 0), (65, .bipush 20, 2, 0, 0, 0, 0), (67, .iload_n 1, 1, 0, 0, 0, 0), (68, .iadd, 1, 0, 0, 0, 0), (69, .invokevirtual 110, 3, 3, 11, 1, 1202), (72, .imul, 1, 0, 0, 0, 0), (73, .invokevirtual 249, 3, 4, 11, 1, 1206), (76, .ireturn, 1, 0, 0, 0, 0)]
set_option maxRecDepth 100000 in
set_option maxHeartbeats 4000000 in
theorem c_X11_work (l : Launch) (G : vg_G) (hp : vg_Hp G) : vg_Ct l G vg_sh r_X11_work := by
  refine vg_meth hp vg_sh_ok r_X11_work k_X11_work rfl (fun h => by cases h) o_X11_work [r_X11_isFrom, r_X11_refuse, r_X11_unlikeNone, r_X11_get, r_X11_gives] false (by decide +kernel) (by decide +kernel) ⟨_, _, rfl, rfl⟩ (List.forall_mem_cons.mpr ⟨⟨c_X11_isFrom l G hp, Nat.le_of_ble_eq_true rfl, Nat.le_of_ble_eq_true rfl⟩, List.forall_mem_cons.mpr ⟨⟨c_X11_refuse l G hp, Nat.le_of_ble_eq_true rfl, Nat.le_of_ble_eq_true rfl⟩, List.forall_mem_cons.mpr ⟨⟨c_X11_unlikeNone l G hp, Nat.le_of_ble_eq_true rfl, Nat.le_of_ble_eq_true rfl⟩, List.forall_mem_cons.mpr ⟨⟨c_X11_get l G hp, Nat.le_of_ble_eq_true rfl, Nat.le_of_ble_eq_true rfl⟩, List.forall_mem_cons.mpr ⟨⟨c_X11_gives l G hp, Nat.le_of_ble_eq_true rfl, Nat.le_of_ble_eq_true rfl⟩, fun _ h => absurd h List.not_mem_nil⟩⟩⟩⟩⟩) (fun h => by cases h) 600 ?_
  intro as s0 hpre
  obtain ⟨r, a1, a2, rfl, hr, i0⟩ := hpre
  simp only [List.mem_cons, List.not_mem_nil, or_false] at hr
  rcases hr with rfl
  ·
    have z0 : (Int32.ofInt 0).toInt = 0 := by decide
    have z1 : (Int32.ofInt 1).toInt = 1 := by decide
    have z2 : (Int32.ofInt 2).toInt = 2 := by decide
    have z20 : (Int32.ofInt 20).toInt = 20 := by decide
    refine ⟨Nat.le_of_ble_eq_true rfl, [], ?_, fun _ h => absurd h List.not_mem_nil⟩
    ·
      refine And.intro (Nat.le_of_ble_eq_true rfl) (And.intro ⟨a2, (Int32.ofInt 0), (Int32.ofInt 1), rfl, trivial⟩ ?_)
      intro v1 s3 h2
      have h2 : s3 = s0 ∧ ((v1.toInt = 1 ∧ (Int32.ofInt 0).toInt ≤ a2.toInt ∧ a2.toInt ≤ (Int32.ofInt 1).toInt) ∨ (v1.toInt = 0 ∧ (a2.toInt < (Int32.ofInt 0).toInt ∨ (Int32.ofInt 1).toInt < a2.toInt))) := h2
      have q6 := h2.1.symm
      subst q6
      have q7 := h2.2
      refine And.intro (fun c8 => ?_) (fun c8 => ?_)
      · have c8 : ¬ v1.toInt = 0 := c8
        intro v9 e10
        have g11 : s0.1 55 20 = v9 := by rw [e10]
        have b12 : (0 : Int) ≤ v9.toInt ∧ v9.toInt ≤ 3 := by rw [e10]; exact Iv_55_20 i0
        intro v13 e14
        have b15 := vg_sub e14 (by omega) (by omega)
        refine And.intro (Nat.le_of_ble_eq_true rfl) (And.intro ⟨a1, (Int32.ofInt 0), v13, rfl, trivial⟩ ?_)
        intro v16 s18 h17
        have h17 : s18 = s0 ∧ ((v16.toInt = 1 ∧ (Int32.ofInt 0).toInt ≤ a1.toInt ∧ a1.toInt ≤ v13.toInt) ∨ (v16.toInt = 0 ∧ (a1.toInt < (Int32.ofInt 0).toInt ∨ v13.toInt < a1.toInt))) := h17
        have q21 := h17.1.symm
        subst q21
        have q22 := h17.2
        refine And.intro (fun c23 => ?_) (fun c23 => ?_)
        · have c23 : ¬ v16.toInt = 0 := c23
          refine And.intro ⟨by omega, by omega⟩ ?_
          intro v24 e25
          refine And.intro (Nat.le_of_ble_eq_true rfl) (And.intro ⟨55, v24, rfl, by decide, i0⟩ ?_)
          intro v26 s28 h27
          have h27 : s28 = s0 ∧ (v26 = vg_cnt (vg_tp (s0.1 61) v24) (vg_tn v24)) := h27
          have q31 := h27.1.symm
          subst q31
          have q32 := h27.2
          refine And.intro (fun c33 => ?_) (fun c33 => ?_)
          · have c33 : ¬ a2.toInt = 0 := c33
            intro v34 e35
            refine And.intro (by omega) ?_
            intro v36 e37
            intro v38 e39
            have b40 := vg_add e39 (by omega) (by omega)
            refine And.intro (Nat.le_of_ble_eq_true rfl) (And.intro ⟨55, v38, rfl, by decide, i0, by omega⟩ ?_)
            intro v41 s43 h42
            have h42 : s43 = s0 ∧ (v41 = (s0.2 56 v38.toNatClampNeg).toInt32) := h42
            have q46 := h42.1.symm
            subst q46
            have q47 := h42.2
            intro v48 e49
            refine And.intro (Nat.le_of_ble_eq_true rfl) (And.intro ⟨55, v48, rfl, by decide, i0⟩ ?_)
            intro v50 s52 h51
            have h51 : Iv s52 ∧ Kp s0 s52 ∧ (v50 = v48 ∧ v50.toInt = v48.toInt) := h51
            have i53 := h51.1
            have k54 : Kp s0 s52 := Kx.tr Kx.rf (h51.2.1)
            have q55 := h51.2.2
            show Iv s52 ∧ Kp s0 s52 ∧ (True)
            exact ⟨i53, k54, (trivial)⟩
          · have c33 : ¬ (¬ a2.toInt = 0) := c33
            intro v56 e57
            have b58 := vg_add e57 (by omega) (by omega)
            refine And.intro (Nat.le_of_ble_eq_true rfl) (And.intro ⟨55, v56, rfl, by decide, i0, by omega⟩ ?_)
            intro v59 s61 h60
            have h60 : s61 = s0 ∧ (v59 = (s0.2 56 v56.toNatClampNeg).toInt32) := h60
            have q64 := h60.1.symm
            subst q64
            have q65 := h60.2
            intro v66 e67
            refine And.intro (Nat.le_of_ble_eq_true rfl) (And.intro ⟨55, v66, rfl, by decide, i0⟩ ?_)
            intro v68 s70 h69
            have h69 : Iv s70 ∧ Kp s0 s70 ∧ (v68 = v66 ∧ v68.toInt = v66.toInt) := h69
            have i71 := h69.1
            have k72 : Kp s0 s70 := Kx.tr Kx.rf (h69.2.1)
            have q73 := h69.2.2
            show Iv s70 ∧ Kp s0 s70 ∧ (True)
            exact ⟨i71, k72, (trivial)⟩
        · have c23 : ¬ (¬ v16.toInt = 0) := c23
          refine And.intro (Nat.le_of_ble_eq_true rfl) (And.intro ⟨55, (Int32.ofInt 2), rfl, by decide, i0⟩ ?_)
          intro v74 s76 h75
          have h75 : Iv s76 ∧ Kp s0 s76 ∧ (v74.toInt = -1) := h75
          have i77 := h75.1
          have k78 : Kp s0 s76 := Kx.tr Kx.rf (h75.2.1)
          have q79 := h75.2.2
          show Iv s76 ∧ Kp s0 s76 ∧ (True)
          exact ⟨i77, k78, (trivial)⟩
      · have c8 : ¬ (¬ v1.toInt = 0) := c8
        refine And.intro (Nat.le_of_ble_eq_true rfl) (And.intro ⟨55, (Int32.ofInt 1), rfl, by decide, i0⟩ ?_)
        intro v80 s82 h81
        have h81 : Iv s82 ∧ Kp s0 s82 ∧ (v80.toInt = -1) := h81
        have i83 := h81.1
        have k84 : Kp s0 s82 := Kx.tr Kx.rf (h81.2.1)
        have q85 := h81.2.2
        show Iv s82 ∧ Kp s0 s82 ∧ (True)
        exact ⟨i83, k84, (trivial)⟩
def o_X11_next : List vg_I := [(0, .iload_n 1, 1, 0, 0, 0, 0), (1, .iconst 0, 1, 0, 0, 0, 0), (2, .aload_n 0, 1, 0, 0, 0, 0), (3, .invokevirtual 102, 3, 0, 11, 0, 1218), (6, .invokestatic 76, 3, 1, 1, 3, 1175), (9, .ifCond .eq 15, 3, 0, 0, 0, 0), (12, .aload_n 0, 1, 0, 0, 0, 0), (13, .aload_n 0, 1, 0, 0, 0, 0), (14, .iload_n 1, 1, 0, 0, 0, 0), (15, .invokevirtual 178, 3, 2, 11, 1, 1332), (18, .invokevirtual 249, 3, 3, 11, 1, 1206), (21, .goto 8, 3, 0, 0, 0, 0), (24, .aload_n 0, 1, 0, 0, 0, 0), (25, .iconst 1, 1, 0, 0, 0, 0), (26, .invokevirtual 242, 3, 4, 11, 1, 1181), (29, .ireturn, 1, 0, 0, 0, 0)]
set_option maxRecDepth 100000 in
set_option maxHeartbeats 4000000 in
theorem c_X11_next (l : Launch) (G : vg_G) (hp : vg_Hp G) : vg_Ct l G vg_sh r_X11_next := by
  refine vg_meth hp vg_sh_ok r_X11_next k_X11_next rfl (fun h => by cases h) o_X11_next [r_X11_elements, r_X11_isFrom, r_X11_wouldBeOn, r_X11_gives, r_X11_refuse] false (by decide +kernel) (by decide +kernel) ⟨_, _, rfl, rfl⟩ (List.forall_mem_cons.mpr ⟨⟨c_X11_elements l G hp, Nat.le_of_ble_eq_true rfl, Nat.le_of_ble_eq_true rfl⟩, List.forall_mem_cons.mpr ⟨⟨c_X11_isFrom l G hp, Nat.le_of_ble_eq_true rfl, Nat.le_of_ble_eq_true rfl⟩, List.forall_mem_cons.mpr ⟨⟨c_X11_wouldBeOn l G hp, Nat.le_of_ble_eq_true rfl, Nat.le_of_ble_eq_true rfl⟩, List.forall_mem_cons.mpr ⟨⟨c_X11_gives l G hp, Nat.le_of_ble_eq_true rfl, Nat.le_of_ble_eq_true rfl⟩, List.forall_mem_cons.mpr ⟨⟨c_X11_refuse l G hp, Nat.le_of_ble_eq_true rfl, Nat.le_of_ble_eq_true rfl⟩, fun _ h => absurd h List.not_mem_nil⟩⟩⟩⟩⟩) (fun h => by cases h) 600 ?_
  intro as s0 hpre
  obtain ⟨r, a1, rfl, hr, i0⟩ := hpre
  simp only [List.mem_cons, List.not_mem_nil, or_false] at hr
  rcases hr with rfl
  ·
    have z0 : (Int32.ofInt 0).toInt = 0 := by decide
    have z1 : (Int32.ofInt 1).toInt = 1 := by decide
    refine ⟨Nat.le_of_ble_eq_true rfl, [], ?_, fun _ h => absurd h List.not_mem_nil⟩
    ·
      refine And.intro (Nat.le_of_ble_eq_true rfl) (And.intro ⟨55, rfl, by decide, i0⟩ ?_)
      intro v1 s3 h2
      have h2 : s3 = s0 ∧ (v1 = vg_me s0 ∧ 1 ≤ v1.toInt ∧ v1.toInt ≤ 16) := h2
      have q6 := h2.1.symm
      subst q6
      have q7 := h2.2
      refine And.intro (Nat.le_of_ble_eq_true rfl) (And.intro ⟨a1, (Int32.ofInt 0), v1, rfl, trivial⟩ ?_)
      intro v8 s10 h9
      have h9 : s10 = s0 ∧ ((v8.toInt = 1 ∧ (Int32.ofInt 0).toInt ≤ a1.toInt ∧ a1.toInt ≤ v1.toInt) ∨ (v8.toInt = 0 ∧ (a1.toInt < (Int32.ofInt 0).toInt ∨ v1.toInt < a1.toInt))) := h9
      have q13 := h9.1.symm
      subst q13
      have q14 := h9.2
      refine And.intro (fun c15 => ?_) (fun c15 => ?_)
      · have c15 : v8.toInt = 0 := c15
        refine And.intro (Nat.le_of_ble_eq_true rfl) (And.intro ⟨55, (Int32.ofInt 1), rfl, by decide, i0⟩ ?_)
        intro v16 s18 h17
        have h17 : Iv s18 ∧ Kp s0 s18 ∧ (v16.toInt = -1) := h17
        have i19 := h17.1
        have k20 : Kp s0 s18 := Kx.tr Kx.rf (h17.2.1)
        have q21 := h17.2.2
        show Iv s18 ∧ Kp s0 s18 ∧ (True)
        exact ⟨i19, k20, (trivial)⟩
      · have c15 : ¬ (v8.toInt = 0) := c15
        refine And.intro (Nat.le_of_ble_eq_true rfl) (And.intro ⟨55, a1, rfl, by decide, i0⟩ ?_)
        intro v22 s24 h23
        have h23 : s24 = s0 ∧ (True) := h23
        have q27 := h23.1.symm
        subst q27
        refine And.intro (Nat.le_of_ble_eq_true rfl) (And.intro ⟨55, v22, rfl, by decide, i0⟩ ?_)
        intro v28 s30 h29
        have h29 : Iv s30 ∧ Kp s0 s30 ∧ (v28 = v22 ∧ v28.toInt = v22.toInt) := h29
        have i31 := h29.1
        have k32 : Kp s0 s30 := Kx.tr Kx.rf (h29.2.1)
        have q33 := h29.2.2
        show Iv s30 ∧ Kp s0 s30 ∧ (True)
        exact ⟨i31, k32, (trivial)⟩
def o_X11_loop : List vg_I := [(0, .iload_n 1, 1, 0, 0, 0, 0), (1, .iconst 0, 1, 0, 0, 0, 0), (2, .iconst 2, 1, 0, 0, 0, 0), (3, .invokestatic 76, 3, 0, 1, 3, 1175), (6, .ifCond .eq 49, 3, 0, 0, 0, 0), (9, .iload_n 2, 1, 0, 0, 0, 0), (10, .iconst 1, 1, 0, 0, 0, 0), (11, .iconst 4, 1, 0, 0, 0, 0), (12, .invokestatic 76, 3, 0, 1, 3, 1175), (15, .ifCond .eq 40, 3, 0, 0, 0, 0), (18, .iload_n 3, 1, 0, 0, 0, 0), (19, .iconst 1, 1, 0, 0, 0, 0), (20, .sipush 5000, 3, 0, 0, 0, 0), (23, .invokestatic 76, 3, 0, 1, 3, 1175), (26, .ifCond .eq 29, 3, 0, 0, 0, 0), (29, .iload 4, 2, 0, 0, 0, 0), (31, .iconst 2, 1, 0, 0, 0, 0), (32, .bipush 17, 2, 0, 0, 0, 0), (34, .invokestatic 76, 3, 0, 1, 3, 1175), (37, .ifCond .eq 18, 3, 0, 0, 0, 0), (40, .iload 5, 2, 0, 0, 0, 0), (42, .iconst 1, 1, 0, 0, 0, 0), (43, .ldc 29, 2, 1060, 0, 0, 60000), (45, .invokestatic 76, 3, 0, 1, 3, 1175), (48, .ifCond .eq 7, 3, 0, 0, 0, 0), (51, .iconst 1, 1, 0, 0, 0, 0), (52, .goto 4, 3, 0, 0, 0, 0), (55, .iconst 0, 1, 0, 0, 0, 0), (56, .istore 7, 2, 0, 0, 0, 0), (58, .iload 7, 2, 0, 0, 0, 0), (60, .ifCond .eq 23, 3, 0, 0, 0, 0), (63, .iload_n 1, 1, 0, 0, 0, 0), (64, .iconst 2, 1, 0, 0, 0, 0), (65, .if_icmp .ne 24, 3, 0, 0, 0, 0), (68, .iload 4, 2, 0, 0, 0, 0), (70, .iconst 1, 1, 0, 0, 0, 0), (71, .isub, 1, 0, 0, 0, 0), (72, .iconst 1, 1, 0, 0, 0, 0), (73, .iload_n 2, 1, 0, 0, 0, 0), (74, .ishl, 1, 0, 0, 0, 0), (75, .iconst 1, 1, 0, 0, 0, 0), (76, .isub, 1, 0, 0, 0, 0), (77, .imul, 1, 0, 0, 0, 0), (78, .bipush 16, 2, 0, 0, 0, 0), (80, .if_icmp .le 9, 3, 0, 0, 0, 0), (83, .aload_n 0, 1, 0, 0, 0, 0), (84, .iconst 1, 1, 0, 0, 0, 0), (85, .invokevirtual 242, 3, 1, 11, 1, 1181), (88, .ireturn, 1, 0, 0, 0, 0), (89, .aload_n 0, 1, 0, 0, 0, 0), (90, .iload_n 1, 1, 0, 0, 0, 0), (91, .putfield 99, 3, 1068, 11, 7, 0), (94, .aload_n 0, 1, 0, 0, 0, 0), (95, .iload_n 2, 1, 0, 0, 0, 0), (96, .putfield 20, 3, 1069, 11, 8, 0), (99, .aload_n 0, 1, 0, 0, 0, 0), (100, .iload_n 3, 1, 0, 0, 0, 0), (101, .putfield 23, 3, 1070, 11, 9, 0), (104, .aload_n 0, 1, 0, 0, 0, 0), (105, .iload 4, 2, 0, 0, 0, 0), (107, .putfield 26, 3, 1071, 11, 10, 0), (110, .aload_n 0, 1, 0, 0, 0, 0), (111, .iload 5, 2, 0, 0, 0, 0), (113, .putfield 30, 3, 1072, 11, 11, 0), (116, .aload_n 0, 1, 0, 0, 0, 0), (117, .iload 6, 2, 0, 0, 0, 0), (119, .putfield 154, 3, 1075, 11, 14, 1), (122, .aload_n 0, 1, 0, 0, 0, 0), (123, .iconst 0, 1, 0, 0, 0, 0), (124, .putfield 252, 3, 1094, 11, 33, 0), (127, .aload_n 0, 1, 0, 0, 0, 0), (128, .iconst 1, 1, 0, 0, 0, 0), (129, .invokevirtual 245, 3, 2, 11, 1, 1185), (132, .aload_n 0, 1, 0, 0, 0, 0), (133, .aload_n 0, 1, 0, 0, 0, 0), (134, .invokevirtual 102, 3, 3, 11, 0, 1218), (137, .invokevirtual 249, 3, 4, 11, 1, 1206), (140, .ireturn, 1, 0, 0, 0, 0)]
set_option maxRecDepth 100000 in
set_option maxHeartbeats 4000000 in
theorem c_X11_loop (l : Launch) (G : vg_G) (hp : vg_Hp G) : vg_Ct l G vg_sh r_X11_loop := by
  refine vg_meth hp vg_sh_ok r_X11_loop k_X11_loop rfl (fun h => by cases h) o_X11_loop [r_X11_isFrom, r_X11_refuse, r_X11_begins, r_X11_elements, r_X11_gives] false (by decide +kernel) (by decide +kernel) ⟨_, _, rfl, rfl⟩ (List.forall_mem_cons.mpr ⟨⟨c_X11_isFrom l G hp, Nat.le_of_ble_eq_true rfl, Nat.le_of_ble_eq_true rfl⟩, List.forall_mem_cons.mpr ⟨⟨c_X11_refuse l G hp, Nat.le_of_ble_eq_true rfl, Nat.le_of_ble_eq_true rfl⟩, List.forall_mem_cons.mpr ⟨⟨c_X11_begins l G hp, Nat.le_of_ble_eq_true rfl, Nat.le_of_ble_eq_true rfl⟩, List.forall_mem_cons.mpr ⟨⟨c_X11_elements l G hp, Nat.le_of_ble_eq_true rfl, Nat.le_of_ble_eq_true rfl⟩, List.forall_mem_cons.mpr ⟨⟨c_X11_gives l G hp, Nat.le_of_ble_eq_true rfl, Nat.le_of_ble_eq_true rfl⟩, fun _ h => absurd h List.not_mem_nil⟩⟩⟩⟩⟩) (fun h => by cases h) 600 ?_
  intro as s0 hpre
  obtain ⟨r, a1, a2, a3, a4, a5, a6, rfl, hr, i0, p0⟩ := hpre
  simp only [List.mem_cons, List.not_mem_nil, or_false] at hr
  rcases hr with rfl
  ·
    have z0 : (Int32.ofInt 0).toInt = 0 := by decide
    have z1 : (Int32.ofInt 1).toInt = 1 := by decide
    have z2 : (Int32.ofInt 2).toInt = 2 := by decide
    have z4 : (Int32.ofInt 4).toInt = 4 := by decide
    have z16 : (Int32.ofInt 16).toInt = 16 := by decide
    have z17 : (Int32.ofInt 17).toInt = 17 := by decide
    have z5000 : (Int32.ofInt 5000).toInt = 5000 := by decide
    have z60000 : (Int32.ofInt 60000).toInt = 60000 := by decide
    refine ⟨Nat.le_of_ble_eq_true rfl, [], ?_, fun _ h => absurd h List.not_mem_nil⟩
    ·
      refine And.intro (Nat.le_of_ble_eq_true rfl) (And.intro ⟨a1, (Int32.ofInt 0), (Int32.ofInt 2), rfl, trivial⟩ ?_)
      intro v1 s3 h2
      have h2 : s3 = s0 ∧ ((v1.toInt = 1 ∧ (Int32.ofInt 0).toInt ≤ a1.toInt ∧ a1.toInt ≤ (Int32.ofInt 2).toInt) ∨ (v1.toInt = 0 ∧ (a1.toInt < (Int32.ofInt 0).toInt ∨ (Int32.ofInt 2).toInt < a1.toInt))) := h2
      have q6 := h2.1.symm
      subst q6
      have q7 := h2.2
      refine And.intro (fun c8 => ?_) (fun c8 => ?_)
      · have c8 : v1.toInt = 0 := c8
        refine And.intro (fun c9 => ?_) (fun c9 => ?_)
        · have c9 : (Int32.ofInt 0).toInt = 0 := c9
          refine And.intro (Nat.le_of_ble_eq_true rfl) (And.intro ⟨55, (Int32.ofInt 1), rfl, by decide, i0⟩ ?_)
          intro v10 s12 h11
          have h11 : Iv s12 ∧ Kp s0 s12 ∧ (v10.toInt = -1) := h11
          have i13 := h11.1
          have k14 : K_X11_loop s0 s12 := Kx.tr Kx.rf ((h11.2.1).px)
          have q15 := h11.2.2
          show Iv s12 ∧ K_X11_loop s0 s12 ∧ (((0 ≤ a1.toInt ∧ a1.toInt ≤ 2 ∧ 1 ≤ a2.toInt ∧ a2.toInt ≤ 4 ∧ 1 ≤ a3.toInt ∧ a3.toInt ≤ 5000 ∧ 2 ≤ a4.toInt ∧ a4.toInt ≤ 17 ∧ 1 ≤ a5.toInt ∧ a5.toInt ≤ 60000 ∧ (vg_eo a1 a2 a4).toInt ≤ 16) ∧ v10.toInt = (vg_eo a1 a2 a4).toInt ∧ (vg_me s12).toInt = (vg_eo a1 a2 a4).toInt ∧ (s12.1 55 33).toInt = 0) ∨ (¬ (0 ≤ a1.toInt ∧ a1.toInt ≤ 2 ∧ 1 ≤ a2.toInt ∧ a2.toInt ≤ 4 ∧ 1 ≤ a3.toInt ∧ a3.toInt ≤ 5000 ∧ 2 ≤ a4.toInt ∧ a4.toInt ≤ 17 ∧ 1 ≤ a5.toInt ∧ a5.toInt ≤ 60000 ∧ (vg_eo a1 a2 a4).toInt ≤ 16) ∧ v10.toInt = -1 ∧ (vg_me s12).toInt = (vg_me s0).toInt ∧ (s12.1 55 33).toInt = (s0.1 55 33).toInt))
          exact ⟨i13, k14, (by first | exact Or.inl ⟨by omega, by omega, by simp only [vg_me, vg_eo, none, none, none], by rw [none]; exact z0⟩ | exact Or.inr ⟨by omega, by omega, congrArg Int32.toInt (vg_me_eq (h11.2.1.1 55 7 rfl) (h11.2.1.1 55 8 rfl) (h11.2.1.1 55 10 rfl)), congrArg Int32.toInt (h11.2.1.1 55 33 rfl)⟩)⟩
        · have c9 : ¬ ((Int32.ofInt 0).toInt = 0) := c9
          exfalso
          omega
      · have c8 : ¬ (v1.toInt = 0) := c8
        refine And.intro (Nat.le_of_ble_eq_true rfl) (And.intro ⟨a2, (Int32.ofInt 1), (Int32.ofInt 4), rfl, trivial⟩ ?_)
        intro v16 s18 h17
        have h17 : s18 = s0 ∧ ((v16.toInt = 1 ∧ (Int32.ofInt 1).toInt ≤ a2.toInt ∧ a2.toInt ≤ (Int32.ofInt 4).toInt) ∨ (v16.toInt = 0 ∧ (a2.toInt < (Int32.ofInt 1).toInt ∨ (Int32.ofInt 4).toInt < a2.toInt))) := h17
        have q21 := h17.1.symm
        subst q21
        have q22 := h17.2
        refine And.intro (fun c23 => ?_) (fun c23 => ?_)
        · have c23 : v16.toInt = 0 := c23
          refine And.intro (fun c24 => ?_) (fun c24 => ?_)
          · have c24 : (Int32.ofInt 0).toInt = 0 := c24
            refine And.intro (Nat.le_of_ble_eq_true rfl) (And.intro ⟨55, (Int32.ofInt 1), rfl, by decide, i0⟩ ?_)
            intro v25 s27 h26
            have h26 : Iv s27 ∧ Kp s0 s27 ∧ (v25.toInt = -1) := h26
            have i28 := h26.1
            have k29 : K_X11_loop s0 s27 := Kx.tr Kx.rf ((h26.2.1).px)
            have q30 := h26.2.2
            show Iv s27 ∧ K_X11_loop s0 s27 ∧ (((0 ≤ a1.toInt ∧ a1.toInt ≤ 2 ∧ 1 ≤ a2.toInt ∧ a2.toInt ≤ 4 ∧ 1 ≤ a3.toInt ∧ a3.toInt ≤ 5000 ∧ 2 ≤ a4.toInt ∧ a4.toInt ≤ 17 ∧ 1 ≤ a5.toInt ∧ a5.toInt ≤ 60000 ∧ (vg_eo a1 a2 a4).toInt ≤ 16) ∧ v25.toInt = (vg_eo a1 a2 a4).toInt ∧ (vg_me s27).toInt = (vg_eo a1 a2 a4).toInt ∧ (s27.1 55 33).toInt = 0) ∨ (¬ (0 ≤ a1.toInt ∧ a1.toInt ≤ 2 ∧ 1 ≤ a2.toInt ∧ a2.toInt ≤ 4 ∧ 1 ≤ a3.toInt ∧ a3.toInt ≤ 5000 ∧ 2 ≤ a4.toInt ∧ a4.toInt ≤ 17 ∧ 1 ≤ a5.toInt ∧ a5.toInt ≤ 60000 ∧ (vg_eo a1 a2 a4).toInt ≤ 16) ∧ v25.toInt = -1 ∧ (vg_me s27).toInt = (vg_me s0).toInt ∧ (s27.1 55 33).toInt = (s0.1 55 33).toInt))
            exact ⟨i28, k29, (by first | exact Or.inl ⟨by omega, by omega, by simp only [vg_me, vg_eo, none, none, none], by rw [none]; exact z0⟩ | exact Or.inr ⟨by omega, by omega, congrArg Int32.toInt (vg_me_eq (h26.2.1.1 55 7 rfl) (h26.2.1.1 55 8 rfl) (h26.2.1.1 55 10 rfl)), congrArg Int32.toInt (h26.2.1.1 55 33 rfl)⟩)⟩
          · have c24 : ¬ ((Int32.ofInt 0).toInt = 0) := c24
            exfalso
            omega
        · have c23 : ¬ (v16.toInt = 0) := c23
          refine And.intro (Nat.le_of_ble_eq_true rfl) (And.intro ⟨a3, (Int32.ofInt 1), (Int32.ofInt 5000), rfl, trivial⟩ ?_)
          intro v31 s33 h32
          have h32 : s33 = s0 ∧ ((v31.toInt = 1 ∧ (Int32.ofInt 1).toInt ≤ a3.toInt ∧ a3.toInt ≤ (Int32.ofInt 5000).toInt) ∨ (v31.toInt = 0 ∧ (a3.toInt < (Int32.ofInt 1).toInt ∨ (Int32.ofInt 5000).toInt < a3.toInt))) := h32
          have q36 := h32.1.symm
          subst q36
          have q37 := h32.2
          refine And.intro (fun c38 => ?_) (fun c38 => ?_)
          · have c38 : v31.toInt = 0 := c38
            refine And.intro (fun c39 => ?_) (fun c39 => ?_)
            · have c39 : (Int32.ofInt 0).toInt = 0 := c39
              refine And.intro (Nat.le_of_ble_eq_true rfl) (And.intro ⟨55, (Int32.ofInt 1), rfl, by decide, i0⟩ ?_)
              intro v40 s42 h41
              have h41 : Iv s42 ∧ Kp s0 s42 ∧ (v40.toInt = -1) := h41
              have i43 := h41.1
              have k44 : K_X11_loop s0 s42 := Kx.tr Kx.rf ((h41.2.1).px)
              have q45 := h41.2.2
              show Iv s42 ∧ K_X11_loop s0 s42 ∧ (((0 ≤ a1.toInt ∧ a1.toInt ≤ 2 ∧ 1 ≤ a2.toInt ∧ a2.toInt ≤ 4 ∧ 1 ≤ a3.toInt ∧ a3.toInt ≤ 5000 ∧ 2 ≤ a4.toInt ∧ a4.toInt ≤ 17 ∧ 1 ≤ a5.toInt ∧ a5.toInt ≤ 60000 ∧ (vg_eo a1 a2 a4).toInt ≤ 16) ∧ v40.toInt = (vg_eo a1 a2 a4).toInt ∧ (vg_me s42).toInt = (vg_eo a1 a2 a4).toInt ∧ (s42.1 55 33).toInt = 0) ∨ (¬ (0 ≤ a1.toInt ∧ a1.toInt ≤ 2 ∧ 1 ≤ a2.toInt ∧ a2.toInt ≤ 4 ∧ 1 ≤ a3.toInt ∧ a3.toInt ≤ 5000 ∧ 2 ≤ a4.toInt ∧ a4.toInt ≤ 17 ∧ 1 ≤ a5.toInt ∧ a5.toInt ≤ 60000 ∧ (vg_eo a1 a2 a4).toInt ≤ 16) ∧ v40.toInt = -1 ∧ (vg_me s42).toInt = (vg_me s0).toInt ∧ (s42.1 55 33).toInt = (s0.1 55 33).toInt))
              exact ⟨i43, k44, (by first | exact Or.inl ⟨by omega, by omega, by simp only [vg_me, vg_eo, none, none, none], by rw [none]; exact z0⟩ | exact Or.inr ⟨by omega, by omega, congrArg Int32.toInt (vg_me_eq (h41.2.1.1 55 7 rfl) (h41.2.1.1 55 8 rfl) (h41.2.1.1 55 10 rfl)), congrArg Int32.toInt (h41.2.1.1 55 33 rfl)⟩)⟩
            · have c39 : ¬ ((Int32.ofInt 0).toInt = 0) := c39
              exfalso
              omega
          · have c38 : ¬ (v31.toInt = 0) := c38
            refine And.intro (Nat.le_of_ble_eq_true rfl) (And.intro ⟨a4, (Int32.ofInt 2), (Int32.ofInt 17), rfl, trivial⟩ ?_)
            intro v46 s48 h47
            have h47 : s48 = s0 ∧ ((v46.toInt = 1 ∧ (Int32.ofInt 2).toInt ≤ a4.toInt ∧ a4.toInt ≤ (Int32.ofInt 17).toInt) ∨ (v46.toInt = 0 ∧ (a4.toInt < (Int32.ofInt 2).toInt ∨ (Int32.ofInt 17).toInt < a4.toInt))) := h47
            have q51 := h47.1.symm
            subst q51
            have q52 := h47.2
            refine And.intro (fun c53 => ?_) (fun c53 => ?_)
            · have c53 : v46.toInt = 0 := c53
              refine And.intro (fun c54 => ?_) (fun c54 => ?_)
              · have c54 : (Int32.ofInt 0).toInt = 0 := c54
                refine And.intro (Nat.le_of_ble_eq_true rfl) (And.intro ⟨55, (Int32.ofInt 1), rfl, by decide, i0⟩ ?_)
                intro v55 s57 h56
                have h56 : Iv s57 ∧ Kp s0 s57 ∧ (v55.toInt = -1) := h56
                have i58 := h56.1
                have k59 : K_X11_loop s0 s57 := Kx.tr Kx.rf ((h56.2.1).px)
                have q60 := h56.2.2
                show Iv s57 ∧ K_X11_loop s0 s57 ∧ (((0 ≤ a1.toInt ∧ a1.toInt ≤ 2 ∧ 1 ≤ a2.toInt ∧ a2.toInt ≤ 4 ∧ 1 ≤ a3.toInt ∧ a3.toInt ≤ 5000 ∧ 2 ≤ a4.toInt ∧ a4.toInt ≤ 17 ∧ 1 ≤ a5.toInt ∧ a5.toInt ≤ 60000 ∧ (vg_eo a1 a2 a4).toInt ≤ 16) ∧ v55.toInt = (vg_eo a1 a2 a4).toInt ∧ (vg_me s57).toInt = (vg_eo a1 a2 a4).toInt ∧ (s57.1 55 33).toInt = 0) ∨ (¬ (0 ≤ a1.toInt ∧ a1.toInt ≤ 2 ∧ 1 ≤ a2.toInt ∧ a2.toInt ≤ 4 ∧ 1 ≤ a3.toInt ∧ a3.toInt ≤ 5000 ∧ 2 ≤ a4.toInt ∧ a4.toInt ≤ 17 ∧ 1 ≤ a5.toInt ∧ a5.toInt ≤ 60000 ∧ (vg_eo a1 a2 a4).toInt ≤ 16) ∧ v55.toInt = -1 ∧ (vg_me s57).toInt = (vg_me s0).toInt ∧ (s57.1 55 33).toInt = (s0.1 55 33).toInt))
                exact ⟨i58, k59, (by first | exact Or.inl ⟨by omega, by omega, by simp only [vg_me, vg_eo, none, none, none], by rw [none]; exact z0⟩ | exact Or.inr ⟨by omega, by omega, congrArg Int32.toInt (vg_me_eq (h56.2.1.1 55 7 rfl) (h56.2.1.1 55 8 rfl) (h56.2.1.1 55 10 rfl)), congrArg Int32.toInt (h56.2.1.1 55 33 rfl)⟩)⟩
              · have c54 : ¬ ((Int32.ofInt 0).toInt = 0) := c54
                exfalso
                omega
            · have c53 : ¬ (v46.toInt = 0) := c53
              refine And.intro (Nat.le_of_ble_eq_true rfl) (And.intro ⟨a5, (Int32.ofInt 1), (Int32.ofInt 60000), rfl, trivial⟩ ?_)
              intro v61 s63 h62
              have h62 : s63 = s0 ∧ ((v61.toInt = 1 ∧ (Int32.ofInt 1).toInt ≤ a5.toInt ∧ a5.toInt ≤ (Int32.ofInt 60000).toInt) ∨ (v61.toInt = 0 ∧ (a5.toInt < (Int32.ofInt 1).toInt ∨ (Int32.ofInt 60000).toInt < a5.toInt))) := h62
              have q66 := h62.1.symm
              subst q66
              have q67 := h62.2
              refine And.intro (fun c68 => ?_) (fun c68 => ?_)
              · have c68 : v61.toInt = 0 := c68
                refine And.intro (fun c69 => ?_) (fun c69 => ?_)
                · have c69 : (Int32.ofInt 0).toInt = 0 := c69
                  refine And.intro (Nat.le_of_ble_eq_true rfl) (And.intro ⟨55, (Int32.ofInt 1), rfl, by decide, i0⟩ ?_)
                  intro v70 s72 h71
                  have h71 : Iv s72 ∧ Kp s0 s72 ∧ (v70.toInt = -1) := h71
                  have i73 := h71.1
                  have k74 : K_X11_loop s0 s72 := Kx.tr Kx.rf ((h71.2.1).px)
                  have q75 := h71.2.2
                  show Iv s72 ∧ K_X11_loop s0 s72 ∧ (((0 ≤ a1.toInt ∧ a1.toInt ≤ 2 ∧ 1 ≤ a2.toInt ∧ a2.toInt ≤ 4 ∧ 1 ≤ a3.toInt ∧ a3.toInt ≤ 5000 ∧ 2 ≤ a4.toInt ∧ a4.toInt ≤ 17 ∧ 1 ≤ a5.toInt ∧ a5.toInt ≤ 60000 ∧ (vg_eo a1 a2 a4).toInt ≤ 16) ∧ v70.toInt = (vg_eo a1 a2 a4).toInt ∧ (vg_me s72).toInt = (vg_eo a1 a2 a4).toInt ∧ (s72.1 55 33).toInt = 0) ∨ (¬ (0 ≤ a1.toInt ∧ a1.toInt ≤ 2 ∧ 1 ≤ a2.toInt ∧ a2.toInt ≤ 4 ∧ 1 ≤ a3.toInt ∧ a3.toInt ≤ 5000 ∧ 2 ≤ a4.toInt ∧ a4.toInt ≤ 17 ∧ 1 ≤ a5.toInt ∧ a5.toInt ≤ 60000 ∧ (vg_eo a1 a2 a4).toInt ≤ 16) ∧ v70.toInt = -1 ∧ (vg_me s72).toInt = (vg_me s0).toInt ∧ (s72.1 55 33).toInt = (s0.1 55 33).toInt))
                  exact ⟨i73, k74, (by first | exact Or.inl ⟨by omega, by omega, by simp only [vg_me, vg_eo, none, none, none], by rw [none]; exact z0⟩ | exact Or.inr ⟨by omega, by omega, congrArg Int32.toInt (vg_me_eq (h71.2.1.1 55 7 rfl) (h71.2.1.1 55 8 rfl) (h71.2.1.1 55 10 rfl)), congrArg Int32.toInt (h71.2.1.1 55 33 rfl)⟩)⟩
                · have c69 : ¬ ((Int32.ofInt 0).toInt = 0) := c69
                  exfalso
                  omega
              · have c68 : ¬ (v61.toInt = 0) := c68
                refine And.intro (fun c76 => ?_) (fun c76 => ?_)
                · have c76 : (Int32.ofInt 1).toInt = 0 := c76
                  exfalso
                  omega
                · have c76 : ¬ ((Int32.ofInt 1).toInt = 0) := c76
                  refine And.intro (fun c77 => ?_) (fun c77 => ?_)
                  · have c77 : ¬ a1.toInt = (Int32.ofInt 2).toInt := c77
                    have y2 : 1 ≤ (vg_eo a1 a2 a4).toInt ∧ (vg_eo a1 a2 a4).toInt ≤ 16 := by first | omega | (simp only [vg_eo]; rw [if_neg (by omega)]; have h9 := vg_sub (x := a4) (y := Int32.ofInt 1) rfl (by omega) (by omega); omega)
                    intro s78 e79
                    have k81 : K_X11_loop s0 s78 := Kx.u1 Kx.rf e79 rfl
                    have g82 : s78.1 55 7 = a1 := by rw [e79]; exact vg_u1_self
                    intro s83 e84
                    have k86 : K_X11_loop s0 s83 := Kx.u1 k81 e84 rfl
                    have g87 : s83.1 55 7 = a1 := by rw [e84, vg_u1_at (a := 55) (b := 7) (k := 55) (i := 8) (by decide)]; exact g82
                    have g88 : s83.1 55 8 = a2 := by rw [e84]; exact vg_u1_self
                    intro s89 e90
                    have k92 : K_X11_loop s0 s89 := Kx.u1 k86 e90 rfl
                    have g93 : s89.1 55 7 = a1 := by rw [e90, vg_u1_at (a := 55) (b := 7) (k := 55) (i := 9) (by decide)]; exact g87
                    have g94 : s89.1 55 8 = a2 := by rw [e90, vg_u1_at (a := 55) (b := 8) (k := 55) (i := 9) (by decide)]; exact g88
                    intro s95 e96
                    have k98 : K_X11_loop s0 s95 := Kx.u1 k92 e96 rfl
                    have g99 : s95.1 55 7 = a1 := by rw [e96, vg_u1_at (a := 55) (b := 7) (k := 55) (i := 10) (by decide)]; exact g93
                    have g100 : s95.1 55 8 = a2 := by rw [e96, vg_u1_at (a := 55) (b := 8) (k := 55) (i := 10) (by decide)]; exact g94
                    have g101 : s95.1 55 10 = a4 := by rw [e96]; exact vg_u1_self
                    intro s102 e103
                    have k105 : K_X11_loop s0 s102 := Kx.u1 k98 e103 rfl
                    have g106 : s102.1 55 7 = a1 := by rw [e103, vg_u1_at (a := 55) (b := 7) (k := 55) (i := 11) (by decide)]; exact g99
                    have g107 : s102.1 55 8 = a2 := by rw [e103, vg_u1_at (a := 55) (b := 8) (k := 55) (i := 11) (by decide)]; exact g100
                    have g108 : s102.1 55 10 = a4 := by rw [e103, vg_u1_at (a := 55) (b := 10) (k := 55) (i := 11) (by decide)]; exact g101
                    refine And.intro (by first | exact Or.inl rfl | exact Or.inr rfl | exact vg_01 (by omega) (by omega)) ?_
                    intro s109 e110
                    have k112 : K_X11_loop s0 s109 := Kx.u1 k105 e110 rfl
                    have g113 : s109.1 55 7 = a1 := by rw [e110, vg_u1_at (a := 55) (b := 7) (k := 55) (i := 14) (by decide)]; exact g106
                    have g114 : s109.1 55 8 = a2 := by rw [e110, vg_u1_at (a := 55) (b := 8) (k := 55) (i := 14) (by decide)]; exact g107
                    have g115 : s109.1 55 10 = a4 := by rw [e110, vg_u1_at (a := 55) (b := 10) (k := 55) (i := 14) (by decide)]; exact g108
                    intro s116 e117
                    have k119 : K_X11_loop s0 s116 := Kx.u1 k112 e117 rfl
                    have g120 : s116.1 55 7 = a1 := by rw [e117, vg_u1_at (a := 55) (b := 7) (k := 55) (i := 33) (by decide)]; exact g113
                    have g121 : s116.1 55 8 = a2 := by rw [e117, vg_u1_at (a := 55) (b := 8) (k := 55) (i := 33) (by decide)]; exact g114
                    have g122 : s116.1 55 10 = a4 := by rw [e117, vg_u1_at (a := 55) (b := 10) (k := 55) (i := 33) (by decide)]; exact g115
                    have g123 : s116.1 55 33 = (Int32.ofInt 0) := by rw [e117]; exact vg_u1_self
                    have i124 : Iv s116 := vg_ivloop i0 e79 e84 e90 e96 e103 e110 e117 (by omega) (by omega) (by omega) y2
                    refine And.intro (Nat.le_of_ble_eq_true rfl) (And.intro ⟨55, (Int32.ofInt 1), rfl, by decide, i124, by omega⟩ ?_)
                    intro s126 h125
                    have h125 : Iv s126 ∧ Kp s116 s126 ∧ (True) := h125
                    have i127 := h125.1
                    have k128 : K_X11_loop s0 s126 := Kx.tr k119 ((h125.2.1).px)
                    have g129 : s126.1 55 7 = a1 := by rw [h125.2.1.1 55 7 rfl]; exact g120
                    have g130 : s126.1 55 8 = a2 := by rw [h125.2.1.1 55 8 rfl]; exact g121
                    have g131 : s126.1 55 10 = a4 := by rw [h125.2.1.1 55 10 rfl]; exact g122
                    have g132 : s126.1 55 33 = (Int32.ofInt 0) := by rw [h125.2.1.1 55 33 rfl]; exact g123
                    refine And.intro (Nat.le_of_ble_eq_true rfl) (And.intro ⟨55, rfl, by decide, i127⟩ ?_)
                    intro v133 s135 h134
                    have h134 : s135 = s126 ∧ (v133 = vg_me s126 ∧ 1 ≤ v133.toInt ∧ v133.toInt ≤ 16) := h134
                    have q138 := h134.1.symm
                    subst q138
                    have q139 := h134.2
                    have y3 : v133.toInt = (vg_eo a1 a2 a4).toInt := by rw [q139.1]; simp only [vg_me, vg_eo, g129, g130, g131]
                    refine And.intro (Nat.le_of_ble_eq_true rfl) (And.intro ⟨55, v133, rfl, by decide, i127⟩ ?_)
                    intro v140 s142 h141
                    have h141 : Iv s142 ∧ Kp s126 s142 ∧ (v140 = v133 ∧ v140.toInt = v133.toInt) := h141
                    have i143 := h141.1
                    have k144 : K_X11_loop s0 s142 := Kx.tr k128 ((h141.2.1).px)
                    have q145 := h141.2.2
                    have g146 : s142.1 55 7 = a1 := by rw [h141.2.1.1 55 7 rfl]; exact g129
                    have g147 : s142.1 55 8 = a2 := by rw [h141.2.1.1 55 8 rfl]; exact g130
                    have g148 : s142.1 55 10 = a4 := by rw [h141.2.1.1 55 10 rfl]; exact g131
                    have g149 : s142.1 55 33 = (Int32.ofInt 0) := by rw [h141.2.1.1 55 33 rfl]; exact g132
                    show Iv s142 ∧ K_X11_loop s0 s142 ∧ (((0 ≤ a1.toInt ∧ a1.toInt ≤ 2 ∧ 1 ≤ a2.toInt ∧ a2.toInt ≤ 4 ∧ 1 ≤ a3.toInt ∧ a3.toInt ≤ 5000 ∧ 2 ≤ a4.toInt ∧ a4.toInt ≤ 17 ∧ 1 ≤ a5.toInt ∧ a5.toInt ≤ 60000 ∧ (vg_eo a1 a2 a4).toInt ≤ 16) ∧ v140.toInt = (vg_eo a1 a2 a4).toInt ∧ (vg_me s142).toInt = (vg_eo a1 a2 a4).toInt ∧ (s142.1 55 33).toInt = 0) ∨ (¬ (0 ≤ a1.toInt ∧ a1.toInt ≤ 2 ∧ 1 ≤ a2.toInt ∧ a2.toInt ≤ 4 ∧ 1 ≤ a3.toInt ∧ a3.toInt ≤ 5000 ∧ 2 ≤ a4.toInt ∧ a4.toInt ≤ 17 ∧ 1 ≤ a5.toInt ∧ a5.toInt ≤ 60000 ∧ (vg_eo a1 a2 a4).toInt ≤ 16) ∧ v140.toInt = -1 ∧ (vg_me s142).toInt = (vg_me s0).toInt ∧ (s142.1 55 33).toInt = (s0.1 55 33).toInt))
                    exact ⟨i143, k144, (by first | exact Or.inl ⟨by omega, by omega, by simp only [vg_me, vg_eo, g146, g147, g148], by rw [g149]; exact z0⟩ | exact Or.inr ⟨by omega, by omega, congrArg Int32.toInt (vg_me_eq (h141.2.1.1 55 7 rfl) (h141.2.1.1 55 8 rfl) (h141.2.1.1 55 10 rfl)), congrArg Int32.toInt (h141.2.1.1 55 33 rfl)⟩)⟩
                  · have c77 : ¬ (¬ a1.toInt = (Int32.ofInt 2).toInt) := c77
                    intro v150 e151
                    have b152 := vg_sub e151 (by omega) (by omega)
                    intro v153 e154
                    have b155 := vg_shl1 e154 (by omega) (by omega) (by omega)
                    intro v156 e157
                    have b158 := vg_sub e157 (by omega) (by omega)
                    intro v159 e160
                    have b161 := (vg_mulr e160 (by omega) (by omega) (by omega) (by omega)).2
                    have y1 : v159.toInt = (vg_eo a1 a2 a4).toInt := by simp only [vg_eo]; rw [if_pos (by omega)]; subst_vars; rfl
                    refine And.intro (fun c162 => ?_) (fun c162 => ?_)
                    · have c162 : v159.toInt ≤ (Int32.ofInt 16).toInt := c162
                      have y2 : 1 ≤ (vg_eo a1 a2 a4).toInt ∧ (vg_eo a1 a2 a4).toInt ≤ 16 := by first | omega | (simp only [vg_eo]; rw [if_neg (by omega)]; have h9 := vg_sub (x := a4) (y := Int32.ofInt 1) rfl (by omega) (by omega); omega)
                      intro s163 e164
                      have k166 : K_X11_loop s0 s163 := Kx.u1 Kx.rf e164 rfl
                      have g167 : s163.1 55 7 = a1 := by rw [e164]; exact vg_u1_self
                      intro s168 e169
                      have k171 : K_X11_loop s0 s168 := Kx.u1 k166 e169 rfl
                      have g172 : s168.1 55 7 = a1 := by rw [e169, vg_u1_at (a := 55) (b := 7) (k := 55) (i := 8) (by decide)]; exact g167
                      have g173 : s168.1 55 8 = a2 := by rw [e169]; exact vg_u1_self
                      intro s174 e175
                      have k177 : K_X11_loop s0 s174 := Kx.u1 k171 e175 rfl
                      have g178 : s174.1 55 7 = a1 := by rw [e175, vg_u1_at (a := 55) (b := 7) (k := 55) (i := 9) (by decide)]; exact g172
                      have g179 : s174.1 55 8 = a2 := by rw [e175, vg_u1_at (a := 55) (b := 8) (k := 55) (i := 9) (by decide)]; exact g173
                      intro s180 e181
                      have k183 : K_X11_loop s0 s180 := Kx.u1 k177 e181 rfl
                      have g184 : s180.1 55 7 = a1 := by rw [e181, vg_u1_at (a := 55) (b := 7) (k := 55) (i := 10) (by decide)]; exact g178
                      have g185 : s180.1 55 8 = a2 := by rw [e181, vg_u1_at (a := 55) (b := 8) (k := 55) (i := 10) (by decide)]; exact g179
                      have g186 : s180.1 55 10 = a4 := by rw [e181]; exact vg_u1_self
                      intro s187 e188
                      have k190 : K_X11_loop s0 s187 := Kx.u1 k183 e188 rfl
                      have g191 : s187.1 55 7 = a1 := by rw [e188, vg_u1_at (a := 55) (b := 7) (k := 55) (i := 11) (by decide)]; exact g184
                      have g192 : s187.1 55 8 = a2 := by rw [e188, vg_u1_at (a := 55) (b := 8) (k := 55) (i := 11) (by decide)]; exact g185
                      have g193 : s187.1 55 10 = a4 := by rw [e188, vg_u1_at (a := 55) (b := 10) (k := 55) (i := 11) (by decide)]; exact g186
                      refine And.intro (by first | exact Or.inl rfl | exact Or.inr rfl | exact vg_01 (by omega) (by omega)) ?_
                      intro s194 e195
                      have k197 : K_X11_loop s0 s194 := Kx.u1 k190 e195 rfl
                      have g198 : s194.1 55 7 = a1 := by rw [e195, vg_u1_at (a := 55) (b := 7) (k := 55) (i := 14) (by decide)]; exact g191
                      have g199 : s194.1 55 8 = a2 := by rw [e195, vg_u1_at (a := 55) (b := 8) (k := 55) (i := 14) (by decide)]; exact g192
                      have g200 : s194.1 55 10 = a4 := by rw [e195, vg_u1_at (a := 55) (b := 10) (k := 55) (i := 14) (by decide)]; exact g193
                      intro s201 e202
                      have k204 : K_X11_loop s0 s201 := Kx.u1 k197 e202 rfl
                      have g205 : s201.1 55 7 = a1 := by rw [e202, vg_u1_at (a := 55) (b := 7) (k := 55) (i := 33) (by decide)]; exact g198
                      have g206 : s201.1 55 8 = a2 := by rw [e202, vg_u1_at (a := 55) (b := 8) (k := 55) (i := 33) (by decide)]; exact g199
                      have g207 : s201.1 55 10 = a4 := by rw [e202, vg_u1_at (a := 55) (b := 10) (k := 55) (i := 33) (by decide)]; exact g200
                      have g208 : s201.1 55 33 = (Int32.ofInt 0) := by rw [e202]; exact vg_u1_self
                      have i209 : Iv s201 := vg_ivloop i0 e164 e169 e175 e181 e188 e195 e202 (by omega) (by omega) (by omega) y2
                      refine And.intro (Nat.le_of_ble_eq_true rfl) (And.intro ⟨55, (Int32.ofInt 1), rfl, by decide, i209, by omega⟩ ?_)
                      intro s211 h210
                      have h210 : Iv s211 ∧ Kp s201 s211 ∧ (True) := h210
                      have i212 := h210.1
                      have k213 : K_X11_loop s0 s211 := Kx.tr k204 ((h210.2.1).px)
                      have g214 : s211.1 55 7 = a1 := by rw [h210.2.1.1 55 7 rfl]; exact g205
                      have g215 : s211.1 55 8 = a2 := by rw [h210.2.1.1 55 8 rfl]; exact g206
                      have g216 : s211.1 55 10 = a4 := by rw [h210.2.1.1 55 10 rfl]; exact g207
                      have g217 : s211.1 55 33 = (Int32.ofInt 0) := by rw [h210.2.1.1 55 33 rfl]; exact g208
                      refine And.intro (Nat.le_of_ble_eq_true rfl) (And.intro ⟨55, rfl, by decide, i212⟩ ?_)
                      intro v218 s220 h219
                      have h219 : s220 = s211 ∧ (v218 = vg_me s211 ∧ 1 ≤ v218.toInt ∧ v218.toInt ≤ 16) := h219
                      have q223 := h219.1.symm
                      subst q223
                      have q224 := h219.2
                      have y3 : v218.toInt = (vg_eo a1 a2 a4).toInt := by rw [q224.1]; simp only [vg_me, vg_eo, g214, g215, g216]
                      refine And.intro (Nat.le_of_ble_eq_true rfl) (And.intro ⟨55, v218, rfl, by decide, i212⟩ ?_)
                      intro v225 s227 h226
                      have h226 : Iv s227 ∧ Kp s211 s227 ∧ (v225 = v218 ∧ v225.toInt = v218.toInt) := h226
                      have i228 := h226.1
                      have k229 : K_X11_loop s0 s227 := Kx.tr k213 ((h226.2.1).px)
                      have q230 := h226.2.2
                      have g231 : s227.1 55 7 = a1 := by rw [h226.2.1.1 55 7 rfl]; exact g214
                      have g232 : s227.1 55 8 = a2 := by rw [h226.2.1.1 55 8 rfl]; exact g215
                      have g233 : s227.1 55 10 = a4 := by rw [h226.2.1.1 55 10 rfl]; exact g216
                      have g234 : s227.1 55 33 = (Int32.ofInt 0) := by rw [h226.2.1.1 55 33 rfl]; exact g217
                      show Iv s227 ∧ K_X11_loop s0 s227 ∧ (((0 ≤ a1.toInt ∧ a1.toInt ≤ 2 ∧ 1 ≤ a2.toInt ∧ a2.toInt ≤ 4 ∧ 1 ≤ a3.toInt ∧ a3.toInt ≤ 5000 ∧ 2 ≤ a4.toInt ∧ a4.toInt ≤ 17 ∧ 1 ≤ a5.toInt ∧ a5.toInt ≤ 60000 ∧ (vg_eo a1 a2 a4).toInt ≤ 16) ∧ v225.toInt = (vg_eo a1 a2 a4).toInt ∧ (vg_me s227).toInt = (vg_eo a1 a2 a4).toInt ∧ (s227.1 55 33).toInt = 0) ∨ (¬ (0 ≤ a1.toInt ∧ a1.toInt ≤ 2 ∧ 1 ≤ a2.toInt ∧ a2.toInt ≤ 4 ∧ 1 ≤ a3.toInt ∧ a3.toInt ≤ 5000 ∧ 2 ≤ a4.toInt ∧ a4.toInt ≤ 17 ∧ 1 ≤ a5.toInt ∧ a5.toInt ≤ 60000 ∧ (vg_eo a1 a2 a4).toInt ≤ 16) ∧ v225.toInt = -1 ∧ (vg_me s227).toInt = (vg_me s0).toInt ∧ (s227.1 55 33).toInt = (s0.1 55 33).toInt))
                      exact ⟨i228, k229, (by first | exact Or.inl ⟨by omega, by omega, by simp only [vg_me, vg_eo, g231, g232, g233], by rw [g234]; exact z0⟩ | exact Or.inr ⟨by omega, by omega, congrArg Int32.toInt (vg_me_eq (h226.2.1.1 55 7 rfl) (h226.2.1.1 55 8 rfl) (h226.2.1.1 55 10 rfl)), congrArg Int32.toInt (h226.2.1.1 55 33 rfl)⟩)⟩
                    · have c162 : ¬ (v159.toInt ≤ (Int32.ofInt 16).toInt) := c162
                      refine And.intro (Nat.le_of_ble_eq_true rfl) (And.intro ⟨55, (Int32.ofInt 1), rfl, by decide, i0⟩ ?_)
                      intro v235 s237 h236
                      have h236 : Iv s237 ∧ Kp s0 s237 ∧ (v235.toInt = -1) := h236
                      have i238 := h236.1
                      have k239 : K_X11_loop s0 s237 := Kx.tr Kx.rf ((h236.2.1).px)
                      have q240 := h236.2.2
                      show Iv s237 ∧ K_X11_loop s0 s237 ∧ (((0 ≤ a1.toInt ∧ a1.toInt ≤ 2 ∧ 1 ≤ a2.toInt ∧ a2.toInt ≤ 4 ∧ 1 ≤ a3.toInt ∧ a3.toInt ≤ 5000 ∧ 2 ≤ a4.toInt ∧ a4.toInt ≤ 17 ∧ 1 ≤ a5.toInt ∧ a5.toInt ≤ 60000 ∧ (vg_eo a1 a2 a4).toInt ≤ 16) ∧ v235.toInt = (vg_eo a1 a2 a4).toInt ∧ (vg_me s237).toInt = (vg_eo a1 a2 a4).toInt ∧ (s237.1 55 33).toInt = 0) ∨ (¬ (0 ≤ a1.toInt ∧ a1.toInt ≤ 2 ∧ 1 ≤ a2.toInt ∧ a2.toInt ≤ 4 ∧ 1 ≤ a3.toInt ∧ a3.toInt ≤ 5000 ∧ 2 ≤ a4.toInt ∧ a4.toInt ≤ 17 ∧ 1 ≤ a5.toInt ∧ a5.toInt ≤ 60000 ∧ (vg_eo a1 a2 a4).toInt ≤ 16) ∧ v235.toInt = -1 ∧ (vg_me s237).toInt = (vg_me s0).toInt ∧ (s237.1 55 33).toInt = (s0.1 55 33).toInt))
                      exact ⟨i238, k239, (by first | exact Or.inl ⟨by omega, by omega, by simp only [vg_me, vg_eo, none, none, none], by rw [none]; exact z0⟩ | exact Or.inr ⟨by omega, by omega, congrArg Int32.toInt (vg_me_eq (h236.2.1.1 55 7 rfl) (h236.2.1.1 55 8 rfl) (h236.2.1.1 55 10 rfl)), congrArg Int32.toInt (h236.2.1.1 55 33 rfl)⟩)⟩
def o_X11_dither : List vg_I := [(0, .iload_n 1, 1, 0, 0, 0, 0), (1, .iconst 0, 1, 0, 0, 0, 0), (2, .sipush 5000, 3, 0, 0, 0, 0), (5, .invokestatic 76, 3, 0, 1, 3, 1175), (8, .ifCond .eq 7, 3, 0, 0, 0, 0), (11, .iload_n 2, 1, 0, 0, 0, 0), (12, .ifCond .ge 9, 3, 0, 0, 0, 0), (15, .aload_n 0, 1, 0, 0, 0, 0), (16, .iconst 1, 1, 0, 0, 0, 0), (17, .invokevirtual 242, 3, 1, 11, 1, 1181), (20, .ireturn, 1, 0, 0, 0, 0), (21, .aload_n 0, 1, 0, 0, 0, 0), (22, .iload_n 1, 1, 0, 0, 0, 0), (23, .putfield 131, 3, 1073, 11, 12, 0), (26, .aload_n 0, 1, 0, 0, 0, 0), (27, .iload_n 2, 1, 0, 0, 0, 0), (28, .putfield 96, 3, 1074, 11, 13, 0), (31, .aload_n 0, 1, 0, 0, 0, 0), (32, .iconst 1, 1, 0, 0, 0, 0), (33, .invokevirtual 245, 3, 2, 11, 1, 1185), (36, .aload_n 0, 1, 0, 0, 0, 0), (37, .aload_n 0, 1, 0, 0, 0, 0), (38, .iconst 0, 1, 0, 0, 0, 0), (39, .invokevirtual 110, 3, 3, 11, 1, 1202), (42, .invokevirtual 249, 3, 4, 11, 1, 1206), (45, .ireturn, 1, 0, 0, 0, 0)]
set_option maxRecDepth 100000 in
set_option maxHeartbeats 4000000 in
theorem c_X11_dither (l : Launch) (G : vg_G) (hp : vg_Hp G) : vg_Ct l G vg_sh r_X11_dither := by
  refine vg_meth hp vg_sh_ok r_X11_dither k_X11_dither rfl (fun h => by cases h) o_X11_dither [r_X11_isFrom, r_X11_refuse, r_X11_begins, r_X11_get, r_X11_gives] false (by decide +kernel) (by decide +kernel) ⟨_, _, rfl, rfl⟩ (List.forall_mem_cons.mpr ⟨⟨c_X11_isFrom l G hp, Nat.le_of_ble_eq_true rfl, Nat.le_of_ble_eq_true rfl⟩, List.forall_mem_cons.mpr ⟨⟨c_X11_refuse l G hp, Nat.le_of_ble_eq_true rfl, Nat.le_of_ble_eq_true rfl⟩, List.forall_mem_cons.mpr ⟨⟨c_X11_begins l G hp, Nat.le_of_ble_eq_true rfl, Nat.le_of_ble_eq_true rfl⟩, List.forall_mem_cons.mpr ⟨⟨c_X11_get l G hp, Nat.le_of_ble_eq_true rfl, Nat.le_of_ble_eq_true rfl⟩, List.forall_mem_cons.mpr ⟨⟨c_X11_gives l G hp, Nat.le_of_ble_eq_true rfl, Nat.le_of_ble_eq_true rfl⟩, fun _ h => absurd h List.not_mem_nil⟩⟩⟩⟩⟩) (fun h => by cases h) 600 ?_
  intro as s0 hpre
  obtain ⟨r, a1, a2, rfl, hr, i0, p0⟩ := hpre
  simp only [List.mem_cons, List.not_mem_nil, or_false] at hr
  rcases hr with rfl
  ·
    have z0 : (Int32.ofInt 0).toInt = 0 := by decide
    have z1 : (Int32.ofInt 1).toInt = 1 := by decide
    have z5000 : (Int32.ofInt 5000).toInt = 5000 := by decide
    refine ⟨Nat.le_of_ble_eq_true rfl, [], ?_, fun _ h => absurd h List.not_mem_nil⟩
    ·
      refine And.intro (Nat.le_of_ble_eq_true rfl) (And.intro ⟨a1, (Int32.ofInt 0), (Int32.ofInt 5000), rfl, trivial⟩ ?_)
      intro v1 s3 h2
      have h2 : s3 = s0 ∧ ((v1.toInt = 1 ∧ (Int32.ofInt 0).toInt ≤ a1.toInt ∧ a1.toInt ≤ (Int32.ofInt 5000).toInt) ∨ (v1.toInt = 0 ∧ (a1.toInt < (Int32.ofInt 0).toInt ∨ (Int32.ofInt 5000).toInt < a1.toInt))) := h2
      have q6 := h2.1.symm
      subst q6
      have q7 := h2.2
      refine And.intro (fun c8 => ?_) (fun c8 => ?_)
      · have c8 : v1.toInt = 0 := c8
        refine And.intro (Nat.le_of_ble_eq_true rfl) (And.intro ⟨55, (Int32.ofInt 1), rfl, by decide, i0⟩ ?_)
        intro v9 s11 h10
        have h10 : Iv s11 ∧ Kp s0 s11 ∧ (v9.toInt = -1) := h10
        have i12 := h10.1
        have k13 : K_X11_dither s0 s11 := Kx.tr Kx.rf ((h10.2.1).px)
        have q14 := h10.2.2
        show Iv s11 ∧ K_X11_dither s0 s11 ∧ (((0 ≤ a1.toInt ∧ a1.toInt ≤ 5000 ∧ 0 ≤ a2.toInt) ∧ v9.toInt = (s0.2 56 0).toInt) ∨ (¬ (0 ≤ a1.toInt ∧ a1.toInt ≤ 5000 ∧ 0 ≤ a2.toInt) ∧ v9.toInt = -1))
        exact ⟨i12, k13, (by have h9 := congrArg Int64.toInt (k13.2 56 0 rfl); have h8 := congrArg Int64.toInt (h10.2.1.2 56 0 rfl); omega)⟩
      · have c8 : ¬ (v1.toInt = 0) := c8
        refine And.intro (fun c15 => ?_) (fun c15 => ?_)
        · have c15 : 0 ≤ a2.toInt := c15
          intro s16 e17
          have i18 : Iv s16 := Iv.c1 (lo := 0) (hi := 5000) i0 e17 rfl (by omega) (by omega)
          have k19 : K_X11_dither s0 s16 := Kx.u1 Kx.rf e17 rfl
          intro s20 e21
          have i22 : Iv s20 := Iv.u1 i18 e21 rfl
          have k23 : K_X11_dither s0 s20 := Kx.u1 k19 e21 rfl
          refine And.intro (Nat.le_of_ble_eq_true rfl) (And.intro ⟨55, (Int32.ofInt 1), rfl, by decide, i22, by omega⟩ ?_)
          intro s25 h24
          have h24 : Iv s25 ∧ Kp s20 s25 ∧ (True) := h24
          have i26 := h24.1
          have k27 : K_X11_dither s0 s25 := Kx.tr k23 ((h24.2.1).px)
          refine And.intro (Nat.le_of_ble_eq_true rfl) (And.intro ⟨55, (Int32.ofInt 0), rfl, by decide, i26, by omega⟩ ?_)
          intro v28 s30 h29
          have h29 : s30 = s25 ∧ (v28 = (s25.2 56 (Int32.ofInt 0).toNatClampNeg).toInt32) := h29
          have q33 := h29.1.symm
          subst q33
          have q34 := h29.2
          have y0 := congrArg Int64.toInt (k27.2 56 0 rfl)
          have y1 : v28.toInt = (s25.2 56 0).toInt := vg_l2i (x := s25.2 56 0) q34 (by omega) (by omega)
          refine And.intro (Nat.le_of_ble_eq_true rfl) (And.intro ⟨55, v28, rfl, by decide, i26⟩ ?_)
          intro v35 s37 h36
          have h36 : Iv s37 ∧ Kp s25 s37 ∧ (v35 = v28 ∧ v35.toInt = v28.toInt) := h36
          have i38 := h36.1
          have k39 : K_X11_dither s0 s37 := Kx.tr k27 ((h36.2.1).px)
          have q40 := h36.2.2
          show Iv s37 ∧ K_X11_dither s0 s37 ∧ (((0 ≤ a1.toInt ∧ a1.toInt ≤ 5000 ∧ 0 ≤ a2.toInt) ∧ v35.toInt = (s0.2 56 0).toInt) ∨ (¬ (0 ≤ a1.toInt ∧ a1.toInt ≤ 5000 ∧ 0 ≤ a2.toInt) ∧ v35.toInt = -1))
          exact ⟨i38, k39, (by have h9 := congrArg Int64.toInt (k39.2 56 0 rfl); have h8 := congrArg Int64.toInt (h36.2.1.2 56 0 rfl); omega)⟩
        · have c15 : ¬ (0 ≤ a2.toInt) := c15
          refine And.intro (Nat.le_of_ble_eq_true rfl) (And.intro ⟨55, (Int32.ofInt 1), rfl, by decide, i0⟩ ?_)
          intro v41 s43 h42
          have h42 : Iv s43 ∧ Kp s0 s43 ∧ (v41.toInt = -1) := h42
          have i44 := h42.1
          have k45 : K_X11_dither s0 s43 := Kx.tr Kx.rf ((h42.2.1).px)
          have q46 := h42.2.2
          show Iv s43 ∧ K_X11_dither s0 s43 ∧ (((0 ≤ a1.toInt ∧ a1.toInt ≤ 5000 ∧ 0 ≤ a2.toInt) ∧ v41.toInt = (s0.2 56 0).toInt) ∨ (¬ (0 ≤ a1.toInt ∧ a1.toInt ≤ 5000 ∧ 0 ≤ a2.toInt) ∧ v41.toInt = -1))
          exact ⟨i44, k45, (by have h9 := congrArg Int64.toInt (k45.2 56 0 rfl); have h8 := congrArg Int64.toInt (h42.2.1.2 56 0 rfl); omega)⟩
def o_X11_way : List vg_I := [(0, .iload_n 1, 1, 0, 0, 0, 0), (1, .iconst 0, 1, 0, 0, 0, 0), (2, .iconst 2, 1, 0, 0, 0, 0), (3, .invokestatic 76, 3, 0, 1, 3, 1175), (6, .ifCond .ne 9, 3, 0, 0, 0, 0), (9, .aload_n 0, 1, 0, 0, 0, 0), (10, .iconst 1, 1, 0, 0, 0, 0), (11, .invokevirtual 242, 3, 1, 11, 1, 1181), (14, .ireturn, 1, 0, 0, 0, 0), (15, .aload_n 0, 1, 0, 0, 0, 0), (16, .getfield 164, 3, 1076, 11, 15, 0), (19, .istore_n 2, 1, 0, 0, 0, 0), (20, .aload_n 0, 1, 0, 0, 0, 0), (21, .iload_n 1, 1, 0, 0, 0, 0), (22, .putfield 164, 3, 1076, 11, 15, 0), (25, .aload_n 0, 1, 0, 0, 0, 0), (26, .iconst 2, 1, 0, 0, 0, 0), (27, .invokevirtual 245, 3, 2, 11, 1, 1185), (30, .aload_n 0, 1, 0, 0, 0, 0), (31, .iload_n 2, 1, 0, 0, 0, 0), (32, .invokevirtual 249, 3, 3, 11, 1, 1206), (35, .ireturn, 1, 0, 0, 0, 0)]
set_option maxRecDepth 100000 in
set_option maxHeartbeats 4000000 in
theorem c_X11_way (l : Launch) (G : vg_G) (hp : vg_Hp G) : vg_Ct l G vg_sh r_X11_way := by
  refine vg_meth hp vg_sh_ok r_X11_way k_X11_way rfl (fun h => by cases h) o_X11_way [r_X11_isFrom, r_X11_refuse, r_X11_begins, r_X11_gives] false (by decide +kernel) (by decide +kernel) ⟨_, _, rfl, rfl⟩ (List.forall_mem_cons.mpr ⟨⟨c_X11_isFrom l G hp, Nat.le_of_ble_eq_true rfl, Nat.le_of_ble_eq_true rfl⟩, List.forall_mem_cons.mpr ⟨⟨c_X11_refuse l G hp, Nat.le_of_ble_eq_true rfl, Nat.le_of_ble_eq_true rfl⟩, List.forall_mem_cons.mpr ⟨⟨c_X11_begins l G hp, Nat.le_of_ble_eq_true rfl, Nat.le_of_ble_eq_true rfl⟩, List.forall_mem_cons.mpr ⟨⟨c_X11_gives l G hp, Nat.le_of_ble_eq_true rfl, Nat.le_of_ble_eq_true rfl⟩, fun _ h => absurd h List.not_mem_nil⟩⟩⟩⟩) (fun h => by cases h) 600 ?_
  intro as s0 hpre
  obtain ⟨r, a1, rfl, hr, i0⟩ := hpre
  simp only [List.mem_cons, List.not_mem_nil, or_false] at hr
  rcases hr with rfl
  ·
    have z0 : (Int32.ofInt 0).toInt = 0 := by decide
    have z1 : (Int32.ofInt 1).toInt = 1 := by decide
    have z2 : (Int32.ofInt 2).toInt = 2 := by decide
    refine ⟨Nat.le_of_ble_eq_true rfl, [], ?_, fun _ h => absurd h List.not_mem_nil⟩
    ·
      refine And.intro (Nat.le_of_ble_eq_true rfl) (And.intro ⟨a1, (Int32.ofInt 0), (Int32.ofInt 2), rfl, trivial⟩ ?_)
      intro v1 s3 h2
      have h2 : s3 = s0 ∧ ((v1.toInt = 1 ∧ (Int32.ofInt 0).toInt ≤ a1.toInt ∧ a1.toInt ≤ (Int32.ofInt 2).toInt) ∨ (v1.toInt = 0 ∧ (a1.toInt < (Int32.ofInt 0).toInt ∨ (Int32.ofInt 2).toInt < a1.toInt))) := h2
      have q6 := h2.1.symm
      subst q6
      have q7 := h2.2
      refine And.intro (fun c8 => ?_) (fun c8 => ?_)
      · have c8 : ¬ v1.toInt = 0 := c8
        intro v9 e10
        have g11 : s0.1 55 15 = v9 := by rw [e10]
        have g12 : s0.1 55 15 = v9 := e10.symm
        have b13 : v9.toInt = (s0.1 55 15).toInt := congrArg Int32.toInt e10
        intro s14 e15
        have i16 : Iv s14 := Iv.u1 i0 e15 rfl
        have k17 : K_X11_way s0 s14 := Kx.u1 Kx.rf e15 rfl
        have g18 : s14.1 55 15 = a1 := by rw [e15]; exact vg_u1_self
        refine And.intro (Nat.le_of_ble_eq_true rfl) (And.intro ⟨55, (Int32.ofInt 2), rfl, by decide, i16, by omega⟩ ?_)
        intro s20 h19
        have h19 : Iv s20 ∧ Kp s14 s20 ∧ (True) := h19
        have i21 := h19.1
        have k22 : K_X11_way s0 s20 := Kx.tr k17 ((h19.2.1).px)
        have g23 : s20.1 55 15 = a1 := by rw [h19.2.1.1 55 15 rfl]; exact g18
        refine And.intro (Nat.le_of_ble_eq_true rfl) (And.intro ⟨55, v9, rfl, by decide, i21⟩ ?_)
        intro v24 s26 h25
        have h25 : Iv s26 ∧ Kp s20 s26 ∧ (v24 = v9 ∧ v24.toInt = v9.toInt) := h25
        have i27 := h25.1
        have k28 : K_X11_way s0 s26 := Kx.tr k22 ((h25.2.1).px)
        have q29 := h25.2.2
        have g30 : s26.1 55 15 = a1 := by rw [h25.2.1.1 55 15 rfl]; exact g23
        show Iv s26 ∧ K_X11_way s0 s26 ∧ (((0 ≤ a1.toInt ∧ a1.toInt ≤ 2) ∧ v24.toInt = (s0.1 55 15).toInt ∧ (s26.1 55 15).toInt = a1.toInt) ∨ (¬ (0 ≤ a1.toInt ∧ a1.toInt ≤ 2) ∧ v24.toInt = -1 ∧ (s26.1 55 15).toInt = (s0.1 55 15).toInt))
        exact ⟨i27, k28, (by first | exact Or.inl ⟨by omega, by omega, by rw [g30]⟩ | exact Or.inr ⟨by omega, by omega, congrArg Int32.toInt (h25.2.1.1 55 15 rfl)⟩)⟩
      · have c8 : ¬ (¬ v1.toInt = 0) := c8
        refine And.intro (Nat.le_of_ble_eq_true rfl) (And.intro ⟨55, (Int32.ofInt 1), rfl, by decide, i0⟩ ?_)
        intro v31 s33 h32
        have h32 : Iv s33 ∧ Kp s0 s33 ∧ (v31.toInt = -1) := h32
        have i34 := h32.1
        have k35 : K_X11_way s0 s33 := Kx.tr Kx.rf ((h32.2.1).px)
        have q36 := h32.2.2
        show Iv s33 ∧ K_X11_way s0 s33 ∧ (((0 ≤ a1.toInt ∧ a1.toInt ≤ 2) ∧ v31.toInt = (s0.1 55 15).toInt ∧ (s33.1 55 15).toInt = a1.toInt) ∨ (¬ (0 ≤ a1.toInt ∧ a1.toInt ≤ 2) ∧ v31.toInt = -1 ∧ (s33.1 55 15).toInt = (s0.1 55 15).toInt))
        exact ⟨i34, k35, (by first | exact Or.inl ⟨by omega, by omega, by rw [none]⟩ | exact Or.inr ⟨by omega, by omega, congrArg Int32.toInt (h32.2.1.1 55 15 rfl)⟩)⟩
def o_X11_deviation : List vg_I := [(0, .iload_n 2, 1, 0, 0, 0, 0), (1, .bipush (-99), 2, 0, 0, 0, 0), (3, .bipush 99, 2, 0, 0, 0, 0), (5, .invokestatic 76, 3, 0, 1, 3, 1175), (8, .ifCond .ne 9, 3, 0, 0, 0, 0), (11, .aload_n 0, 1, 0, 0, 0, 0), (12, .iconst 1, 1, 0, 0, 0, 0), (13, .invokevirtual 242, 3, 1, 11, 1, 1181), (16, .ireturn, 1, 0, 0, 0, 0), (17, .iload_n 1, 1, 0, 0, 0, 0), (18, .iconst 0, 1, 0, 0, 0, 0), (19, .bipush 15, 2, 0, 0, 0, 0), (21, .invokestatic 76, 3, 0, 1, 3, 1175), (24, .ifCond .ne 9, 3, 0, 0, 0, 0), (27, .aload_n 0, 1, 0, 0, 0, 0), (28, .iconst 2, 1, 0, 0, 0, 0), (29, .invokevirtual 242, 3, 1, 11, 1, 1181), (32, .ireturn, 1, 0, 0, 0, 0), (33, .aload_n 0, 1, 0, 0, 0, 0), (34, .getfield 46, 3, 1084, 11, 23, 0), (37, .iload_n 1, 1, 0, 0, 0, 0), (38, .iaload, 1, 0, 0, 0, 0), (39, .istore_n 3, 1, 0, 0, 0, 0), (40, .aload_n 0, 1, 0, 0, 0, 0), (41, .getfield 46, 3, 1084, 11, 23, 0), (44, .iload_n 1, 1, 0, 0, 0, 0), (45, .iload_n 2, 1, 0, 0, 0, 0), (46, .iastore, 1, 0, 0, 0, 0), (47, .aload_n 0, 1, 0, 0, 0, 0), (48, .iconst 2, 1, 0, 0, 0, 0), (49, .invokevirtual 245, 3, 2, 11, 1, 1185), (52, .aload_n 0, 1, 0, 0, 0, 0), (53, .iload_n 3, 1, 0, 0, 0, 0), (54, .invokevirtual 249, 3, 3, 11, 1, 1206), (57, .ireturn, 1, 0, 0, 0, 0)]
set_option maxRecDepth 100000 in
set_option maxHeartbeats 4000000 in
theorem c_X11_deviation (l : Launch) (G : vg_G) (hp : vg_Hp G) : vg_Ct l G vg_sh r_X11_deviation := by
  refine vg_meth hp vg_sh_ok r_X11_deviation k_X11_deviation rfl (fun h => by cases h) o_X11_deviation [r_X11_isFrom, r_X11_refuse, r_X11_begins, r_X11_gives] false (by decide +kernel) (by decide +kernel) ⟨_, _, rfl, rfl⟩ (List.forall_mem_cons.mpr ⟨⟨c_X11_isFrom l G hp, Nat.le_of_ble_eq_true rfl, Nat.le_of_ble_eq_true rfl⟩, List.forall_mem_cons.mpr ⟨⟨c_X11_refuse l G hp, Nat.le_of_ble_eq_true rfl, Nat.le_of_ble_eq_true rfl⟩, List.forall_mem_cons.mpr ⟨⟨c_X11_begins l G hp, Nat.le_of_ble_eq_true rfl, Nat.le_of_ble_eq_true rfl⟩, List.forall_mem_cons.mpr ⟨⟨c_X11_gives l G hp, Nat.le_of_ble_eq_true rfl, Nat.le_of_ble_eq_true rfl⟩, fun _ h => absurd h List.not_mem_nil⟩⟩⟩⟩) (fun h => by cases h) 600 ?_
  intro as s0 hpre
  obtain ⟨r, a1, a2, rfl, hr, i0⟩ := hpre
  simp only [List.mem_cons, List.not_mem_nil, or_false] at hr
  rcases hr with rfl
  ·
    have zm99 : (Int32.ofInt (-99)).toInt = -99 := by decide
    have z0 : (Int32.ofInt 0).toInt = 0 := by decide
    have z1 : (Int32.ofInt 1).toInt = 1 := by decide
    have z2 : (Int32.ofInt 2).toInt = 2 := by decide
    have z15 : (Int32.ofInt 15).toInt = 15 := by decide
    have z99 : (Int32.ofInt 99).toInt = 99 := by decide
    refine ⟨Nat.le_of_ble_eq_true rfl, [], ?_, fun _ h => absurd h List.not_mem_nil⟩
    ·
      refine And.intro (Nat.le_of_ble_eq_true rfl) (And.intro ⟨a2, (Int32.ofInt (-99)), (Int32.ofInt 99), rfl, trivial⟩ ?_)
      intro v1 s3 h2
      have h2 : s3 = s0 ∧ ((v1.toInt = 1 ∧ (Int32.ofInt (-99)).toInt ≤ a2.toInt ∧ a2.toInt ≤ (Int32.ofInt 99).toInt) ∨ (v1.toInt = 0 ∧ (a2.toInt < (Int32.ofInt (-99)).toInt ∨ (Int32.ofInt 99).toInt < a2.toInt))) := h2
      have q6 := h2.1.symm
      subst q6
      have q7 := h2.2
      refine And.intro (fun c8 => ?_) (fun c8 => ?_)
      · have c8 : ¬ v1.toInt = 0 := c8
        refine And.intro (Nat.le_of_ble_eq_true rfl) (And.intro ⟨a1, (Int32.ofInt 0), (Int32.ofInt 15), rfl, trivial⟩ ?_)
        intro v9 s11 h10
        have h10 : s11 = s0 ∧ ((v9.toInt = 1 ∧ (Int32.ofInt 0).toInt ≤ a1.toInt ∧ a1.toInt ≤ (Int32.ofInt 15).toInt) ∨ (v9.toInt = 0 ∧ (a1.toInt < (Int32.ofInt 0).toInt ∨ (Int32.ofInt 15).toInt < a1.toInt))) := h10
        have q14 := h10.1.symm
        subst q14
        have q15 := h10.2
        refine And.intro (fun c16 => ?_) (fun c16 => ?_)
        · have c16 : ¬ v9.toInt = 0 := c16
          refine And.intro ⟨by omega, by omega⟩ ?_
          intro v17 e18
          refine And.intro ⟨by omega, by omega⟩ ?_
          intro s19 e20
          have i21 : Iv s19 := Iv.a1 i0 e20 rfl
          have k22 : K_X11_deviation s0 s19 := Kx.u1 Kx.rf e20 rfl
          have y0 : ∀ j : Nat, s19.1 59 j = if j = a1.toNatClampNeg then a2 else s0.1 59 j := fun j => by rw [e20]; exact vg_u1_if
          refine And.intro (Nat.le_of_ble_eq_true rfl) (And.intro ⟨55, (Int32.ofInt 2), rfl, by decide, i21, by omega⟩ ?_)
          intro s24 h23
          have h23 : Iv s24 ∧ Kp s19 s24 ∧ (True) := h23
          have i25 := h23.1
          have k26 : K_X11_deviation s0 s24 := Kx.tr k22 ((h23.2.1).px)
          have y1 : ∀ j : Nat, s24.1 59 j = if j = a1.toNatClampNeg then a2 else s0.1 59 j := fun j => by rw [h23.2.1.1 59 j rfl]; exact y0 j
          refine And.intro (Nat.le_of_ble_eq_true rfl) (And.intro ⟨55, v17, rfl, by decide, i25⟩ ?_)
          intro v27 s29 h28
          have h28 : Iv s29 ∧ Kp s24 s29 ∧ (v27 = v17 ∧ v27.toInt = v17.toInt) := h28
          have i30 := h28.1
          have k31 : K_X11_deviation s0 s29 := Kx.tr k26 ((h28.2.1).px)
          have q32 := h28.2.2
          show Iv s29 ∧ K_X11_deviation s0 s29 ∧ (((-99 ≤ a2.toInt ∧ a2.toInt ≤ 99 ∧ 0 ≤ a1.toInt ∧ a1.toInt ≤ 15) ∧ v27 = s0.1 59 a1.toNatClampNeg ∧ ∀ j : Nat, s29.1 59 j = if j = a1.toNatClampNeg then a2 else s0.1 59 j) ∨ (¬ (-99 ≤ a2.toInt ∧ a2.toInt ≤ 99 ∧ 0 ≤ a1.toInt ∧ a1.toInt ≤ 15) ∧ v27.toInt = -1 ∧ ∀ j : Nat, s29.1 59 j = s0.1 59 j))
          exact ⟨i30, k31, (by first | exact Or.inl ⟨by omega, by (rw [q32.1]; assumption), fun j => by rw [h28.2.1.1 59 j rfl]; exact y1 j⟩ | exact Or.inr ⟨by omega, by omega, fun j => h28.2.1.1 59 j rfl⟩)⟩
        · have c16 : ¬ (¬ v9.toInt = 0) := c16
          refine And.intro (Nat.le_of_ble_eq_true rfl) (And.intro ⟨55, (Int32.ofInt 2), rfl, by decide, i0⟩ ?_)
          intro v33 s35 h34
          have h34 : Iv s35 ∧ Kp s0 s35 ∧ (v33.toInt = -1) := h34
          have i36 := h34.1
          have k37 : K_X11_deviation s0 s35 := Kx.tr Kx.rf ((h34.2.1).px)
          have q38 := h34.2.2
          show Iv s35 ∧ K_X11_deviation s0 s35 ∧ (((-99 ≤ a2.toInt ∧ a2.toInt ≤ 99 ∧ 0 ≤ a1.toInt ∧ a1.toInt ≤ 15) ∧ v33 = s0.1 59 a1.toNatClampNeg ∧ ∀ j : Nat, s35.1 59 j = if j = a1.toNatClampNeg then a2 else s0.1 59 j) ∨ (¬ (-99 ≤ a2.toInt ∧ a2.toInt ≤ 99 ∧ 0 ≤ a1.toInt ∧ a1.toInt ≤ 15) ∧ v33.toInt = -1 ∧ ∀ j : Nat, s35.1 59 j = s0.1 59 j))
          exact ⟨i36, k37, (by first | exact Or.inl ⟨by omega, by (rw [q38.1]; assumption), fun j => by rw [h34.2.1.1 59 j rfl]; exact y1 j⟩ | exact Or.inr ⟨by omega, by omega, fun j => h34.2.1.1 59 j rfl⟩)⟩
      · have c8 : ¬ (¬ v1.toInt = 0) := c8
        refine And.intro (Nat.le_of_ble_eq_true rfl) (And.intro ⟨55, (Int32.ofInt 1), rfl, by decide, i0⟩ ?_)
        intro v39 s41 h40
        have h40 : Iv s41 ∧ Kp s0 s41 ∧ (v39.toInt = -1) := h40
        have i42 := h40.1
        have k43 : K_X11_deviation s0 s41 := Kx.tr Kx.rf ((h40.2.1).px)
        have q44 := h40.2.2
        show Iv s41 ∧ K_X11_deviation s0 s41 ∧ (((-99 ≤ a2.toInt ∧ a2.toInt ≤ 99 ∧ 0 ≤ a1.toInt ∧ a1.toInt ≤ 15) ∧ v39 = s0.1 59 a1.toNatClampNeg ∧ ∀ j : Nat, s41.1 59 j = if j = a1.toNatClampNeg then a2 else s0.1 59 j) ∨ (¬ (-99 ≤ a2.toInt ∧ a2.toInt ≤ 99 ∧ 0 ≤ a1.toInt ∧ a1.toInt ≤ 15) ∧ v39.toInt = -1 ∧ ∀ j : Nat, s41.1 59 j = s0.1 59 j))
        exact ⟨i42, k43, (by first | exact Or.inl ⟨by omega, by (rw [q44.1]; assumption), fun j => by rw [h40.2.1.1 59 j rfl]; exact y1 j⟩ | exact Or.inr ⟨by omega, by omega, fun j => h40.2.1.1 59 j rfl⟩)⟩
def o_X11_needFor : List vg_I := [(0, .iload_n 1, 1, 0, 0, 0, 0), (1, .i2l, 1, 0, 0, 0, 0), (2, .lstore_n 2, 1, 0, 0, 0, 0), (3, .iconst 0, 1, 0, 0, 0, 0), (4, .istore 4, 2, 0, 0, 0, 0), (6, .iload 4, 2, 0, 0, 0, 0), (8, .aload_n 0, 1, 0, 0, 0, 0), (9, .getfield 33, 3, 1077, 11, 16, 0), (12, .if_icmp .ge 17, 3, 0, 0, 0, 0), (15, .lload_n 2, 1, 0, 0, 0, 0), (16, .aload_n 0, 1, 0, 0, 0, 0), (17, .getfield 36, 3, 1078, 11, 17, 0), (20, .i2l, 1, 0, 0, 0, 0), (21, .lmul, 1, 0, 0, 0, 0), (22, .lstore_n 2, 1, 0, 0, 0, 0), (23, .iinc 4 1, 3, 0, 0, 0, 0), (26, .goto (-20), 3, 0, 0, 0, 0), (29, .bipush 8, 2, 0, 0, 0, 0), (31, .istore 4, 2, 0, 0, 0, 0), (33, .iload 4, 2, 0, 0, 0, 0), (35, .bipush 32, 2, 0, 0, 0, 0), (37, .if_icmp .gt 23, 3, 0, 0, 0, 0), (40, .lload_n 2, 1, 0, 0, 0, 0), (41, .lconst 1, 1, 0, 0, 0, 0), (42, .iload 4, 2, 0, 0, 0, 0), (44, .iconst 1, 1, 0, 0, 0, 0), (45, .isub, 1, 0, 0, 0, 0), (46, .lshl, 1, 0, 0, 0, 0), (47, .lcmp, 1, 0, 0, 0, 0), (48, .ifCond .ge 6, 3, 0, 0, 0, 0), (51, .iload 4, 2, 0, 0, 0, 0), (53, .ireturn, 1, 0, 0, 0, 0), (54, .iinc 4 1, 3, 0, 0, 0, 0), (57, .goto (-24), 3, 0, 0, 0, 0), (60, .iconst (-1), 1, 0, 0, 0, 0), (61, .ireturn, 1, 0, 0, 0, 0)]
set_option maxRecDepth 100000 in
set_option maxHeartbeats 4000000 in
theorem c_X11_needFor (l : Launch) (G : vg_G) (hp : vg_Hp G) : vg_Ct l G vg_sh r_X11_needFor := by
  refine vg_meth hp vg_sh_ok r_X11_needFor k_X11_needFor rfl (fun h => by cases h) o_X11_needFor [] false (by decide +kernel) (by decide +kernel) ⟨_, _, rfl, rfl⟩ (fun _ h => absurd h List.not_mem_nil) (fun h => by cases h) 600 ?_
  intro as s0 hpre
  obtain ⟨r, a1, rfl, hr, i0⟩ := hpre
  simp only [List.mem_cons, List.not_mem_nil, or_false] at hr
  rcases hr with rfl
  ·
    have zm1 : (Int32.ofInt (-1)).toInt = -1 := by decide
    have z0 : (Int32.ofInt 0).toInt = 0 := by decide
    have z1 : (Int32.ofInt 1).toInt = 1 := by decide
    have z8 : (Int32.ofInt 8).toInt = 8 := by decide
    have z32 : (Int32.ofInt 32).toInt = 32 := by decide
    refine ⟨Nat.le_of_ble_eq_true rfl, [(6, [true, false, true, false, true], (fun L t => ∃ (x2 : Int64) (x4 : Int32), L = [some (.ref 55), none, some (.long x2), none, some (.int x4)] ∧ (0 : Int) ≤ x4.toInt ∧ x4.toInt ≤ (5 : Int) ∧ (x2 = vg_mp (s0.1 55 17).toInt64 a1.toInt64 x4.toNatClampNeg ∧ x4.toInt ≤ (s0.1 55 16).toInt) ∧ t = s0), (fun L _ => (10000000000000000 + (5 - (vg_li L 4).toInt) * 1000000000000).toNat)), (33, [false, false, true, false, true], (fun L t => ∃ (x2 : Int64) (x4 : Int32), L = [none, none, some (.long x2), none, some (.int x4)] ∧ (8 : Int) ≤ x4.toInt ∧ x4.toInt ≤ (33 : Int) ∧ (x2 = vg_mp (s0.1 55 17).toInt64 a1.toInt64 (s0.1 55 16).toNatClampNeg ∧ vg_ge8 x2 x4) ∧ t = s0), (fun L _ => (0 + (33 - (vg_li L 4).toInt) * 1000000000000).toNat))], ?_, List.forall_mem_cons.mpr ⟨?_, List.forall_mem_cons.mpr ⟨?_, fun _ h => absurd h List.not_mem_nil⟩⟩⟩
    ·
      intro v1 e2
      exact ⟨rfl, ⟨v1, (Int32.ofInt 0), rfl, (by omega), (by omega), (by first | exact ⟨e2, by have h9 := Iv_55_16 i0; omega⟩ | exact ⟨vg_mp_step None.1 None e2 None (by omega) (by omega), by omega⟩), rfl⟩, trivial⟩
    ·
      intro L s8 hL
      obtain ⟨w3, w4, rfl, b5, b6, x7, q11⟩ := hL
      have q11 := q11.symm
      subst q11
      intro v12 e13
      have g14 : s0.1 55 16 = v12 := by rw [e13]
      have b15 : v12.toInt = (s0.1 55 16).toInt := congrArg Int32.toInt e13
      have b16 : (1 : Int) ≤ v12.toInt ∧ v12.toInt ≤ 5 := by rw [e13]; exact Iv_55_16 i0
      refine And.intro (fun c17 => ?_) (fun c17 => ?_)
      · have c17 : v12.toInt ≤ w4.toInt := c17
        exact ⟨rfl, ⟨w3, (Int32.ofInt 8), rfl, (by omega), (by omega), (by first | exact ⟨x7.1, vg_ge8_step x7.2 None None None c17 (by omega)⟩ | exact ⟨vg_mp_at x7.1 (by omega), vg_ge8_0⟩), rfl⟩, (by show (0 + (33 - (Int32.ofInt 8).toInt) * 1000000000000).toNat < (10000000000000000 + (5 - w4.toInt) * 1000000000000).toNat; omega)⟩
      · have c17 : ¬ (v12.toInt ≤ w4.toInt) := c17
        intro v18 e19
        have g20 : s0.1 55 17 = v18 := by rw [e19]
        have b21 : (1 : Int) ≤ v18.toInt ∧ v18.toInt ≤ 16 := by rw [e19]; exact Iv_55_17 i0
        intro v22 e23
        have b24 := vg_i2l e23
        intro v25 e26
        intro v27 e28
        have b29 := vg_add e28 (by omega) (by omega)
        exact ⟨rfl, ⟨v25, v27, rfl, (by omega), (by omega), (by first | exact ⟨e23, by have h9 := Iv_55_16 i0; omega⟩ | exact ⟨vg_mp_step x7.1 e19 e23 e26 (by omega) (by omega), by omega⟩), rfl⟩, (by show (10000000000000000 + (5 - v27.toInt) * 1000000000000).toNat < (10000000000000000 + (5 - w4.toInt) * 1000000000000).toNat; omega)⟩
    ·
      intro L s35 hL
      obtain ⟨w30, w31, rfl, b32, b33, x34, q38⟩ := hL
      have q38 := q38.symm
      subst q38
      refine And.intro (fun c39 => ?_) (fun c39 => ?_)
      · have c39 : (Int32.ofInt 32).toInt < w31.toInt := c39
        show s0 = s0 ∧ (vg_isneed (vg_mp (s0.1 55 17).toInt64 a1.toInt64 (s0.1 55 16).toNatClampNeg) (Int32.ofInt (-1)))
        exact ⟨rfl, (by first | exact vg_isneed1 x34.1 x34.2 None None None c39 (by omega) (by omega) | exact vg_isneed2 x34.1 x34.2 (by omega) (by decide))⟩
      · have c39 : ¬ ((Int32.ofInt 32).toInt < w31.toInt) := c39
        intro v40 e41
        have b42 := vg_sub e41 (by omega) (by omega)
        intro v43 e44
        intro v45 e46
        refine And.intro (fun c47 => ?_) (fun c47 => ?_)
        · have c47 : 0 ≤ v45.toInt := c47
          intro v48 e49
          have b50 := vg_add e49 (by omega) (by omega)
          exact ⟨rfl, ⟨w30, v48, rfl, (by omega), (by omega), (by first | exact ⟨x34.1, vg_ge8_step x34.2 e41 e44 e46 c47 (by omega)⟩ | exact ⟨vg_mp_at x34.1 (by omega), vg_ge8_0⟩), rfl⟩, (by show (0 + (33 - v48.toInt) * 1000000000000).toNat < (0 + (33 - w31.toInt) * 1000000000000).toNat; omega)⟩
        · have c47 : ¬ (0 ≤ v45.toInt) := c47
          show s0 = s0 ∧ (vg_isneed (vg_mp (s0.1 55 17).toInt64 a1.toInt64 (s0.1 55 16).toNatClampNeg) w31)
          exact ⟨rfl, (by first | exact vg_isneed1 x34.1 x34.2 e41 e44 e46 c47 (by omega) (by omega) | exact vg_isneed2 x34.1 x34.2 (by omega) (by decide))⟩
