def o_X11_wouldBeOn : List vg_I := [(0, .aload_n 0, 1, 0, 0, 0, 0), (1, .invokevirtual 102, 3, 0, 11, 0, 1218), (4, .istore_n 2, 1, 0, 0, 0, 0), (5, .iconst 0, 1, 0, 0, 0, 0), (6, .istore_n 3, 1, 0, 0, 0, 0), (7, .aload_n 0, 1, 0, 0, 0, 0), (8, .getfield 164, 3, 1076, 11, 15, 0), (11, .ifCond .ne 9, 3, 0, 0, 0, 0), (14, .iconst 1, 1, 0, 0, 0, 0), (15, .iload_n 1, 1, 0, 0, 0, 0), (16, .ishl, 1, 0, 0, 0, 0), (17, .iconst 1, 1, 0, 0, 0, 0), (18, .isub, 1, 0, 0, 0, 0), (19, .ireturn, 1, 0, 0, 0, 0), (20, .iconst 0, 1, 0, 0, 0, 0), (21, .istore 4, 2, 0, 0, 0, 0), (23, .iload 4, 2, 0, 0, 0, 0), (25, .iload_n 1, 1, 0, 0, 0, 0), (26, .if_icmp .ge 145, 3, 0, 0, 0, 0), (29, .iconst (-1), 1, 0, 0, 0, 0), (30, .istore 5, 2, 0, 0, 0, 0), (32, .aload_n 0, 1, 0, 0, 0, 0), (33, .getfield 164, 3, 1076, 11, 15, 0), (36, .iconst 1, 1, 0, 0, 0, 0), (37, .if_icmp .ne 16, 3, 0, 0, 0, 0), (40, .aload_n 0, 1, 0, 0, 0, 0), (41, .bipush 10, 2, 0, 0, 0, 0), (43, .invokevirtual 110, 3, 1, 11, 1, 1202), (46, .iload 4, 2, 0, 0, 0, 0), (48, .iadd, 1, 0, 0, 0, 0), (49, .iload_n 2, 1, 0, 0, 0, 0), (50, .irem, 1, 0, 0, 0, 0), (51, .istore 5, 2, 0, 0, 0, 0), (53, .iconst 0, 1, 0, 0, 0, 0), (54, .istore 6, 2, 0, 0, 0, 0), (56, .iload 6, 2, 0, 0, 0, 0), (58, .iload_n 2, 1, 0, 0, 0, 0), (59, .if_icmp .ge 99, 3, 0, 0, 0, 0), (62, .aload_n 0, 1, 0, 0, 0, 0), (63, .getfield 164, 3, 1076, 11, 15, 0), (66, .iconst 2, 1, 0, 0, 0, 0), (67, .if_icmp .ne 91, 3, 0, 0, 0, 0), (70, .iload_n 3, 1, 0, 0, 0, 0), (71, .iload 6, 2, 0, 0, 0, 0), (73, .ishr, 1, 0, 0, 0, 0), (74, .iconst 1, 1, 0, 0, 0, 0), (75, .iand, 1, 0, 0, 0, 0), (76, .iconst 1, 1, 0, 0, 0, 0), (77, .if_icmp .ne 6, 3, 0, 0, 0, 0), (80, .goto 72, 3, 0, 0, 0, 0), (83, .iload 5, 2, 0, 0, 0, 0), (85, .iconst (-1), 1, 0, 0, 0, 0), (86, .if_icmp .eq 57, 3, 0, 0, 0, 0), (89, .ldc2_w 167, 3, 1336, 0, 0, 2), (92, .aload_n 0, 1, 0, 0, 0, 0), (93, .getfield 7, 3, 1061, 11, 0, 0), (96, .bipush 39, 2, 0, 0, 0, 0), (98, .iload 6, 2, 0, 0, 0, 0), (100, .iadd, 1, 0, 0, 0, 0), (101, .laload, 1, 0, 0, 0, 0), (102, .lmul, 1, 0, 0, 0, 0), (103, .aload_n 0, 1, 0, 0, 0, 0), (104, .getfield 7, 3, 1061, 11, 0, 0), (107, .bipush 55, 2, 0, 0, 0, 0), (109, .iload 6, 2, 0, 0, 0, 0), (111, .iadd, 1, 0, 0, 0, 0), (112, .laload, 1, 0, 0, 0, 0), (113, .ladd, 1, 0, 0, 0, 0), (114, .ldc2_w 167, 3, 1336, 0, 0, 2), (117, .aload_n 0, 1, 0, 0, 0, 0), (118, .getfield 7, 3, 1061, 11, 0, 0), (121, .bipush 39, 2, 0, 0, 0, 0), (123, .iload 5, 2, 0, 0, 0, 0), (125, .iadd, 1, 0, 0, 0, 0), (126, .laload, 1, 0, 0, 0, 0), (127, .lmul, 1, 0, 0, 0, 0), (128, .aload_n 0, 1, 0, 0, 0, 0), (129, .getfield 7, 3, 1061, 11, 0, 0), (132, .bipush 55, 2, 0, 0, 0, 0), (134, .iload 5, 2, 0, 0, 0, 0), (136, .iadd, 1, 0, 0, 0, 0), (137, .laload, 1, 0, 0, 0, 0), (138, .ladd, 1, 0, 0, 0, 0), (139, .lcmp, 1, 0, 0, 0, 0), (140, .ifCond .le 8, 3, 0, 0, 0, 0), (143, .iload 6, 2, 0, 0, 0, 0), (145, .goto 5, 3, 0, 0, 0, 0), (148, .iload 5, 2, 0, 0, 0, 0), (150, .istore 5, 2, 0, 0, 0, 0), (152, .iinc 6 1, 3, 0, 0, 0, 0), (155, .goto (-99), 3, 0, 0, 0, 0), (158, .iload_n 3, 1, 0, 0, 0, 0), (159, .iconst 1, 1, 0, 0, 0, 0), (160, .iload 5, 2, 0, 0, 0, 0), (162, .ishl, 1, 0, 0, 0, 0), (163, .ior, 1, 0, 0, 0, 0), (164, .istore_n 3, 1, 0, 0, 0, 0), (165, .iinc 4 1, 3, 0, 0, 0, 0), (168, .goto (-145), 3, 0, 0, 0, 0), (171, .iload_n 3, 1, 0, 0, 0, 0), (172, .ireturn, 1, 0, 0, 0, 0)]
set_option maxRecDepth 100000 in
set_option maxHeartbeats 4000000 in
theorem c_X11_wouldBeOn (l : Launch) (G : vg_G) (hp : vg_Hp G) : vg_Ct l G vg_sh r_X11_wouldBeOn := by
  refine vg_meth hp vg_sh_ok r_X11_wouldBeOn k_X11_wouldBeOn rfl (fun h => by cases h) o_X11_wouldBeOn [r_X11_elements, r_X11_get] false (by decide +kernel) (by decide +kernel) ⟨_, _, rfl, rfl⟩ (List.forall_mem_cons.mpr ⟨⟨c_X11_elements l G hp, Nat.le_of_ble_eq_true rfl, Nat.le_of_ble_eq_true rfl⟩, List.forall_mem_cons.mpr ⟨⟨c_X11_get l G hp, Nat.le_of_ble_eq_true rfl, Nat.le_of_ble_eq_true rfl⟩, fun _ h => absurd h List.not_mem_nil⟩⟩) (fun h => by cases h) 600 ?_
  intro as s0 hpre
  obtain ⟨r, a1, rfl, hr, i0⟩ := hpre
  have ra1 := vg_rng a1
  simp only [List.mem_cons, List.not_mem_nil, or_false] at hr
  rcases hr with rfl
  ·
    have zm1 : (Int32.ofInt (-1)).toInt = -1 := by decide
    have z0 : (Int32.ofInt 0).toInt = 0 := by decide
    have z1 : (Int32.ofInt 1).toInt = 1 := by decide
    have z2 : (Int32.ofInt 2).toInt = 2 := by decide
    have z10 : (Int32.ofInt 10).toInt = 10 := by decide
    have z39 : (Int32.ofInt 39).toInt = 39 := by decide
    have z55 : (Int32.ofInt 55).toInt = 55 := by decide
    refine ⟨Nat.le_of_ble_eq_true rfl, [(23, [true, true, true, true, true, false, false], (fun L t => ∃ (x2 : Int32) (x3 : Int32) (x4 : Int32), L = [some (.ref 55), some (.int a1), some (.int x2), some (.int x3), some (.int x4), none, none] ∧ (1 : Int) ≤ x2.toInt ∧ x2.toInt ≤ (16 : Int) ∧ (0 : Int) ≤ x4.toInt ∧ t = s0), (fun L _ => ((a1.toInt - (vg_li L 4).toInt) * 100).toNat)), (56, [true, true, true, true, true, true, true], (fun L t => ∃ (x2 : Int32) (x3 : Int32) (x4 : Int32) (x5 : Int32) (x6 : Int32), L = [some (.ref 55), some (.int a1), some (.int x2), some (.int x3), some (.int x4), some (.int x5), some (.int x6)] ∧ (1 : Int) ≤ x2.toInt ∧ x2.toInt ≤ (16 : Int) ∧ (0 : Int) ≤ x4.toInt ∧ x4.toInt ≤ (2147483646 : Int) ∧ (0 : Int) ≤ x6.toInt ∧ x6.toInt ≤ (16 : Int) ∧ (1 : Int) ≤ a1.toInt ∧ a1.toInt ≤ (2147483647 : Int) ∧ (x4.toInt < a1.toInt ∧ ((-1 ≤ x5.toInt ∧ x5.toInt ≤ 15) ∨ ¬ (s0.1 55 15).toInt = 2)) ∧ t = s0), (fun L _ => ((a1.toInt - (vg_li L 4).toInt) * 100 - 100 + (17 - (vg_li L 6).toInt) + 1).toNat))], ?_, List.forall_mem_cons.mpr ⟨?_, List.forall_mem_cons.mpr ⟨?_, fun _ h => absurd h List.not_mem_nil⟩⟩⟩
    ·
      refine And.intro (Nat.le_of_ble_eq_true rfl) (And.intro ⟨55, rfl, by decide, i0⟩ ?_)
      intro v1 s3 h2
      have h2 : s3 = s0 ∧ (v1 = vg_me s0 ∧ 1 ≤ v1.toInt ∧ v1.toInt ≤ 16) := h2
      have q6 := h2.1.symm
      subst q6
      have q7 := h2.2
      intro v8 e9
      have g10 : s0.1 55 15 = v8 := by rw [e9]
      have b11 : v8.toInt = (s0.1 55 15).toInt := congrArg Int32.toInt e9
      refine And.intro (fun c12 => ?_) (fun c12 => ?_)
      · have c12 : ¬ v8.toInt = 0 := c12
        exact ⟨rfl, ⟨v1, (Int32.ofInt 0), (Int32.ofInt 0), rfl, (by omega), (by omega), (by omega), rfl⟩, trivial⟩
      · have c12 : ¬ (¬ v8.toInt = 0) := c12
        intro v13 e14
        intro v15 e16
        show s0 = s0 ∧ (True)
        exact ⟨rfl, (trivial)⟩
    ·
      intro L s23 hL
      obtain ⟨w17, w20, w21, rfl, b18, b19, b22, q26⟩ := hL
      have q26 := q26.symm
      subst q26
      refine And.intro (fun c27 => ?_) (fun c27 => ?_)
      · have c27 : a1.toInt ≤ w21.toInt := c27
        show s0 = s0 ∧ (True)
        exact ⟨rfl, (trivial)⟩
      · have c27 : ¬ (a1.toInt ≤ w21.toInt) := c27
        intro v28 e29
        have g30 : s0.1 55 15 = v28 := by rw [e29]
        have b31 : v28.toInt = (s0.1 55 15).toInt := congrArg Int32.toInt e29
        refine And.intro (fun c32 => ?_) (fun c32 => ?_)
        · have c32 : ¬ v28.toInt = (Int32.ofInt 1).toInt := c32
          exact ⟨rfl, ⟨w17, w20, w21, (Int32.ofInt (-1)), (Int32.ofInt 0), rfl, (by omega), (by omega), (by omega), (by omega), (by omega), (by omega), (by omega), (by omega), (by omega), rfl⟩, (by show ((a1.toInt - w21.toInt) * 100 - 100 + (17 - (Int32.ofInt 0).toInt) + 1).toNat < ((a1.toInt - w21.toInt) * 100).toNat; omega)⟩
        · have c32 : ¬ (¬ v28.toInt = (Int32.ofInt 1).toInt) := c32
          refine And.intro (Nat.le_of_ble_eq_true rfl) (And.intro ⟨55, (Int32.ofInt 10), rfl, by decide, i0, by omega⟩ ?_)
          intro v33 s35 h34
          have h34 : s35 = s0 ∧ (v33 = (s0.2 56 (Int32.ofInt 10).toNatClampNeg).toInt32) := h34
          have q38 := h34.1.symm
          subst q38
          have q39 := h34.2
          intro v40 e41
          refine And.intro (by omega) ?_
          intro v42 e43
          have b44 := vg_remx e43 (by omega)
          exact ⟨rfl, ⟨w17, w20, w21, v42, (Int32.ofInt 0), rfl, (by omega), (by omega), (by omega), (by omega), (by omega), (by omega), (by omega), (by omega), (by omega), rfl⟩, (by show ((a1.toInt - w21.toInt) * 100 - 100 + (17 - (Int32.ofInt 0).toInt) + 1).toNat < ((a1.toInt - w21.toInt) * 100).toNat; omega)⟩
    ·
      intro L s59 hL
      obtain ⟨w45, w48, w49, w52, w53, rfl, b46, b47, b50, b51, b54, b55, b56, b57, x58, q62⟩ := hL
      have q62 := q62.symm
      subst q62
      refine And.intro (fun c63 => ?_) (fun c63 => ?_)
      · have c63 : w45.toInt ≤ w53.toInt := c63
        intro v64 e65
        intro v66 e67
        intro v68 e69
        have b70 := vg_add e69 (by omega) (by omega)
        exact ⟨rfl, ⟨w45, v66, v68, rfl, (by omega), (by omega), (by omega), rfl⟩, (by show ((a1.toInt - v68.toInt) * 100).toNat < ((a1.toInt - w49.toInt) * 100 - 100 + (17 - w53.toInt) + 1).toNat; omega)⟩
      · have c63 : ¬ (w45.toInt ≤ w53.toInt) := c63
        intro v71 e72
        have g73 : s0.1 55 15 = v71 := by rw [e72]
        have b74 : v71.toInt = (s0.1 55 15).toInt := congrArg Int32.toInt e72
        refine And.intro (fun c75 => ?_) (fun c75 => ?_)
        · have c75 : ¬ v71.toInt = (Int32.ofInt 2).toInt := c75
          intro v76 e77
          intro v78 e79
          intro v80 e81
          have b82 := vg_add e81 (by omega) (by omega)
          exact ⟨rfl, ⟨w45, v78, v80, rfl, (by omega), (by omega), (by omega), rfl⟩, (by show ((a1.toInt - v80.toInt) * 100).toNat < ((a1.toInt - w49.toInt) * 100 - 100 + (17 - w53.toInt) + 1).toNat; omega)⟩
        · have c75 : ¬ (¬ v71.toInt = (Int32.ofInt 2).toInt) := c75
          intro v83 e84
          intro v85 e86
          have b87 := vg_and e86 (by omega)
          refine And.intro (fun c88 => ?_) (fun c88 => ?_)
          · have c88 : ¬ v85.toInt = (Int32.ofInt 1).toInt := c88
            refine And.intro (fun c89 => ?_) (fun c89 => ?_)
            · have c89 : w52.toInt = (Int32.ofInt (-1)).toInt := c89
              intro v90 e91
              have b92 := vg_add e91 (by omega) (by omega)
              exact ⟨rfl, ⟨w45, w48, w49, w53, v90, rfl, (by omega), (by omega), (by omega), (by omega), (by omega), (by omega), (by omega), (by omega), (by omega), rfl⟩, (by show ((a1.toInt - w49.toInt) * 100 - 100 + (17 - v90.toInt) + 1).toNat < ((a1.toInt - w49.toInt) * 100 - 100 + (17 - w53.toInt) + 1).toNat; omega)⟩
            · have c89 : ¬ (w52.toInt = (Int32.ofInt (-1)).toInt) := c89
              intro v93 e94
              have b95 := vg_add e94 (by omega) (by omega)
              refine And.intro ⟨by omega, by omega⟩ ?_
              intro v96 e97
              intro v98 e99
              intro v100 e101
              have b102 := vg_add e101 (by omega) (by omega)
              refine And.intro ⟨by omega, by omega⟩ ?_
              intro v103 e104
              intro v105 e106
              intro v107 e108
              have b109 := vg_add e108 (by omega) (by omega)
              refine And.intro ⟨by omega, by omega⟩ ?_
              intro v110 e111
              intro v112 e113
              intro v114 e115
              have b116 := vg_add e115 (by omega) (by omega)
              refine And.intro ⟨by omega, by omega⟩ ?_
              intro v117 e118
              intro v119 e120
              intro v121 e122
              refine And.intro (fun c123 => ?_) (fun c123 => ?_)
              · have c123 : v121.toInt ≤ 0 := c123
                intro v124 e125
                have b126 := vg_add e125 (by omega) (by omega)
                exact ⟨rfl, ⟨w45, w48, w49, w52, v124, rfl, (by omega), (by omega), (by omega), (by omega), (by omega), (by omega), (by omega), (by omega), (by omega), rfl⟩, (by show ((a1.toInt - w49.toInt) * 100 - 100 + (17 - v124.toInt) + 1).toNat < ((a1.toInt - w49.toInt) * 100 - 100 + (17 - w53.toInt) + 1).toNat; omega)⟩
              · have c123 : ¬ (v121.toInt ≤ 0) := c123
                intro v127 e128
                have b129 := vg_add e128 (by omega) (by omega)
                exact ⟨rfl, ⟨w45, w48, w49, w53, v127, rfl, (by omega), (by omega), (by omega), (by omega), (by omega), (by omega), (by omega), (by omega), (by omega), rfl⟩, (by show ((a1.toInt - w49.toInt) * 100 - 100 + (17 - v127.toInt) + 1).toNat < ((a1.toInt - w49.toInt) * 100 - 100 + (17 - w53.toInt) + 1).toNat; omega)⟩
          · have c88 : ¬ (¬ v85.toInt = (Int32.ofInt 1).toInt) := c88
            intro v130 e131
            have b132 := vg_add e131 (by omega) (by omega)
            exact ⟨rfl, ⟨w45, w48, w49, w52, v130, rfl, (by omega), (by omega), (by omega), (by omega), (by omega), (by omega), (by omega), (by omega), (by omega), rfl⟩, (by show ((a1.toInt - w49.toInt) * 100 - 100 + (17 - v130.toInt) + 1).toNat < ((a1.toInt - w49.toInt) * 100 - 100 + (17 - w53.toInt) + 1).toNat; omega)⟩
def o_X11_bounded : List vg_I := [(0, .ldc2_w 169, 3, 1340, 0, 0, -1000000), (3, .ldc2_w 171, 3, 1341, 0, 0, 1000000), (6, .lload_n 0, 1, 0, 0, 0, 0), (7, .invokestatic 173, 3, 0, 1, 2, 1342), (10, .invokestatic 176, 3, 1, 1, 2, 1327), (13, .lreturn, 1, 0, 0, 0, 0)]
set_option maxRecDepth 100000 in
set_option maxHeartbeats 4000000 in
theorem c_X11_bounded (l : Launch) (G : vg_G) (hp : vg_Hp G) : vg_Ct l G vg_sh r_X11_bounded := by
  refine vg_meth hp vg_sh_ok r_X11_bounded k_X11_bounded rfl (fun h => by cases h) o_X11_bounded [r_J9_min_f86c9, r_J9_max_f86c9] false (by decide +kernel) (by decide +kernel) ⟨_, _, rfl, rfl⟩ (List.forall_mem_cons.mpr ⟨⟨c_J9_min_f86c9 l G hp, Nat.le_of_ble_eq_true rfl, Nat.le_of_ble_eq_true rfl⟩, List.forall_mem_cons.mpr ⟨⟨c_J9_max_f86c9 l G hp, Nat.le_of_ble_eq_true rfl, Nat.le_of_ble_eq_true rfl⟩, fun _ h => absurd h List.not_mem_nil⟩⟩) (fun h => by cases h) 600 ?_
  intro as s0 hpre
  obtain ⟨a1, rfl, -⟩ := hpre
  refine ⟨Nat.le_of_ble_eq_true rfl, [], ?_, fun _ h => absurd h List.not_mem_nil⟩
  ·
    refine And.intro (Nat.le_of_ble_eq_true rfl) (And.intro ⟨(Int64.ofInt 1000000), a1, rfl, trivial⟩ ?_)
    intro v1 s3 h2
    have h2 : s3 = s0 ∧ (True) := h2
    have q6 := h2.1.symm
    subst q6
    refine And.intro (Nat.le_of_ble_eq_true rfl) (And.intro ⟨(Int64.ofInt (-1000000)), v1, rfl, trivial⟩ ?_)
    intro v7 s9 h8
    have h8 : s9 = s0 ∧ (True) := h8
    have q12 := h8.1.symm
    subst q12
    show s0 = s0 ∧ (True)
    exact ⟨rfl, (trivial)⟩
def o_X11_goesElements : List vg_I := [(0, .aload_n 0, 1, 0, 0, 0, 0), (1, .invokevirtual 102, 3, 0, 11, 0, 1218), (4, .istore_n 2, 1, 0, 0, 0, 0), (5, .aload_n 0, 1, 0, 0, 0, 0), (6, .iload_n 1, 1, 0, 0, 0, 0), (7, .invokevirtual 178, 3, 1, 11, 1, 1332), (10, .istore_n 3, 1, 0, 0, 0, 0), (11, .iconst 0, 1, 0, 0, 0, 0), (12, .istore 4, 2, 0, 0, 0, 0), (14, .iconst 0, 1, 0, 0, 0, 0), (15, .istore 5, 2, 0, 0, 0, 0), (17, .iload 5, 2, 0, 0, 0, 0), (19, .iload_n 2, 1, 0, 0, 0, 0), (20, .if_icmp .ge 152, 3, 0, 0, 0, 0), (23, .iload_n 3, 1, 0, 0, 0, 0), (24, .iload 5, 2, 0, 0, 0, 0), (26, .ishr, 1, 0, 0, 0, 0), (27, .iconst 1, 1, 0, 0, 0, 0), (28, .iand, 1, 0, 0, 0, 0), (29, .iconst 1, 1, 0, 0, 0, 0), (30, .if_icmp .ne 7, 3, 0, 0, 0, 0), (33, .iconst 1, 1, 0, 0, 0, 0), (34, .goto 4, 3, 0, 0, 0, 0), (37, .iconst 0, 1, 0, 0, 0, 0), (38, .istore 6, 2, 0, 0, 0, 0), (40, .iload 4, 2, 0, 0, 0, 0), (42, .iload 6, 2, 0, 0, 0, 0), (44, .ifCond .eq 12, 3, 0, 0, 0, 0), (47, .aload_n 0, 1, 0, 0, 0, 0), (48, .iload 5, 2, 0, 0, 0, 0), (50, .invokevirtual 106, 3, 2, 11, 1, 1242), (53, .goto 4, 3, 0, 0, 0, 0), (56, .iconst 0, 1, 0, 0, 0, 0), (57, .iadd, 1, 0, 0, 0, 0), (58, .istore 4, 2, 0, 0, 0, 0), (60, .aload_n 0, 1, 0, 0, 0, 0), (61, .getfield 7, 3, 1061, 11, 0, 0), (64, .bipush 71, 2, 0, 0, 0, 0), (66, .iload 5, 2, 0, 0, 0, 0), (68, .iadd, 1, 0, 0, 0, 0), (69, .dup2, 1, 0, 0, 0, 0), (70, .laload, 1, 0, 0, 0, 0), (71, .iload 6, 2, 0, 0, 0, 0), (73, .ifCond .eq 7, 3, 0, 0, 0, 0), (76, .lconst 1, 1, 0, 0, 0, 0), (77, .goto 4, 3, 0, 0, 0, 0), (80, .lconst 0, 1, 0, 0, 0, 0), (81, .ladd, 1, 0, 0, 0, 0), (82, .lastore, 1, 0, 0, 0, 0), (83, .aload_n 0, 1, 0, 0, 0, 0), (84, .getfield 164, 3, 1076, 11, 15, 0), (87, .iconst 2, 1, 0, 0, 0, 0), (88, .if_icmp .eq 6, 3, 0, 0, 0, 0), (91, .goto 75, 3, 0, 0, 0, 0), (94, .aload_n 0, 1, 0, 0, 0, 0), (95, .getfield 7, 3, 1061, 11, 0, 0), (98, .bipush 39, 2, 0, 0, 0, 0), (100, .iload 5, 2, 0, 0, 0, 0), (102, .iadd, 1, 0, 0, 0, 0), (103, .aload_n 0, 1, 0, 0, 0, 0), (104, .getfield 7, 3, 1061, 11, 0, 0), (107, .bipush 39, 2, 0, 0, 0, 0), (109, .iload 5, 2, 0, 0, 0, 0), (111, .iadd, 1, 0, 0, 0, 0), (112, .laload, 1, 0, 0, 0, 0), (113, .iload_n 1, 1, 0, 0, 0, 0), (114, .i2l, 1, 0, 0, 0, 0), (115, .ladd, 1, 0, 0, 0, 0), (116, .iload 6, 2, 0, 0, 0, 0), (118, .ifCond .eq 7, 3, 0, 0, 0, 0), (121, .iload_n 2, 1, 0, 0, 0, 0), (122, .goto 4, 3, 0, 0, 0, 0), (125, .iconst 0, 1, 0, 0, 0, 0), (126, .i2l, 1, 0, 0, 0, 0), (127, .lsub, 1, 0, 0, 0, 0), (128, .invokestatic 181, 3, 3, 1, 1, 1337), (131, .lastore, 1, 0, 0, 0, 0), (132, .aload_n 0, 1, 0, 0, 0, 0), (133, .getfield 7, 3, 1061, 11, 0, 0), (136, .bipush 55, 2, 0, 0, 0, 0), (138, .iload 5, 2, 0, 0, 0, 0), (140, .iadd, 1, 0, 0, 0, 0), (141, .aload_n 0, 1, 0, 0, 0, 0), (142, .getfield 7, 3, 1061, 11, 0, 0), (145, .bipush 55, 2, 0, 0, 0, 0), (147, .iload 5, 2, 0, 0, 0, 0), (149, .iadd, 1, 0, 0, 0, 0), (150, .laload, 1, 0, 0, 0, 0), (151, .aload_n 0, 1, 0, 0, 0, 0), (152, .getfield 7, 3, 1061, 11, 0, 0), (155, .bipush 39, 2, 0, 0, 0, 0), (157, .iload 5, 2, 0, 0, 0, 0), (159, .iadd, 1, 0, 0, 0, 0), (160, .laload, 1, 0, 0, 0, 0), (161, .ladd, 1, 0, 0, 0, 0), (162, .invokestatic 181, 3, 3, 1, 1, 1337), (165, .lastore, 1, 0, 0, 0, 0), (166, .iinc 5 1, 3, 0, 0, 0, 0), (169, .goto (-152), 3, 0, 0, 0, 0), (172, .aload_n 0, 1, 0, 0, 0, 0), (173, .getfield 164, 3, 1076, 11, 15, 0), (176, .iconst 1, 1, 0, 0, 0, 0), (177, .if_icmp .ne 23, 3, 0, 0, 0, 0), (180, .aload_n 0, 1, 0, 0, 0, 0), (181, .getfield 7, 3, 1061, 11, 0, 0), (184, .bipush 10, 2, 0, 0, 0, 0), (186, .aload_n 0, 1, 0, 0, 0, 0), (187, .getfield 7, 3, 1061, 11, 0, 0), (190, .bipush 10, 2, 0, 0, 0, 0), (192, .laload, 1, 0, 0, 0, 0), (193, .iload_n 1, 1, 0, 0, 0, 0), (194, .i2l, 1, 0, 0, 0, 0), (195, .ladd, 1, 0, 0, 0, 0), (196, .iload_n 2, 1, 0, 0, 0, 0), (197, .i2l, 1, 0, 0, 0, 0), (198, .lrem, 1, 0, 0, 0, 0), (199, .lastore, 1, 0, 0, 0, 0), (200, .aload_n 0, 1, 0, 0, 0, 0), (201, .getfield 7, 3, 1061, 11, 0, 0), (204, .bipush 87, 2, 0, 0, 0, 0), (206, .iload_n 3, 1, 0, 0, 0, 0), (207, .i2l, 1, 0, 0, 0, 0), (208, .lastore, 1, 0, 0, 0, 0), (209, .aload_n 0, 1, 0, 0, 0, 0), (210, .getfield 7, 3, 1061, 11, 0, 0), (213, .bipush 12, 2, 0, 0, 0, 0), (215, .dup2, 1, 0, 0, 0, 0), (216, .laload, 1, 0, 0, 0, 0), (217, .iload 4, 2, 0, 0, 0, 0), (219, .i2l, 1, 0, 0, 0, 0), (220, .ladd, 1, 0, 0, 0, 0), (221, .lastore, 1, 0, 0, 0, 0), (222, .aload_n 0, 1, 0, 0, 0, 0), (223, .getfield 7, 3, 1061, 11, 0, 0), (226, .bipush 11, 2, 0, 0, 0, 0), (228, .dup2, 1, 0, 0, 0, 0), (229, .laload, 1, 0, 0, 0, 0), (230, .iload_n 2, 1, 0, 0, 0, 0), (231, .i2l, 1, 0, 0, 0, 0), (232, .iload 4, 2, 0, 0, 0, 0), (234, .i2l, 1, 0, 0, 0, 0), (235, .lmul, 1, 0, 0, 0, 0), (236, .iload_n 1, 1, 0, 0, 0, 0), (237, .i2l, 1, 0, 0, 0, 0), (238, .aload_n 0, 1, 0, 0, 0, 0), (239, .invokevirtual 185, 3, 4, 11, 0, 1238), (242, .i2l, 1, 0, 0, 0, 0), (243, .lmul, 1, 0, 0, 0, 0), (244, .lsub, 1, 0, 0, 0, 0), (245, .ladd, 1, 0, 0, 0, 0), (246, .lastore, 1, 0, 0, 0, 0), (247, .iload 4, 2, 0, 0, 0, 0), (249, .ireturn, 1, 0, 0, 0, 0)]
set_option maxRecDepth 100000 in
set_option maxHeartbeats 4000000 in
theorem c_X11_goesElements (l : Launch) (G : vg_G) (hp : vg_Hp G) : vg_Ct l G vg_sh r_X11_goesElements := by
  refine vg_meth hp vg_sh_ok r_X11_goesElements k_X11_goesElements rfl (fun h => by cases h) o_X11_goesElements [r_X11_elements, r_X11_wouldBeOn, r_X11_weight, r_X11_bounded, r_X11_weights] false (by decide +kernel) (by decide +kernel) ⟨_, _, rfl, rfl⟩ (List.forall_mem_cons.mpr ⟨⟨c_X11_elements l G hp, Nat.le_of_ble_eq_true rfl, Nat.le_of_ble_eq_true rfl⟩, List.forall_mem_cons.mpr ⟨⟨c_X11_wouldBeOn l G hp, Nat.le_of_ble_eq_true rfl, Nat.le_of_ble_eq_true rfl⟩, List.forall_mem_cons.mpr ⟨⟨c_X11_weight l G hp, Nat.le_of_ble_eq_true rfl, Nat.le_of_ble_eq_true rfl⟩, List.forall_mem_cons.mpr ⟨⟨c_X11_bounded l G hp, Nat.le_of_ble_eq_true rfl, Nat.le_of_ble_eq_true rfl⟩, List.forall_mem_cons.mpr ⟨⟨c_X11_weights l G hp, Nat.le_of_ble_eq_true rfl, Nat.le_of_ble_eq_true rfl⟩, fun _ h => absurd h List.not_mem_nil⟩⟩⟩⟩⟩) (fun h => by cases h) 600 ?_
  intro as s0 hpre
  obtain ⟨r, a1, rfl, hr, i0⟩ := hpre
  simp only [List.mem_cons, List.not_mem_nil, or_false] at hr
  rcases hr with rfl
  ·
    have z0 : (Int32.ofInt 0).toInt = 0 := by decide
    have z1 : (Int32.ofInt 1).toInt = 1 := by decide
    have z2 : (Int32.ofInt 2).toInt = 2 := by decide
    have z10 : (Int32.ofInt 10).toInt = 10 := by decide
    have z11 : (Int32.ofInt 11).toInt = 11 := by decide
    have z12 : (Int32.ofInt 12).toInt = 12 := by decide
    have z39 : (Int32.ofInt 39).toInt = 39 := by decide
    have z55 : (Int32.ofInt 55).toInt = 55 := by decide
    have z71 : (Int32.ofInt 71).toInt = 71 := by decide
    have z87 : (Int32.ofInt 87).toInt = 87 := by decide
    refine ⟨Nat.le_of_ble_eq_true rfl, [(17, [true, true, true, true, true, true, false], (fun L t => ∃ (x2 : Int32) (x3 : Int32) (x4 : Int32) (x5 : Int32), L = [some (.ref 55), some (.int a1), some (.int x2), some (.int x3), some (.int x4), some (.int x5), none] ∧ (1 : Int) ≤ x2.toInt ∧ x2.toInt ≤ (16 : Int) ∧ (0 : Int) ≤ x5.toInt ∧ x5.toInt ≤ (16 : Int) ∧ Iv t ∧ Kp s0 t ∧ vk t = ((vk s0).1, (vk s0).2)), (fun L _ => (0 + (16 - (vg_li L 5).toInt) * 1000000000000).toNat))], ?_, List.forall_mem_cons.mpr ⟨?_, fun _ h => absurd h List.not_mem_nil⟩⟩
    ·
      refine And.intro (Nat.le_of_ble_eq_true rfl) (And.intro ⟨55, rfl, by decide, i0⟩ ?_)
      intro v1 s3 h2
      have h2 : s3 = s0 ∧ (v1 = vg_me s0 ∧ 1 ≤ v1.toInt ∧ v1.toInt ≤ 16) := h2
      have q6 := h2.1.symm
      subst q6
      have q7 := h2.2
      refine And.intro (Nat.le_of_ble_eq_true rfl) (And.intro ⟨55, a1, rfl, by decide, i0⟩ ?_)
      intro v8 s10 h9
      have h9 : s10 = s0 ∧ (True) := h9
      have q13 := h9.1.symm
      subst q13
      exact ⟨rfl, ⟨v1, v8, (Int32.ofInt 0), (Int32.ofInt 0), rfl, (by omega), (by omega), (by omega), (by omega), i0, Kx.rf, rfl⟩, trivial⟩
    ·
      intro L s22 hL
      obtain ⟨w14, w17, w18, w19, rfl, b15, b16, b20, b21, i23, k24, u25⟩ := hL
      refine And.intro (fun c26 => ?_) (fun c26 => ?_)
      · have c26 : w14.toInt ≤ w19.toInt := c26
        intro v27 e28
        have g29 : s22.1 55 15 = v27 := by rw [e28]
        refine And.intro (fun c30 => ?_) (fun c30 => ?_)
        · have c30 : ¬ v27.toInt = (Int32.ofInt 1).toInt := c30
          intro v31 e32
          refine And.intro ⟨by omega, by omega⟩ ?_
          intro s33 e34
          have i35 : Iv s33 := Iv.u2 i23 e34
          have k36 : Kp s0 s33 := Kx.u2 k24 e34 (vg_kq_pos (by omega)).1
          have u37 : vk s33 = ((vk s0).1, (vk s0).2) := vk_k2o u25 e34 (by omega)
          refine And.intro ⟨by omega, by omega⟩ ?_
          intro v38 e39
          intro v40 e41
          intro v42 e43
          refine And.intro ⟨by omega, by omega⟩ ?_
          intro s44 e45
          have i46 : Iv s44 := Iv.u2 i35 e45
          have k47 : Kp s0 s44 := Kx.u2 k36 e45 (vg_kq_pos (by omega)).1
          have u48 : vk s44 = ((vk s0).1, (vk s0).2) := vk_k2o u37 e45 (by omega)
          refine And.intro ⟨by omega, by omega⟩ ?_
          intro v49 e50
          intro v51 e52
          have b53 := vg_i2l e52
          intro v54 e55
          intro v56 e57
          intro v58 e59
          refine And.intro (Nat.le_of_ble_eq_true rfl) (And.intro ⟨55, rfl, by decide, i46⟩ ?_)
          intro v60 s62 h61
          have h61 : s62 = s44 ∧ (v60 = vg_ws (s44.1 59) (vg_me s44).toNatClampNeg) := h61
          have q65 := h61.1.symm
          subst q65
          have q66 := h61.2
          intro v67 e68
          intro v69 e70
          intro v71 e72
          intro v73 e74
          refine And.intro ⟨by omega, by omega⟩ ?_
          intro s75 e76
          have i77 : Iv s75 := Iv.u2 i46 e76
          have k78 : Kp s0 s75 := Kx.u2 k47 e76 (vg_kq_pos (by omega)).1
          have u79 : vk s75 = ((vk s0).1, (vk s0).2) := vk_k2o u48 e76 (by omega)
          show Iv s75 ∧ Kp s0 s75 ∧ vk s75 = ((vk s0).1, (vk s0).2) ∧ (True)
          exact ⟨i77, k78, u79, (trivial)⟩
        · have c30 : ¬ (¬ v27.toInt = (Int32.ofInt 1).toInt) := c30
          refine And.intro ⟨by omega, by omega⟩ ?_
          intro v80 e81
          intro v82 e83
          intro v84 e85
          intro v86 e87
          have b88 := vg_i2l e87
          refine And.intro (by omega) ?_
          intro v89 e90
          refine And.intro ⟨by omega, by omega⟩ ?_
          intro s91 e92
          have i93 : Iv s91 := Iv.u2 i23 e92
          have k94 : Kp s0 s91 := Kx.u2 k24 e92 (vg_kq_pos (by omega)).1
          have u95 : vk s91 = ((vk s0).1, (vk s0).2) := vk_k2o u25 e92 (by omega)
          intro v96 e97
          refine And.intro ⟨by omega, by omega⟩ ?_
          intro s98 e99
          have i100 : Iv s98 := Iv.u2 i93 e99
          have k101 : Kp s0 s98 := Kx.u2 k94 e99 (vg_kq_pos (by omega)).1
          have u102 : vk s98 = ((vk s0).1, (vk s0).2) := vk_k2o u95 e99 (by omega)
          refine And.intro ⟨by omega, by omega⟩ ?_
          intro v103 e104
          intro v105 e106
          intro v107 e108
          refine And.intro ⟨by omega, by omega⟩ ?_
          intro s109 e110
          have i111 : Iv s109 := Iv.u2 i100 e110
          have k112 : Kp s0 s109 := Kx.u2 k101 e110 (vg_kq_pos (by omega)).1
          have u113 : vk s109 = ((vk s0).1, (vk s0).2) := vk_k2o u102 e110 (by omega)
          refine And.intro ⟨by omega, by omega⟩ ?_
          intro v114 e115
          intro v116 e117
          have b118 := vg_i2l e117
          intro v119 e120
          intro v121 e122
          intro v123 e124
          refine And.intro (Nat.le_of_ble_eq_true rfl) (And.intro ⟨55, rfl, by decide, i111⟩ ?_)
          intro v125 s127 h126
          have h126 : s127 = s109 ∧ (v125 = vg_ws (s109.1 59) (vg_me s109).toNatClampNeg) := h126
          have q130 := h126.1.symm
          subst q130
          have q131 := h126.2
          intro v132 e133
          intro v134 e135
          intro v136 e137
          intro v138 e139
          refine And.intro ⟨by omega, by omega⟩ ?_
          intro s140 e141
          have i142 : Iv s140 := Iv.u2 i111 e141
          have k143 : Kp s0 s140 := Kx.u2 k112 e141 (vg_kq_pos (by omega)).1
          have u144 : vk s140 = ((vk s0).1, (vk s0).2) := vk_k2o u113 e141 (by omega)
          show Iv s140 ∧ Kp s0 s140 ∧ vk s140 = ((vk s0).1, (vk s0).2) ∧ (True)
          exact ⟨i142, k143, u144, (trivial)⟩
      · have c26 : ¬ (w14.toInt ≤ w19.toInt) := c26
        intro v145 e146
        intro v147 e148
        have b149 := vg_and e148 (by omega)
        refine And.intro (fun c150 => ?_) (fun c150 => ?_)
        · have c150 : ¬ v147.toInt = (Int32.ofInt 1).toInt := c150
          refine And.intro (fun c151 => ?_) (fun c151 => ?_)
          · have c151 : (Int32.ofInt 0).toInt = 0 := c151
            intro v152 e153
            intro v154 e155
            have b156 := vg_add e155 (by omega) (by omega)
            refine And.intro ⟨by omega, by omega⟩ ?_
            intro v157 e158
            refine And.intro (fun c159 => ?_) (fun c159 => ?_)
            · have c159 : (Int32.ofInt 0).toInt = 0 := c159
              intro v160 e161
              refine And.intro ⟨by omega, by omega⟩ ?_
              intro s162 e163
              have i164 : Iv s162 := Iv.u2 i23 e163
              have k165 : Kp s0 s162 := Kx.u2 k24 e163 (vg_kq_pos (by omega)).1
              have u166 : vk s162 = ((vk s0).1, (vk s0).2) := vk_k2o u25 e163 (by omega)
              intro v167 e168
              have g169 : s22.1 55 15 = v167 := by rw [e168, e163, vg_u2_1]
              refine And.intro (fun c170 => ?_) (fun c170 => ?_)
              · have c170 : v167.toInt = (Int32.ofInt 2).toInt := c170
                intro v171 e172
                have b173 := vg_add e172 (by omega) (by omega)
                intro v174 e175
                have b176 := vg_add e175 (by omega) (by omega)
                refine And.intro ⟨by omega, by omega⟩ ?_
                intro v177 e178
                intro v179 e180
                intro v181 e182
                refine And.intro (fun c183 => ?_) (fun c183 => ?_)
                · have c183 : (Int32.ofInt 0).toInt = 0 := c183
                  intro v184 e185
                  have b186 := vg_i2l e185
                  intro v187 e188
                  refine And.intro (Nat.le_of_ble_eq_true rfl) (And.intro ⟨v187, rfl, trivial⟩ ?_)
                  intro v189 s191 h190
                  have h190 : s191 = s162 ∧ (True) := h190
                  have q194 := h190.1.symm
                  subst q194
                  refine And.intro ⟨by omega, by omega⟩ ?_
                  intro s195 e196
                  have i197 : Iv s195 := Iv.u2 i164 e196
                  have k198 : Kp s0 s195 := Kx.u2 k165 e196 (vg_kq_pos (by omega)).1
                  have u199 : vk s195 = ((vk s0).1, (vk s0).2) := vk_k2o u166 e196 (by omega)
                  intro v200 e201
                  have b202 := vg_add e201 (by omega) (by omega)
                  intro v203 e204
                  have b205 := vg_add e204 (by omega) (by omega)
                  refine And.intro ⟨by omega, by omega⟩ ?_
                  intro v206 e207
                  intro v208 e209
                  have b210 := vg_add e209 (by omega) (by omega)
                  refine And.intro ⟨by omega, by omega⟩ ?_
                  intro v211 e212
                  intro v213 e214
                  refine And.intro (Nat.le_of_ble_eq_true rfl) (And.intro ⟨v213, rfl, trivial⟩ ?_)
                  intro v215 s217 h216
                  have h216 : s217 = s195 ∧ (True) := h216
                  have q220 := h216.1.symm
                  subst q220
                  refine And.intro ⟨by omega, by omega⟩ ?_
                  intro s221 e222
                  have i223 : Iv s221 := Iv.u2 i197 e222
                  have k224 : Kp s0 s221 := Kx.u2 k198 e222 (vg_kq_pos (by omega)).1
                  have u225 : vk s221 = ((vk s0).1, (vk s0).2) := vk_k2o u199 e222 (by omega)
                  intro v226 e227
                  have b228 := vg_add e227 (by omega) (by omega)
                  exact ⟨rfl, ⟨w14, w17, v152, v226, rfl, (by omega), (by omega), (by omega), (by omega), i223, k224, u225⟩, (by show (0 + (16 - v226.toInt) * 1000000000000).toNat < (0 + (16 - w19.toInt) * 1000000000000).toNat; omega)⟩
                · have c183 : ¬ ((Int32.ofInt 0).toInt = 0) := c183
                  exfalso
                  omega
              · have c170 : ¬ (v167.toInt = (Int32.ofInt 2).toInt) := c170
                intro v229 e230
                have b231 := vg_add e230 (by omega) (by omega)
                exact ⟨rfl, ⟨w14, w17, v152, v229, rfl, (by omega), (by omega), (by omega), (by omega), i164, k165, u166⟩, (by show (0 + (16 - v229.toInt) * 1000000000000).toNat < (0 + (16 - w19.toInt) * 1000000000000).toNat; omega)⟩
            · have c159 : ¬ ((Int32.ofInt 0).toInt = 0) := c159
              exfalso
              omega
          · have c151 : ¬ ((Int32.ofInt 0).toInt = 0) := c151
            exfalso
            omega
        · have c150 : ¬ (¬ v147.toInt = (Int32.ofInt 1).toInt) := c150
          refine And.intro (fun c232 => ?_) (fun c232 => ?_)
          · have c232 : (Int32.ofInt 1).toInt = 0 := c232
            exfalso
            omega
          · have c232 : ¬ ((Int32.ofInt 1).toInt = 0) := c232
            refine And.intro (Nat.le_of_ble_eq_true rfl) (And.intro ⟨55, w19, rfl, by decide, i23, by omega⟩ ?_)
            intro v233 s235 h234
            have h234 : s235 = s22 ∧ (v233 = Int32.ofInt 1000 + s22.1 59 w19.toNatClampNeg) := h234
            have q238 := h234.1.symm
            subst q238
            have q239 := h234.2
            intro v240 e241
            intro v242 e243
            have b244 := vg_add e243 (by omega) (by omega)
            refine And.intro ⟨by omega, by omega⟩ ?_
            intro v245 e246
            refine And.intro (fun c247 => ?_) (fun c247 => ?_)
            · have c247 : (Int32.ofInt 1).toInt = 0 := c247
              exfalso
              omega
            · have c247 : ¬ ((Int32.ofInt 1).toInt = 0) := c247
              intro v248 e249
              refine And.intro ⟨by omega, by omega⟩ ?_
              intro s250 e251
              have i252 : Iv s250 := Iv.u2 i23 e251
              have k253 : Kp s0 s250 := Kx.u2 k24 e251 (vg_kq_pos (by omega)).1
              have u254 : vk s250 = ((vk s0).1, (vk s0).2) := vk_k2o u25 e251 (by omega)
              intro v255 e256
              have g257 : s22.1 55 15 = v255 := by rw [e256, e251, vg_u2_1]
              refine And.intro (fun c258 => ?_) (fun c258 => ?_)
              · have c258 : v255.toInt = (Int32.ofInt 2).toInt := c258
                intro v259 e260
                have b261 := vg_add e260 (by omega) (by omega)
                intro v262 e263
                have b264 := vg_add e263 (by omega) (by omega)
                refine And.intro ⟨by omega, by omega⟩ ?_
                intro v265 e266
                intro v267 e268
                intro v269 e270
                refine And.intro (fun c271 => ?_) (fun c271 => ?_)
                · have c271 : (Int32.ofInt 1).toInt = 0 := c271
                  exfalso
                  omega
                · have c271 : ¬ ((Int32.ofInt 1).toInt = 0) := c271
                  intro v272 e273
                  have b274 := vg_i2l e273
                  intro v275 e276
                  refine And.intro (Nat.le_of_ble_eq_true rfl) (And.intro ⟨v275, rfl, trivial⟩ ?_)
                  intro v277 s279 h278
                  have h278 : s279 = s250 ∧ (True) := h278
                  have q282 := h278.1.symm
                  subst q282
                  refine And.intro ⟨by omega, by omega⟩ ?_
                  intro s283 e284
                  have i285 : Iv s283 := Iv.u2 i252 e284
                  have k286 : Kp s0 s283 := Kx.u2 k253 e284 (vg_kq_pos (by omega)).1
                  have u287 : vk s283 = ((vk s0).1, (vk s0).2) := vk_k2o u254 e284 (by omega)
                  intro v288 e289
                  have b290 := vg_add e289 (by omega) (by omega)
                  intro v291 e292
                  have b293 := vg_add e292 (by omega) (by omega)
                  refine And.intro ⟨by omega, by omega⟩ ?_
                  intro v294 e295
                  intro v296 e297
                  have b298 := vg_add e297 (by omega) (by omega)
                  refine And.intro ⟨by omega, by omega⟩ ?_
                  intro v299 e300
                  intro v301 e302
                  refine And.intro (Nat.le_of_ble_eq_true rfl) (And.intro ⟨v301, rfl, trivial⟩ ?_)
                  intro v303 s305 h304
                  have h304 : s305 = s283 ∧ (True) := h304
                  have q308 := h304.1.symm
                  subst q308
                  refine And.intro ⟨by omega, by omega⟩ ?_
                  intro s309 e310
                  have i311 : Iv s309 := Iv.u2 i285 e310
                  have k312 : Kp s0 s309 := Kx.u2 k286 e310 (vg_kq_pos (by omega)).1
                  have u313 : vk s309 = ((vk s0).1, (vk s0).2) := vk_k2o u287 e310 (by omega)
                  intro v314 e315
                  have b316 := vg_add e315 (by omega) (by omega)
                  exact ⟨rfl, ⟨w14, w17, v240, v314, rfl, (by omega), (by omega), (by omega), (by omega), i311, k312, u313⟩, (by show (0 + (16 - v314.toInt) * 1000000000000).toNat < (0 + (16 - w19.toInt) * 1000000000000).toNat; omega)⟩
              · have c258 : ¬ (v255.toInt = (Int32.ofInt 2).toInt) := c258
                intro v317 e318
                have b319 := vg_add e318 (by omega) (by omega)
                exact ⟨rfl, ⟨w14, w17, v240, v317, rfl, (by omega), (by omega), (by omega), (by omega), i252, k253, u254⟩, (by show (0 + (16 - v317.toInt) * 1000000000000).toNat < (0 + (16 - w19.toInt) * 1000000000000).toNat; omega)⟩
def o_X11_worded : List vg_I := [(0, .lload_n 1, 1, 0, 0, 0, 0), (1, .bipush 64, 2, 0, 0, 0, 0), (3, .aload_n 0, 1, 0, 0, 0, 0), (4, .getfield 39, 3, 1079, 11, 18, 0), (7, .isub, 1, 0, 0, 0, 0), (8, .lshl, 1, 0, 0, 0, 0), (9, .bipush 64, 2, 0, 0, 0, 0), (11, .aload_n 0, 1, 0, 0, 0, 0), (12, .getfield 39, 3, 1079, 11, 18, 0), (15, .isub, 1, 0, 0, 0, 0), (16, .lshr, 1, 0, 0, 0, 0), (17, .lreturn, 1, 0, 0, 0, 0)]
set_option maxRecDepth 100000 in
set_option maxHeartbeats 4000000 in
theorem c_X11_worded (l : Launch) (G : vg_G) (hp : vg_Hp G) : vg_Ct l G vg_sh r_X11_worded := by
  refine vg_meth hp vg_sh_ok r_X11_worded k_X11_worded rfl (fun h => by cases h) o_X11_worded [] false (by decide +kernel) (by decide +kernel) ⟨_, _, rfl, rfl⟩ (fun _ h => absurd h List.not_mem_nil) (fun h => by cases h) 600 ?_
  intro as s0 hpre
  obtain ⟨r, a1, rfl, hr, i0⟩ := hpre
  simp only [List.mem_cons, List.not_mem_nil, or_false] at hr
  rcases hr with rfl
  ·
    have z64 : (Int32.ofInt 64).toInt = 64 := by decide
    refine ⟨Nat.le_of_ble_eq_true rfl, [], ?_, fun _ h => absurd h List.not_mem_nil⟩
    ·
      intro v1 e2
      have g3 : s0.1 55 18 = v1 := by rw [e2]
      intro v4 e5
      intro v6 e7
      intro v8 e9
      have w10 : v1 = v8 := by rw [e9, g3]
      subst w10
      intro v11 e12
      intro v13 e14
      show s0 = s0 ∧ (True)
      exact ⟨rfl, (trivial)⟩
def o_X11_combs : List vg_I := [(0, .lload_n 1, 1, 0, 0, 0, 0), (1, .lstore_n 3, 1, 0, 0, 0, 0), (2, .lload_n 1, 1, 0, 0, 0, 0), (3, .lstore 5, 2, 0, 0, 0, 0), (5, .iconst 0, 1, 0, 0, 0, 0), (6, .istore 7, 2, 0, 0, 0, 0), (8, .iload 7, 2, 0, 0, 0, 0), (10, .aload_n 0, 1, 0, 0, 0, 0), (11, .getfield 33, 3, 1077, 11, 16, 0), (14, .if_icmp .ge 73, 3, 0, 0, 0, 0), (17, .aload_n 0, 1, 0, 0, 0, 0), (18, .getfield 7, 3, 1061, 11, 0, 0), (21, .bipush 88, 2, 0, 0, 0, 0), (23, .iload 7, 2, 0, 0, 0, 0), (25, .iadd, 1, 0, 0, 0, 0), (26, .aload_n 0, 1, 0, 0, 0, 0), (27, .aload_n 0, 1, 0, 0, 0, 0), (28, .getfield 7, 3, 1061, 11, 0, 0), (31, .bipush 88, 2, 0, 0, 0, 0), (33, .iload 7, 2, 0, 0, 0, 0), (35, .iadd, 1, 0, 0, 0, 0), (36, .laload, 1, 0, 0, 0, 0), (37, .lload_n 3, 1, 0, 0, 0, 0), (38, .ladd, 1, 0, 0, 0, 0), (39, .invokevirtual 188, 3, 0, 11, 1, 1349), (42, .lastore, 1, 0, 0, 0, 0), (43, .aload_n 0, 1, 0, 0, 0, 0), (44, .getfield 7, 3, 1061, 11, 0, 0), (47, .bipush 88, 2, 0, 0, 0, 0), (49, .iload 7, 2, 0, 0, 0, 0), (51, .iadd, 1, 0, 0, 0, 0), (52, .laload, 1, 0, 0, 0, 0), (53, .lstore_n 3, 1, 0, 0, 0, 0), (54, .aload_n 0, 1, 0, 0, 0, 0), (55, .getfield 7, 3, 1061, 11, 0, 0), (58, .bipush 98, 2, 0, 0, 0, 0), (60, .iload 7, 2, 0, 0, 0, 0), (62, .iadd, 1, 0, 0, 0, 0), (63, .dup2, 1, 0, 0, 0, 0), (64, .laload, 1, 0, 0, 0, 0), (65, .lload 5, 2, 0, 0, 0, 0), (67, .ladd, 1, 0, 0, 0, 0), (68, .lastore, 1, 0, 0, 0, 0), (69, .aload_n 0, 1, 0, 0, 0, 0), (70, .getfield 7, 3, 1061, 11, 0, 0), (73, .bipush 98, 2, 0, 0, 0, 0), (75, .iload 7, 2, 0, 0, 0, 0), (77, .iadd, 1, 0, 0, 0, 0), (78, .laload, 1, 0, 0, 0, 0), (79, .lstore 5, 2, 0, 0, 0, 0), (81, .iinc 7 1, 3, 0, 0, 0, 0), (84, .goto (-76), 3, 0, 0, 0, 0), (87, .aload_n 0, 1, 0, 0, 0, 0), (88, .getfield 7, 3, 1061, 11, 0, 0), (91, .bipush 13, 2, 0, 0, 0, 0), (93, .dup2, 1, 0, 0, 0, 0), (94, .laload, 1, 0, 0, 0, 0), (95, .lconst 1, 1, 0, 0, 0, 0), (96, .ladd, 1, 0, 0, 0, 0), (97, .lastore, 1, 0, 0, 0, 0), (98, .aload_n 0, 1, 0, 0, 0, 0), (99, .getfield 7, 3, 1061, 11, 0, 0), (102, .bipush 13, 2, 0, 0, 0, 0), (104, .laload, 1, 0, 0, 0, 0), (105, .aload_n 0, 1, 0, 0, 0, 0), (106, .getfield 36, 3, 1078, 11, 17, 0), (109, .i2l, 1, 0, 0, 0, 0), (110, .lrem, 1, 0, 0, 0, 0), (111, .lconst 0, 1, 0, 0, 0, 0), (112, .lcmp, 1, 0, 0, 0, 0), (113, .ifCond .eq 5, 3, 0, 0, 0, 0), (116, .iconst 0, 1, 0, 0, 0, 0), (117, .ireturn, 1, 0, 0, 0, 1), (118, .iconst 0, 1, 0, 0, 0, 0), (119, .istore 7, 2, 0, 0, 0, 0), (121, .iload 7, 2, 0, 0, 0, 0), (123, .aload_n 0, 1, 0, 0, 0, 0), (124, .getfield 33, 3, 1077, 11, 16, 0), (127, .if_icmp .ge 72, 3, 0, 0, 0, 0), (130, .aload_n 0, 1, 0, 0, 0, 0), (131, .lload_n 3, 1, 0, 0, 0, 0), (132, .aload_n 0, 1, 0, 0, 0, 0), (133, .getfield 7, 3, 1061, 11, 0, 0), (136, .bipush 93, 2, 0, 0, 0, 0), (138, .iload 7, 2, 0, 0, 0, 0), (140, .iadd, 1, 0, 0, 0, 0), (141, .laload, 1, 0, 0, 0, 0), (142, .lsub, 1, 0, 0, 0, 0), (143, .invokevirtual 188, 3, 0, 11, 1, 1349), (146, .lstore 8, 2, 0, 0, 0, 0), (148, .aload_n 0, 1, 0, 0, 0, 0), (149, .getfield 7, 3, 1061, 11, 0, 0), (152, .bipush 93, 2, 0, 0, 0, 0), (154, .iload 7, 2, 0, 0, 0, 0), (156, .iadd, 1, 0, 0, 0, 0), (157, .lload_n 3, 1, 0, 0, 0, 0), (158, .lastore, 1, 0, 0, 0, 0), (159, .lload 8, 2, 0, 0, 0, 0), (161, .lstore_n 3, 1, 0, 0, 0, 0), (162, .lload 5, 2, 0, 0, 0, 0), (164, .aload_n 0, 1, 0, 0, 0, 0), (165, .getfield 7, 3, 1061, 11, 0, 0), (168, .bipush 103, 2, 0, 0, 0, 0), (170, .iload 7, 2, 0, 0, 0, 0), (172, .iadd, 1, 0, 0, 0, 0), (173, .laload, 1, 0, 0, 0, 0), (174, .lsub, 1, 0, 0, 0, 0), (175, .lstore 10, 2, 0, 0, 0, 0), (177, .aload_n 0, 1, 0, 0, 0, 0), (178, .getfield 7, 3, 1061, 11, 0, 0), (181, .bipush 103, 2, 0, 0, 0, 0), (183, .iload 7, 2, 0, 0, 0, 0), (185, .iadd, 1, 0, 0, 0, 0), (186, .lload 5, 2, 0, 0, 0, 0), (188, .lastore, 1, 0, 0, 0, 0), (189, .lload 10, 2, 0, 0, 0, 0), (191, .lstore 5, 2, 0, 0, 0, 0), (193, .iinc 7 1, 3, 0, 0, 0, 0), (196, .goto (-75), 3, 0, 0, 0, 0), (199, .aload_n 0, 1, 0, 0, 0, 0), (200, .getfield 7, 3, 1061, 11, 0, 0), (203, .bipush 14, 2, 0, 0, 0, 0), (205, .dup2, 1, 0, 0, 0, 0), (206, .laload, 1, 0, 0, 0, 0), (207, .lload 5, 2, 0, 0, 0, 0), (209, .lload_n 3, 1, 0, 0, 0, 0), (210, .lcmp, 1, 0, 0, 0, 0), (211, .ifCond .eq 7, 3, 0, 0, 0, 0), (214, .lconst 1, 1, 0, 0, 0, 0), (215, .goto 4, 3, 0, 0, 0, 0), (218, .lconst 0, 1, 0, 0, 0, 0), (219, .ladd, 1, 0, 0, 0, 0), (220, .lastore, 1, 0, 0, 0, 0), (221, .aload_n 0, 1, 0, 0, 0, 0), (222, .getfield 7, 3, 1061, 11, 0, 0), (225, .bipush 15, 2, 0, 0, 0, 0), (227, .lload 5, 2, 0, 0, 0, 0), (229, .lload_n 3, 1, 0, 0, 0, 0), (230, .lsub, 1, 0, 0, 0, 0), (231, .lastore, 1, 0, 0, 0, 0), (232, .aload_n 0, 1, 0, 0, 0, 0), (233, .iconst 3, 1, 0, 0, 0, 0), (234, .lload_n 3, 1, 0, 0, 0, 0), (235, .invokevirtual 191, 3, 1, 11, 2, 1281), (238, .iconst 1, 1, 0, 0, 0, 0), (239, .ireturn, 1, 0, 0, 0, 1)]
set_option maxRecDepth 100000 in
set_option maxHeartbeats 4000000 in
theorem c_X11_combs (l : Launch) (G : vg_G) (hp : vg_Hp G) : vg_Ct l G vg_sh r_X11_combs := by
  refine vg_meth hp vg_sh_ok r_X11_combs k_X11_combs rfl (fun h => by cases h) o_X11_combs [r_X11_worded, r_X11_tells] false (by decide +kernel) (by decide +kernel) ⟨_, _, rfl, rfl⟩ (List.forall_mem_cons.mpr ⟨⟨c_X11_worded l G hp, Nat.le_of_ble_eq_true rfl, Nat.le_of_ble_eq_true rfl⟩, List.forall_mem_cons.mpr ⟨⟨c_X11_tells l G hp, Nat.le_of_ble_eq_true rfl, Nat.le_of_ble_eq_true rfl⟩, fun _ h => absurd h List.not_mem_nil⟩⟩) (fun h => by cases h) 600 ?_
  intro as s0 hpre
  obtain ⟨r, a1, rfl, hr, i0⟩ := hpre
  simp only [List.mem_cons, List.not_mem_nil, or_false] at hr
  rcases hr with rfl
  ·
    have z0 : (Int32.ofInt 0).toInt = 0 := by decide
    have z1 : (Int32.ofInt 1).toInt = 1 := by decide
    have z3 : (Int32.ofInt 3).toInt = 3 := by decide
    have z13 : (Int32.ofInt 13).toInt = 13 := by decide
    have z14 : (Int32.ofInt 14).toInt = 14 := by decide
    have z15 : (Int32.ofInt 15).toInt = 15 := by decide
    have z88 : (Int32.ofInt 88).toInt = 88 := by decide
    have z93 : (Int32.ofInt 93).toInt = 93 := by decide
    have z98 : (Int32.ofInt 98).toInt = 98 := by decide
    have z103 : (Int32.ofInt 103).toInt = 103 := by decide
    refine ⟨Nat.le_of_ble_eq_true rfl, [(8, [true, false, false, true, false, true, false, true, false, false, false, false], (fun L t => ∃ (x3 : Int64) (x5 : Int64) (x7 : Int32), L = [some (.ref 55), none, none, some (.long x3), none, some (.long x5), none, some (.int x7), none, none, none, none] ∧ (0 : Int) ≤ x7.toInt ∧ x7.toInt ≤ (5 : Int) ∧ Iv t ∧ Kp s0 t ∧ vk t = ((vk s0).1, (vk s0).2)), (fun L _ => (10000000000000000 + (5 - (vg_li L 7).toInt) * 1000000000000).toNat)), (121, [true, false, false, true, false, true, false, true, false, false, false, false], (fun L t => ∃ (x3 : Int64) (x5 : Int64) (x7 : Int32), L = [some (.ref 55), none, none, some (.long x3), none, some (.long x5), none, some (.int x7), none, none, none, none] ∧ (0 : Int) ≤ x7.toInt ∧ x7.toInt ≤ (5 : Int) ∧ (vr_rm (vr_inc (vk s0).2 7 7) (s0.1 55 17) = 0) ∧ Iv t ∧ Kp s0 t ∧ vk t = ((vk s0).1, vr_inc (vk s0).2 7)), (fun L _ => (0 + (5 - (vg_li L 7).toInt) * 1000000000000).toNat))], ?_, List.forall_mem_cons.mpr ⟨?_, List.forall_mem_cons.mpr ⟨?_, fun _ h => absurd h List.not_mem_nil⟩⟩⟩
    ·
      exact ⟨rfl, ⟨a1, a1, (Int32.ofInt 0), rfl, (by omega), (by omega), i0, Kx.rf, rfl⟩, trivial⟩
    ·
      intro L s6 hL
      obtain ⟨w1, w2, w3, rfl, b4, b5, i7, k8, u9⟩ := hL
      intro v10 e11
      have g12 : s6.1 55 16 = v10 := by rw [e11]
      have b13 : (1 : Int) ≤ v10.toInt ∧ v10.toInt ≤ 5 := by rw [e11]; exact Iv_55_16 i7
      refine And.intro (fun c14 => ?_) (fun c14 => ?_)
      · have c14 : v10.toInt ≤ w3.toInt := c14
        refine And.intro ⟨by omega, by omega⟩ ?_
        intro v15 e16
        intro v17 e18
        refine And.intro ⟨by omega, by omega⟩ ?_
        intro s19 e20
        have i21 : Iv s19 := Iv.u2 i7 e20
        have k22 : Kp s0 s19 := Kx.u2 k8 e20 (vg_kq_pos (by omega)).1
        have u23 : vk s19 = ((vk s0).1, (vr_inc (vk s0).2 7)) := vk_k2i (q := 7) u9 e16 e18 e20 (by omega) (by omega)
        refine And.intro ⟨by omega, by omega⟩ ?_
        intro v24 e25
        intro v26 e27
        have g28 : s6.1 55 17 = v26 := by rw [e27, e20, vg_u2_1]
        have b29 : (1 : Int) ≤ v26.toInt ∧ v26.toInt ≤ 16 := by rw [e27]; exact Iv_55_17 i21
        intro v30 e31
        have b32 := vg_i2l e31
        have y1 := vk_ar (q := 7) u23 e25 (by omega)
        have y3 := e27.trans (k22.1 55 17 rfl)
        refine And.intro (by omega) ?_
        intro v33 e34
        intro v35 e36
        have y2 : v35.toInt = vr_rm (vr_inc (vk s0).2 7 7) (s0.1 55 17) := vr_rmk y1 e34 e31 e36 y3
        refine And.intro (fun c37 => ?_) (fun c37 => ?_)
        · have c37 : v35.toInt = 0 := c37
          exact ⟨rfl, ⟨w1, w2, (Int32.ofInt 0), rfl, (by omega), (by omega), (by first | exact None | omega), i21, k22, u23⟩, (by show (0 + (5 - (Int32.ofInt 0).toInt) * 1000000000000).toNat < (10000000000000000 + (5 - w3.toInt) * 1000000000000).toNat; omega)⟩
        · have c37 : ¬ (v35.toInt = 0) := c37
          refine And.intro (by first | exact Or.inl rfl | exact Or.inr rfl | exact vg_01 (by omega) (by omega)) ?_
          show Iv s19 ∧ Kp s0 s19 ∧ vk s19 = ((vk s0).1, vr_tk (s0.1 55 17) (vk s0).2) ∧ (((Int32.ofInt 0).toInt = 0 ∧ ¬ vr_rm (vr_inc (vk s0).2 7 7) (s0.1 55 17) = 0) ∨ ((Int32.ofInt 0).toInt = 1 ∧ vr_rm (vr_inc (vk s0).2 7 7) (s0.1 55 17) = 0))
          exact ⟨i21, k22, (by first | exact vk_rr u23 (vr_tk1 None) | exact vk_rr u23 (vr_tk0 (by omega))), (by first | exact Or.inr ⟨by omega, None⟩ | exact Or.inl ⟨by omega, by omega⟩)⟩
      · have c14 : ¬ (v10.toInt ≤ w3.toInt) := c14
        intro v38 e39
        have b40 := vg_add e39 (by omega) (by omega)
        intro v41 e42
        have b43 := vg_add e42 (by omega) (by omega)
        refine And.intro ⟨by omega, by omega⟩ ?_
        intro v44 e45
        intro v46 e47
        refine And.intro (Nat.le_of_ble_eq_true rfl) (And.intro ⟨55, v46, rfl, by decide, i7⟩ ?_)
        intro v48 s50 h49
        have h49 : s50 = s6 ∧ (True) := h49
        have q53 := h49.1.symm
        subst q53
        refine And.intro ⟨by omega, by omega⟩ ?_
        intro s54 e55
        have i56 : Iv s54 := Iv.u2 i7 e55
        have k57 : Kp s0 s54 := Kx.u2 k8 e55 (vg_kq_pos (by omega)).1
        have u58 : vk s54 = ((vk s0).1, (vk s0).2) := vk_k2o u9 e55 (by omega)
        intro v59 e60
        have b61 := vg_add e60 (by omega) (by omega)
        refine And.intro ⟨by omega, by omega⟩ ?_
        intro v62 e63
        intro v64 e65
        have b66 := vg_add e65 (by omega) (by omega)
        refine And.intro ⟨by omega, by omega⟩ ?_
        intro v67 e68
        intro v69 e70
        refine And.intro ⟨by omega, by omega⟩ ?_
        intro s71 e72
        have i73 : Iv s71 := Iv.u2 i56 e72
        have k74 : Kp s0 s71 := Kx.u2 k57 e72 (vg_kq_pos (by omega)).1
        have u75 : vk s71 = ((vk s0).1, (vk s0).2) := vk_k2o u58 e72 (by omega)
        intro v76 e77
        have b78 := vg_add e77 (by omega) (by omega)
        refine And.intro ⟨by omega, by omega⟩ ?_
        intro v79 e80
        intro v81 e82
        have b83 := vg_add e82 (by omega) (by omega)
        exact ⟨rfl, ⟨v62, v79, v81, rfl, (by omega), (by omega), i73, k74, u75⟩, (by show (10000000000000000 + (5 - v81.toInt) * 1000000000000).toNat < (10000000000000000 + (5 - w3.toInt) * 1000000000000).toNat; omega)⟩
    ·
      intro L s90 hL
      obtain ⟨w84, w85, w86, rfl, b87, b88, x89, i91, k92, u93⟩ := hL
      intro v94 e95
      have g96 : s90.1 55 16 = v94 := by rw [e95]
      have b97 : (1 : Int) ≤ v94.toInt ∧ v94.toInt ≤ 5 := by rw [e95]; exact Iv_55_16 i91
      refine And.intro (fun c98 => ?_) (fun c98 => ?_)
      · have c98 : v94.toInt ≤ w86.toInt := c98
        refine And.intro ⟨by omega, by omega⟩ ?_
        intro v99 e100
        intro v101 e102
        refine And.intro (fun c103 => ?_) (fun c103 => ?_)
        · have c103 : v101.toInt = 0 := c103
          intro v104 e105
          refine And.intro ⟨by omega, by omega⟩ ?_
          intro s106 e107
          have i108 : Iv s106 := Iv.u2 i91 e107
          have k109 : Kp s0 s106 := Kx.u2 k92 e107 (vg_kq_pos (by omega)).1
          have u110 : vk s106 = ((vk s0).1, (vr_inc (vk s0).2 7)) := vk_k2o u93 e107 (by omega)
          intro v111 e112
          refine And.intro ⟨by omega, by omega⟩ ?_
          intro s113 e114
          have i115 : Iv s113 := Iv.u2 i108 e114
          have k116 : Kp s0 s113 := Kx.u2 k109 e114 (vg_kq_pos (by omega)).1
          have u117 : vk s113 = ((vk s0).1, (vr_inc (vk s0).2 7)) := vk_k2o u110 e114 (by omega)
          refine And.intro (Nat.le_of_ble_eq_true rfl) (And.intro ⟨55, (Int32.ofInt 3), w84, rfl, by decide, i115, by omega⟩ ?_)
          intro s119 h118
          have h118 : Iv s119 ∧ Kp s113 s119 ∧ vk s119 = ((vk s113).1, vr_inc (vk s113).2 (Int32.ofInt 3).toNatClampNeg) ∧ (True) := h118
          have i120 := h118.1
          have k121 : Kp s0 s119 := Kx.tr k116 (h118.2.1)
          have u122 : vk s119 = ((vk s0).1, (vr_inc (vr_inc (vk s0).2 7) (Int32.ofInt 3).toNatClampNeg)) := (by rw [h118.2.2.1, u117])
          refine And.intro (by first | exact Or.inl rfl | exact Or.inr rfl | exact vg_01 (by omega) (by omega)) ?_
          show Iv s119 ∧ Kp s0 s119 ∧ vk s119 = ((vk s0).1, vr_tk (s0.1 55 17) (vk s0).2) ∧ (((Int32.ofInt 1).toInt = 0 ∧ ¬ vr_rm (vr_inc (vk s0).2 7 7) (s0.1 55 17) = 0) ∨ ((Int32.ofInt 1).toInt = 1 ∧ vr_rm (vr_inc (vk s0).2 7 7) (s0.1 55 17) = 0))
          exact ⟨i120, k121, (by first | exact vk_rr u122 (vr_tk1 x89) | exact vk_rr u122 (vr_tk0 (by omega))), (by first | exact Or.inr ⟨by omega, x89⟩ | exact Or.inl ⟨by omega, by omega⟩)⟩
        · have c103 : ¬ (v101.toInt = 0) := c103
          intro v123 e124
          refine And.intro ⟨by omega, by omega⟩ ?_
          intro s125 e126
          have i127 : Iv s125 := Iv.u2 i91 e126
          have k128 : Kp s0 s125 := Kx.u2 k92 e126 (vg_kq_pos (by omega)).1
          have u129 : vk s125 = ((vk s0).1, (vr_inc (vk s0).2 7)) := vk_k2o u93 e126 (by omega)
          intro v130 e131
          refine And.intro ⟨by omega, by omega⟩ ?_
          intro s132 e133
          have i134 : Iv s132 := Iv.u2 i127 e133
          have k135 : Kp s0 s132 := Kx.u2 k128 e133 (vg_kq_pos (by omega)).1
          have u136 : vk s132 = ((vk s0).1, (vr_inc (vk s0).2 7)) := vk_k2o u129 e133 (by omega)
          refine And.intro (Nat.le_of_ble_eq_true rfl) (And.intro ⟨55, (Int32.ofInt 3), w84, rfl, by decide, i134, by omega⟩ ?_)
          intro s138 h137
          have h137 : Iv s138 ∧ Kp s132 s138 ∧ vk s138 = ((vk s132).1, vr_inc (vk s132).2 (Int32.ofInt 3).toNatClampNeg) ∧ (True) := h137
          have i139 := h137.1
          have k140 : Kp s0 s138 := Kx.tr k135 (h137.2.1)
          have u141 : vk s138 = ((vk s0).1, (vr_inc (vr_inc (vk s0).2 7) (Int32.ofInt 3).toNatClampNeg)) := (by rw [h137.2.2.1, u136])
          refine And.intro (by first | exact Or.inl rfl | exact Or.inr rfl | exact vg_01 (by omega) (by omega)) ?_
          show Iv s138 ∧ Kp s0 s138 ∧ vk s138 = ((vk s0).1, vr_tk (s0.1 55 17) (vk s0).2) ∧ (((Int32.ofInt 1).toInt = 0 ∧ ¬ vr_rm (vr_inc (vk s0).2 7 7) (s0.1 55 17) = 0) ∨ ((Int32.ofInt 1).toInt = 1 ∧ vr_rm (vr_inc (vk s0).2 7 7) (s0.1 55 17) = 0))
          exact ⟨i139, k140, (by first | exact vk_rr u141 (vr_tk1 x89) | exact vk_rr u141 (vr_tk0 (by omega))), (by first | exact Or.inr ⟨by omega, x89⟩ | exact Or.inl ⟨by omega, by omega⟩)⟩
      · have c98 : ¬ (v94.toInt ≤ w86.toInt) := c98
        intro v142 e143
        have b144 := vg_add e143 (by omega) (by omega)
        refine And.intro ⟨by omega, by omega⟩ ?_
        intro v145 e146
        intro v147 e148
        refine And.intro (Nat.le_of_ble_eq_true rfl) (And.intro ⟨55, v147, rfl, by decide, i91⟩ ?_)
        intro v149 s151 h150
        have h150 : s151 = s90 ∧ (True) := h150
        have q154 := h150.1.symm
        subst q154
        intro v155 e156
        have b157 := vg_add e156 (by omega) (by omega)
        refine And.intro ⟨by omega, by omega⟩ ?_
        intro s158 e159
        have i160 : Iv s158 := Iv.u2 i91 e159
        have k161 : Kp s0 s158 := Kx.u2 k92 e159 (vg_kq_pos (by omega)).1
        have u162 : vk s158 = ((vk s0).1, (vr_inc (vk s0).2 7)) := vk_k2o u93 e159 (by omega)
        intro v163 e164
        have b165 := vg_add e164 (by omega) (by omega)
        refine And.intro ⟨by omega, by omega⟩ ?_
        intro v166 e167
        intro v168 e169
        intro v170 e171
        have b172 := vg_add e171 (by omega) (by omega)
        refine And.intro ⟨by omega, by omega⟩ ?_
        intro s173 e174
        have i175 : Iv s173 := Iv.u2 i160 e174
        have k176 : Kp s0 s173 := Kx.u2 k161 e174 (vg_kq_pos (by omega)).1
        have u177 : vk s173 = ((vk s0).1, (vr_inc (vk s0).2 7)) := vk_k2o u162 e174 (by omega)
        intro v178 e179
        have b180 := vg_add e179 (by omega) (by omega)
        exact ⟨rfl, ⟨v149, v168, v178, rfl, (by omega), (by omega), (by first | exact x89 | omega), i175, k176, u177⟩, (by show (0 + (5 - v178.toInt) * 1000000000000).toNat < (0 + (5 - w86.toInt) * 1000000000000).toNat; omega)⟩
def o_X11_tapMany : List vg_I := [(0, .iload_n 1, 1, 0, 0, 0, 0), (1, .ifCond .ne 7, 3, 0, 0, 0, 0), (4, .iconst 3, 1, 0, 0, 0, 0), (5, .goto 15, 3, 0, 0, 0, 0), (8, .iload_n 1, 1, 0, 0, 0, 0), (9, .iconst 2, 1, 0, 0, 0, 0), (10, .if_icmp .ne 8, 3, 0, 0, 0, 0), (13, .bipush 11, 2, 0, 0, 0, 0), (15, .goto 5, 3, 0, 0, 0, 0), (18, .bipush 7, 2, 0, 0, 0, 0), (20, .ireturn, 1, 0, 0, 0, 0)]
set_option maxRecDepth 100000 in
set_option maxHeartbeats 4000000 in
theorem c_X11_tapMany (l : Launch) (G : vg_G) (hp : vg_Hp G) : vg_Ct l G vg_sh r_X11_tapMany := by
  refine vg_meth hp vg_sh_ok r_X11_tapMany k_X11_tapMany rfl (fun h => by cases h) o_X11_tapMany [] false (by decide +kernel) (by decide +kernel) ⟨_, _, rfl, rfl⟩ (fun _ h => absurd h List.not_mem_nil) (fun h => by cases h) 600 ?_
  intro as s0 hpre
  obtain ⟨r, a1, rfl, hr, i0⟩ := hpre
  simp only [List.mem_cons, List.not_mem_nil, or_false] at hr
  rcases hr with rfl
  ·
    have z2 : (Int32.ofInt 2).toInt = 2 := by decide
    have z3 : (Int32.ofInt 3).toInt = 3 := by decide
    have z7 : (Int32.ofInt 7).toInt = 7 := by decide
    have z11 : (Int32.ofInt 11).toInt = 11 := by decide
    refine ⟨Nat.le_of_ble_eq_true rfl, [], ?_, fun _ h => absurd h List.not_mem_nil⟩
    ·
      refine And.intro (fun c1 => ?_) (fun c1 => ?_)
      · have c1 : ¬ a1.toInt = 0 := c1
        refine And.intro (fun c2 => ?_) (fun c2 => ?_)
        · have c2 : ¬ a1.toInt = (Int32.ofInt 2).toInt := c2
          show s0 = s0 ∧ (((a1.toInt = 0 ∧ (Int32.ofInt 7).toInt = 3) ∨ (a1.toInt = 2 ∧ (Int32.ofInt 7).toInt = 11) ∨ (¬ a1.toInt = 0 ∧ ¬ a1.toInt = 2 ∧ (Int32.ofInt 7).toInt = 7)) ∧ (Int32.ofInt 7).toInt = (vg_tn a1 : Int))
          exact ⟨rfl, (by first | exact ⟨by omega, by rw [vg_tn_0 (by omega)]; omega⟩ | exact ⟨by omega, by rw [vg_tn_2 (by omega)]; omega⟩ | exact ⟨by omega, by rw [vg_tn_x (by omega) (by omega)]; omega⟩)⟩
        · have c2 : ¬ (¬ a1.toInt = (Int32.ofInt 2).toInt) := c2
          show s0 = s0 ∧ (((a1.toInt = 0 ∧ (Int32.ofInt 11).toInt = 3) ∨ (a1.toInt = 2 ∧ (Int32.ofInt 11).toInt = 11) ∨ (¬ a1.toInt = 0 ∧ ¬ a1.toInt = 2 ∧ (Int32.ofInt 11).toInt = 7)) ∧ (Int32.ofInt 11).toInt = (vg_tn a1 : Int))
          exact ⟨rfl, (by first | exact ⟨by omega, by rw [vg_tn_0 (by omega)]; omega⟩ | exact ⟨by omega, by rw [vg_tn_2 (by omega)]; omega⟩ | exact ⟨by omega, by rw [vg_tn_x (by omega) (by omega)]; omega⟩)⟩
      · have c1 : ¬ (¬ a1.toInt = 0) := c1
        show s0 = s0 ∧ (((a1.toInt = 0 ∧ (Int32.ofInt 3).toInt = 3) ∨ (a1.toInt = 2 ∧ (Int32.ofInt 3).toInt = 11) ∨ (¬ a1.toInt = 0 ∧ ¬ a1.toInt = 2 ∧ (Int32.ofInt 3).toInt = 7)) ∧ (Int32.ofInt 3).toInt = (vg_tn a1 : Int))
        exact ⟨rfl, (by first | exact ⟨by omega, by rw [vg_tn_0 (by omega)]; omega⟩ | exact ⟨by omega, by rw [vg_tn_2 (by omega)]; omega⟩ | exact ⟨by omega, by rw [vg_tn_x (by omega) (by omega)]; omega⟩)⟩
def o_X11_tapOf : List vg_I := [(0, .iload_n 2, 1, 0, 0, 0, 0), (1, .aload_n 0, 1, 0, 0, 0, 0), (2, .iload_n 1, 1, 0, 0, 0, 0), (3, .invokevirtual 195, 3, 0, 11, 1, 1361), (6, .iconst 1, 1, 0, 0, 0, 0), (7, .isub, 1, 0, 0, 0, 0), (8, .iload_n 2, 1, 0, 0, 0, 0), (9, .isub, 1, 0, 0, 0, 0), (10, .invokestatic 113, 3, 1, 1, 2, 1280), (13, .istore_n 3, 1, 0, 0, 0, 0), (14, .iload_n 1, 1, 0, 0, 0, 0), (15, .ifCond .ne 13, 3, 0, 0, 0, 0), (18, .iload_n 3, 1, 0, 0, 0, 0), (19, .ifCond .ne 7, 3, 0, 0, 0, 0), (22, .iconst 1, 1, 0, 0, 0, 0), (23, .goto 4, 3, 0, 0, 0, 0), (26, .iconst 2, 1, 0, 0, 0, 0), (27, .ireturn, 1, 0, 0, 0, 0), (28, .iload_n 1, 1, 0, 0, 0, 0), (29, .iconst 1, 1, 0, 0, 0, 0), (30, .if_icmp .ne 33, 3, 0, 0, 0, 0), (33, .iload_n 3, 1, 0, 0, 0, 0), (34, .ifCond .ne 7, 3, 0, 0, 0, 0), (37, .iconst (-1), 1, 0, 0, 0, 0), (38, .goto 24, 3, 0, 0, 0, 0), (41, .iload_n 3, 1, 0, 0, 0, 0), (42, .iconst 1, 1, 0, 0, 0, 0), (43, .if_icmp .ne 7, 3, 0, 0, 0, 0), (46, .iconst 0, 1, 0, 0, 0, 0), (47, .goto 15, 3, 0, 0, 0, 0), (50, .iload_n 3, 1, 0, 0, 0, 0), (51, .iconst 2, 1, 0, 0, 0, 0), (52, .if_icmp .ne 8, 3, 0, 0, 0, 0), (55, .bipush 9, 2, 0, 0, 0, 0), (57, .goto 5, 3, 0, 0, 0, 0), (60, .bipush 16, 2, 0, 0, 0, 0), (62, .ireturn, 1, 0, 0, 0, 0), (63, .iload_n 1, 1, 0, 0, 0, 0), (64, .iconst 2, 1, 0, 0, 0, 0), (65, .if_icmp .ne 45, 3, 0, 0, 0, 0), (68, .iload_n 3, 1, 0, 0, 0, 0), (69, .ifCond .ne 7, 3, 0, 0, 0, 0), (72, .iconst 3, 1, 0, 0, 0, 0), (73, .goto 36, 3, 0, 0, 0, 0), (76, .iload_n 3, 1, 0, 0, 0, 0), (77, .iconst 2, 1, 0, 0, 0, 0), (78, .if_icmp .ne 8, 3, 0, 0, 0, 0), (81, .bipush (-25), 2, 0, 0, 0, 0), (83, .goto 26, 3, 0, 0, 0, 0), (86, .iload_n 3, 1, 0, 0, 0, 0), (87, .iconst 4, 1, 0, 0, 0, 0), (88, .if_icmp .ne 9, 3, 0, 0, 0, 0), (91, .sipush 150, 3, 0, 0, 0, 0), (94, .goto 15, 3, 0, 0, 0, 0), (97, .iload_n 3, 1, 0, 0, 0, 0), (98, .iconst 5, 1, 0, 0, 0, 0), (99, .if_icmp .ne 9, 3, 0, 0, 0, 0), (102, .sipush 256, 3, 0, 0, 0, 0), (105, .goto 4, 3, 0, 0, 0, 0), (108, .iconst 0, 1, 0, 0, 0, 0), (109, .ireturn, 1, 0, 0, 0, 0), (110, .aload_n 0, 1, 0, 0, 0, 0), (111, .getfield 52, 3, 1086, 11, 25, 0), (114, .iload_n 3, 1, 0, 0, 0, 0), (115, .iaload, 1, 0, 0, 0, 0), (116, .ireturn, 1, 0, 0, 0, 0)]
set_option maxRecDepth 100000 in
set_option maxHeartbeats 4000000 in
theorem c_X11_tapOf (l : Launch) (G : vg_G) (hp : vg_Hp G) : vg_Ct l G vg_sh r_X11_tapOf := by
  refine vg_meth hp vg_sh_ok r_X11_tapOf k_X11_tapOf rfl (fun h => by cases h) o_X11_tapOf [r_X11_tapMany, r_J9_min_7cf53] false (by decide +kernel) (by decide +kernel) ⟨_, _, rfl, rfl⟩ (List.forall_mem_cons.mpr ⟨⟨c_X11_tapMany l G hp, Nat.le_of_ble_eq_true rfl, Nat.le_of_ble_eq_true rfl⟩, List.forall_mem_cons.mpr ⟨⟨c_J9_min_7cf53 l G hp, Nat.le_of_ble_eq_true rfl, Nat.le_of_ble_eq_true rfl⟩, fun _ h => absurd h List.not_mem_nil⟩⟩) (fun h => by cases h) 600 ?_
  intro as s0 hpre
  obtain ⟨r, a1, a2, rfl, hr, i0, p0⟩ := hpre
  simp only [List.mem_cons, List.not_mem_nil, or_false] at hr
  rcases hr with rfl
  ·
    have zm25 : (Int32.ofInt (-25)).toInt = -25 := by decide
    have zm1 : (Int32.ofInt (-1)).toInt = -1 := by decide
    have z0 : (Int32.ofInt 0).toInt = 0 := by decide
    have z1 : (Int32.ofInt 1).toInt = 1 := by decide
    have z2 : (Int32.ofInt 2).toInt = 2 := by decide
    have z3 : (Int32.ofInt 3).toInt = 3 := by decide
    have z4 : (Int32.ofInt 4).toInt = 4 := by decide
    have z5 : (Int32.ofInt 5).toInt = 5 := by decide
    have z9 : (Int32.ofInt 9).toInt = 9 := by decide
    have z16 : (Int32.ofInt 16).toInt = 16 := by decide
    have z150 : (Int32.ofInt 150).toInt = 150 := by decide
    have z256 : (Int32.ofInt 256).toInt = 256 := by decide
    refine ⟨Nat.le_of_ble_eq_true rfl, [], ?_, fun _ h => absurd h List.not_mem_nil⟩
    ·
      refine And.intro (Nat.le_of_ble_eq_true rfl) (And.intro ⟨55, a1, rfl, by decide, i0⟩ ?_)
      intro v1 s3 h2
      have h2 : s3 = s0 ∧ (((a1.toInt = 0 ∧ v1.toInt = 3) ∨ (a1.toInt = 2 ∧ v1.toInt = 11) ∨ (¬ a1.toInt = 0 ∧ ¬ a1.toInt = 2 ∧ v1.toInt = 7)) ∧ v1.toInt = (vg_tn a1 : Int)) := h2
      have q6 := h2.1.symm
      subst q6
      have q7 := h2.2
      intro v8 e9
      have b10 := vg_sub e9 (by omega) (by omega)
      intro v11 e12
      have b13 := vg_sub e12 (by omega) (by omega)
      refine And.intro (Nat.le_of_ble_eq_true rfl) (And.intro ⟨a2, v11, rfl, trivial⟩ ?_)
      intro v14 s16 h15
      have h15 : s16 = s0 ∧ (v14.toInt ≤ a2.toInt ∧ v14.toInt ≤ v11.toInt ∧ (v14.toInt = a2.toInt ∨ v14.toInt = v11.toInt)) := h15
      have q19 := h15.1.symm
      subst q19
      have q20 := h15.2
      refine And.intro (fun c21 => ?_) (fun c21 => ?_)
      · have c21 : ¬ a1.toInt = 0 := c21
        refine And.intro (fun c22 => ?_) (fun c22 => ?_)
        · have c22 : ¬ a1.toInt = (Int32.ofInt 1).toInt := c22
          refine And.intro (fun c23 => ?_) (fun c23 => ?_)
          · have c23 : ¬ a1.toInt = (Int32.ofInt 2).toInt := c23
            refine And.intro ⟨by omega, by omega⟩ ?_
            intro v24 e25
            show s0 = s0 ∧ (v24 = vg_tp (s0.1 61) a1 a2.toNatClampNeg)
            exact ⟨rfl, (by have hk : a2.toNatClampNeg = a2.toInt.toNat := rfl; have hi : v14.toNatClampNeg = v14.toInt.toNat := rfl; first | (rw [vg_tp_3 (by omega) (by omega) (by omega), e25]; exact congrArg _ (by omega)) | (rcases (show a2.toInt = 0 ∨ a2.toInt = 1 ∨ a2.toInt = 2 ∨ a2.toInt = 3 ∨ a2.toInt = 4 ∨ a2.toInt = 5 ∨ a2.toInt = 6 ∨ a2.toInt = 7 ∨ a2.toInt = 8 ∨ a2.toInt = 9 ∨ a2.toInt = 10 by omega) with h9 | h9 | h9 | h9 | h9 | h9 | h9 | h9 | h9 | h9 | h9 <;> first | (exfalso; omega) | (rw [hk, h9, vg_tp_0 (by omega)]; decide) | (rw [hk, h9, vg_tp_1 (by omega)]; decide) | (rw [hk, h9, vg_tp_2 (by omega)]; decide)))⟩
          · have c23 : ¬ (¬ a1.toInt = (Int32.ofInt 2).toInt) := c23
            refine And.intro (fun c26 => ?_) (fun c26 => ?_)
            · have c26 : ¬ v14.toInt = 0 := c26
              refine And.intro (fun c27 => ?_) (fun c27 => ?_)
              · have c27 : ¬ v14.toInt = (Int32.ofInt 2).toInt := c27
                refine And.intro (fun c28 => ?_) (fun c28 => ?_)
                · have c28 : ¬ v14.toInt = (Int32.ofInt 4).toInt := c28
                  refine And.intro (fun c29 => ?_) (fun c29 => ?_)
                  · have c29 : ¬ v14.toInt = (Int32.ofInt 5).toInt := c29
                    show s0 = s0 ∧ ((Int32.ofInt 0) = vg_tp (s0.1 61) a1 a2.toNatClampNeg)
                    exact ⟨rfl, (by have hk : a2.toNatClampNeg = a2.toInt.toNat := rfl; have hi : v14.toNatClampNeg = v14.toInt.toNat := rfl; first | (rw [vg_tp_3 (by omega) (by omega) (by omega), None]; exact congrArg _ (by omega)) | (rcases (show a2.toInt = 0 ∨ a2.toInt = 1 ∨ a2.toInt = 2 ∨ a2.toInt = 3 ∨ a2.toInt = 4 ∨ a2.toInt = 5 ∨ a2.toInt = 6 ∨ a2.toInt = 7 ∨ a2.toInt = 8 ∨ a2.toInt = 9 ∨ a2.toInt = 10 by omega) with h9 | h9 | h9 | h9 | h9 | h9 | h9 | h9 | h9 | h9 | h9 <;> first | (exfalso; omega) | (rw [hk, h9, vg_tp_0 (by omega)]; decide) | (rw [hk, h9, vg_tp_1 (by omega)]; decide) | (rw [hk, h9, vg_tp_2 (by omega)]; decide)))⟩
                  · have c29 : ¬ (¬ v14.toInt = (Int32.ofInt 5).toInt) := c29
                    show s0 = s0 ∧ ((Int32.ofInt 256) = vg_tp (s0.1 61) a1 a2.toNatClampNeg)
                    exact ⟨rfl, (by have hk : a2.toNatClampNeg = a2.toInt.toNat := rfl; have hi : v14.toNatClampNeg = v14.toInt.toNat := rfl; first | (rw [vg_tp_3 (by omega) (by omega) (by omega), None]; exact congrArg _ (by omega)) | (rcases (show a2.toInt = 0 ∨ a2.toInt = 1 ∨ a2.toInt = 2 ∨ a2.toInt = 3 ∨ a2.toInt = 4 ∨ a2.toInt = 5 ∨ a2.toInt = 6 ∨ a2.toInt = 7 ∨ a2.toInt = 8 ∨ a2.toInt = 9 ∨ a2.toInt = 10 by omega) with h9 | h9 | h9 | h9 | h9 | h9 | h9 | h9 | h9 | h9 | h9 <;> first | (exfalso; omega) | (rw [hk, h9, vg_tp_0 (by omega)]; decide) | (rw [hk, h9, vg_tp_1 (by omega)]; decide) | (rw [hk, h9, vg_tp_2 (by omega)]; decide)))⟩
                · have c28 : ¬ (¬ v14.toInt = (Int32.ofInt 4).toInt) := c28
                  show s0 = s0 ∧ ((Int32.ofInt 150) = vg_tp (s0.1 61) a1 a2.toNatClampNeg)
                  exact ⟨rfl, (by have hk : a2.toNatClampNeg = a2.toInt.toNat := rfl; have hi : v14.toNatClampNeg = v14.toInt.toNat := rfl; first | (rw [vg_tp_3 (by omega) (by omega) (by omega), None]; exact congrArg _ (by omega)) | (rcases (show a2.toInt = 0 ∨ a2.toInt = 1 ∨ a2.toInt = 2 ∨ a2.toInt = 3 ∨ a2.toInt = 4 ∨ a2.toInt = 5 ∨ a2.toInt = 6 ∨ a2.toInt = 7 ∨ a2.toInt = 8 ∨ a2.toInt = 9 ∨ a2.toInt = 10 by omega) with h9 | h9 | h9 | h9 | h9 | h9 | h9 | h9 | h9 | h9 | h9 <;> first | (exfalso; omega) | (rw [hk, h9, vg_tp_0 (by omega)]; decide) | (rw [hk, h9, vg_tp_1 (by omega)]; decide) | (rw [hk, h9, vg_tp_2 (by omega)]; decide)))⟩
              · have c27 : ¬ (¬ v14.toInt = (Int32.ofInt 2).toInt) := c27
                show s0 = s0 ∧ ((Int32.ofInt (-25)) = vg_tp (s0.1 61) a1 a2.toNatClampNeg)
                exact ⟨rfl, (by have hk : a2.toNatClampNeg = a2.toInt.toNat := rfl; have hi : v14.toNatClampNeg = v14.toInt.toNat := rfl; first | (rw [vg_tp_3 (by omega) (by omega) (by omega), None]; exact congrArg _ (by omega)) | (rcases (show a2.toInt = 0 ∨ a2.toInt = 1 ∨ a2.toInt = 2 ∨ a2.toInt = 3 ∨ a2.toInt = 4 ∨ a2.toInt = 5 ∨ a2.toInt = 6 ∨ a2.toInt = 7 ∨ a2.toInt = 8 ∨ a2.toInt = 9 ∨ a2.toInt = 10 by omega) with h9 | h9 | h9 | h9 | h9 | h9 | h9 | h9 | h9 | h9 | h9 <;> first | (exfalso; omega) | (rw [hk, h9, vg_tp_0 (by omega)]; decide) | (rw [hk, h9, vg_tp_1 (by omega)]; decide) | (rw [hk, h9, vg_tp_2 (by omega)]; decide)))⟩
            · have c26 : ¬ (¬ v14.toInt = 0) := c26
              show s0 = s0 ∧ ((Int32.ofInt 3) = vg_tp (s0.1 61) a1 a2.toNatClampNeg)
              exact ⟨rfl, (by have hk : a2.toNatClampNeg = a2.toInt.toNat := rfl; have hi : v14.toNatClampNeg = v14.toInt.toNat := rfl; first | (rw [vg_tp_3 (by omega) (by omega) (by omega), None]; exact congrArg _ (by omega)) | (rcases (show a2.toInt = 0 ∨ a2.toInt = 1 ∨ a2.toInt = 2 ∨ a2.toInt = 3 ∨ a2.toInt = 4 ∨ a2.toInt = 5 ∨ a2.toInt = 6 ∨ a2.toInt = 7 ∨ a2.toInt = 8 ∨ a2.toInt = 9 ∨ a2.toInt = 10 by omega) with h9 | h9 | h9 | h9 | h9 | h9 | h9 | h9 | h9 | h9 | h9 <;> first | (exfalso; omega) | (rw [hk, h9, vg_tp_0 (by omega)]; decide) | (rw [hk, h9, vg_tp_1 (by omega)]; decide) | (rw [hk, h9, vg_tp_2 (by omega)]; decide)))⟩
        · have c22 : ¬ (¬ a1.toInt = (Int32.ofInt 1).toInt) := c22
          refine And.intro (fun c30 => ?_) (fun c30 => ?_)
          · have c30 : ¬ v14.toInt = 0 := c30
            refine And.intro (fun c31 => ?_) (fun c31 => ?_)
            · have c31 : ¬ v14.toInt = (Int32.ofInt 1).toInt := c31
              refine And.intro (fun c32 => ?_) (fun c32 => ?_)
              · have c32 : ¬ v14.toInt = (Int32.ofInt 2).toInt := c32
                show s0 = s0 ∧ ((Int32.ofInt 16) = vg_tp (s0.1 61) a1 a2.toNatClampNeg)
                exact ⟨rfl, (by have hk : a2.toNatClampNeg = a2.toInt.toNat := rfl; have hi : v14.toNatClampNeg = v14.toInt.toNat := rfl; first | (rw [vg_tp_3 (by omega) (by omega) (by omega), None]; exact congrArg _ (by omega)) | (rcases (show a2.toInt = 0 ∨ a2.toInt = 1 ∨ a2.toInt = 2 ∨ a2.toInt = 3 ∨ a2.toInt = 4 ∨ a2.toInt = 5 ∨ a2.toInt = 6 ∨ a2.toInt = 7 ∨ a2.toInt = 8 ∨ a2.toInt = 9 ∨ a2.toInt = 10 by omega) with h9 | h9 | h9 | h9 | h9 | h9 | h9 | h9 | h9 | h9 | h9 <;> first | (exfalso; omega) | (rw [hk, h9, vg_tp_0 (by omega)]; decide) | (rw [hk, h9, vg_tp_1 (by omega)]; decide) | (rw [hk, h9, vg_tp_2 (by omega)]; decide)))⟩
              · have c32 : ¬ (¬ v14.toInt = (Int32.ofInt 2).toInt) := c32
                show s0 = s0 ∧ ((Int32.ofInt 9) = vg_tp (s0.1 61) a1 a2.toNatClampNeg)
                exact ⟨rfl, (by have hk : a2.toNatClampNeg = a2.toInt.toNat := rfl; have hi : v14.toNatClampNeg = v14.toInt.toNat := rfl; first | (rw [vg_tp_3 (by omega) (by omega) (by omega), None]; exact congrArg _ (by omega)) | (rcases (show a2.toInt = 0 ∨ a2.toInt = 1 ∨ a2.toInt = 2 ∨ a2.toInt = 3 ∨ a2.toInt = 4 ∨ a2.toInt = 5 ∨ a2.toInt = 6 ∨ a2.toInt = 7 ∨ a2.toInt = 8 ∨ a2.toInt = 9 ∨ a2.toInt = 10 by omega) with h9 | h9 | h9 | h9 | h9 | h9 | h9 | h9 | h9 | h9 | h9 <;> first | (exfalso; omega) | (rw [hk, h9, vg_tp_0 (by omega)]; decide) | (rw [hk, h9, vg_tp_1 (by omega)]; decide) | (rw [hk, h9, vg_tp_2 (by omega)]; decide)))⟩
            · have c31 : ¬ (¬ v14.toInt = (Int32.ofInt 1).toInt) := c31
              show s0 = s0 ∧ ((Int32.ofInt 0) = vg_tp (s0.1 61) a1 a2.toNatClampNeg)
              exact ⟨rfl, (by have hk : a2.toNatClampNeg = a2.toInt.toNat := rfl; have hi : v14.toNatClampNeg = v14.toInt.toNat := rfl; first | (rw [vg_tp_3 (by omega) (by omega) (by omega), None]; exact congrArg _ (by omega)) | (rcases (show a2.toInt = 0 ∨ a2.toInt = 1 ∨ a2.toInt = 2 ∨ a2.toInt = 3 ∨ a2.toInt = 4 ∨ a2.toInt = 5 ∨ a2.toInt = 6 ∨ a2.toInt = 7 ∨ a2.toInt = 8 ∨ a2.toInt = 9 ∨ a2.toInt = 10 by omega) with h9 | h9 | h9 | h9 | h9 | h9 | h9 | h9 | h9 | h9 | h9 <;> first | (exfalso; omega) | (rw [hk, h9, vg_tp_0 (by omega)]; decide) | (rw [hk, h9, vg_tp_1 (by omega)]; decide) | (rw [hk, h9, vg_tp_2 (by omega)]; decide)))⟩
          · have c30 : ¬ (¬ v14.toInt = 0) := c30
            show s0 = s0 ∧ ((Int32.ofInt (-1)) = vg_tp (s0.1 61) a1 a2.toNatClampNeg)
            exact ⟨rfl, (by have hk : a2.toNatClampNeg = a2.toInt.toNat := rfl; have hi : v14.toNatClampNeg = v14.toInt.toNat := rfl; first | (rw [vg_tp_3 (by omega) (by omega) (by omega), None]; exact congrArg _ (by omega)) | (rcases (show a2.toInt = 0 ∨ a2.toInt = 1 ∨ a2.toInt = 2 ∨ a2.toInt = 3 ∨ a2.toInt = 4 ∨ a2.toInt = 5 ∨ a2.toInt = 6 ∨ a2.toInt = 7 ∨ a2.toInt = 8 ∨ a2.toInt = 9 ∨ a2.toInt = 10 by omega) with h9 | h9 | h9 | h9 | h9 | h9 | h9 | h9 | h9 | h9 | h9 <;> first | (exfalso; omega) | (rw [hk, h9, vg_tp_0 (by omega)]; decide) | (rw [hk, h9, vg_tp_1 (by omega)]; decide) | (rw [hk, h9, vg_tp_2 (by omega)]; decide)))⟩
      · have c21 : ¬ (¬ a1.toInt = 0) := c21
        refine And.intro (fun c33 => ?_) (fun c33 => ?_)
        · have c33 : ¬ v14.toInt = 0 := c33
          show s0 = s0 ∧ ((Int32.ofInt 2) = vg_tp (s0.1 61) a1 a2.toNatClampNeg)
          exact ⟨rfl, (by have hk : a2.toNatClampNeg = a2.toInt.toNat := rfl; have hi : v14.toNatClampNeg = v14.toInt.toNat := rfl; first | (rw [vg_tp_3 (by omega) (by omega) (by omega), None]; exact congrArg _ (by omega)) | (rcases (show a2.toInt = 0 ∨ a2.toInt = 1 ∨ a2.toInt = 2 ∨ a2.toInt = 3 ∨ a2.toInt = 4 ∨ a2.toInt = 5 ∨ a2.toInt = 6 ∨ a2.toInt = 7 ∨ a2.toInt = 8 ∨ a2.toInt = 9 ∨ a2.toInt = 10 by omega) with h9 | h9 | h9 | h9 | h9 | h9 | h9 | h9 | h9 | h9 | h9 <;> first | (exfalso; omega) | (rw [hk, h9, vg_tp_0 (by omega)]; decide) | (rw [hk, h9, vg_tp_1 (by omega)]; decide) | (rw [hk, h9, vg_tp_2 (by omega)]; decide)))⟩
        · have c33 : ¬ (¬ v14.toInt = 0) := c33
          show s0 = s0 ∧ ((Int32.ofInt 1) = vg_tp (s0.1 61) a1 a2.toNatClampNeg)
          exact ⟨rfl, (by have hk : a2.toNatClampNeg = a2.toInt.toNat := rfl; have hi : v14.toNatClampNeg = v14.toInt.toNat := rfl; first | (rw [vg_tp_3 (by omega) (by omega) (by omega), None]; exact congrArg _ (by omega)) | (rcases (show a2.toInt = 0 ∨ a2.toInt = 1 ∨ a2.toInt = 2 ∨ a2.toInt = 3 ∨ a2.toInt = 4 ∨ a2.toInt = 5 ∨ a2.toInt = 6 ∨ a2.toInt = 7 ∨ a2.toInt = 8 ∨ a2.toInt = 9 ∨ a2.toInt = 10 by omega) with h9 | h9 | h9 | h9 | h9 | h9 | h9 | h9 | h9 | h9 | h9 <;> first | (exfalso; omega) | (rw [hk, h9, vg_tp_0 (by omega)]; decide) | (rw [hk, h9, vg_tp_1 (by omega)]; decide) | (rw [hk, h9, vg_tp_2 (by omega)]; decide)))⟩
def o_X11_shiftOf : List vg_I := [(0, .iload_n 1, 1, 0, 0, 0, 0), (1, .ifCond .ne 7, 3, 0, 0, 0, 0), (4, .iconst 2, 1, 0, 0, 0, 0), (5, .goto 26, 3, 0, 0, 0, 0), (8, .iload_n 1, 1, 0, 0, 0, 0), (9, .iconst 1, 1, 0, 0, 0, 0), (10, .if_icmp .ne 7, 3, 0, 0, 0, 0), (13, .iconst 5, 1, 0, 0, 0, 0), (14, .goto 17, 3, 0, 0, 0, 0), (17, .iload_n 1, 1, 0, 0, 0, 0), (18, .iconst 2, 1, 0, 0, 0, 0), (19, .if_icmp .ne 8, 3, 0, 0, 0, 0), (22, .bipush 9, 2, 0, 0, 0, 0), (24, .goto 7, 3, 0, 0, 0, 0), (27, .aload_n 0, 1, 0, 0, 0, 0), (28, .getfield 198, 3, 1082, 11, 21, 0), (31, .ireturn, 1, 0, 0, 0, 0)]
set_option maxRecDepth 100000 in
set_option maxHeartbeats 4000000 in
theorem c_X11_shiftOf (l : Launch) (G : vg_G) (hp : vg_Hp G) : vg_Ct l G vg_sh r_X11_shiftOf := by
  refine vg_meth hp vg_sh_ok r_X11_shiftOf k_X11_shiftOf rfl (fun h => by cases h) o_X11_shiftOf [] false (by decide +kernel) (by decide +kernel) ⟨_, _, rfl, rfl⟩ (fun _ h => absurd h List.not_mem_nil) (fun h => by cases h) 600 ?_
  intro as s0 hpre
  obtain ⟨r, a1, rfl, hr, i0⟩ := hpre
  simp only [List.mem_cons, List.not_mem_nil, or_false] at hr
  rcases hr with rfl
  ·
    have z1 : (Int32.ofInt 1).toInt = 1 := by decide
    have z2 : (Int32.ofInt 2).toInt = 2 := by decide
    have z5 : (Int32.ofInt 5).toInt = 5 := by decide
    have z9 : (Int32.ofInt 9).toInt = 9 := by decide
    refine ⟨Nat.le_of_ble_eq_true rfl, [], ?_, fun _ h => absurd h List.not_mem_nil⟩
    ·
      refine And.intro (fun c1 => ?_) (fun c1 => ?_)
      · have c1 : ¬ a1.toInt = 0 := c1
        refine And.intro (fun c2 => ?_) (fun c2 => ?_)
        · have c2 : ¬ a1.toInt = (Int32.ofInt 1).toInt := c2
          refine And.intro (fun c3 => ?_) (fun c3 => ?_)
          · have c3 : ¬ a1.toInt = (Int32.ofInt 2).toInt := c3
            intro v4 e5
            have g6 : s0.1 55 21 = v4 := by rw [e5]
            have b7 : v4.toInt = (s0.1 55 21).toInt := congrArg Int32.toInt e5
            show s0 = s0 ∧ ((a1.toInt = 0 ∧ v4.toInt = 2) ∨ (a1.toInt = 1 ∧ v4.toInt = 5) ∨ (a1.toInt = 2 ∧ v4.toInt = 9) ∨ (¬ a1.toInt = 0 ∧ ¬ a1.toInt = 1 ∧ ¬ a1.toInt = 2 ∧ v4.toInt = (s0.1 55 21).toInt))
            exact ⟨rfl, (by first | trivial | omega | assumption)⟩
          · have c3 : ¬ (¬ a1.toInt = (Int32.ofInt 2).toInt) := c3
            show s0 = s0 ∧ ((a1.toInt = 0 ∧ (Int32.ofInt 9).toInt = 2) ∨ (a1.toInt = 1 ∧ (Int32.ofInt 9).toInt = 5) ∨ (a1.toInt = 2 ∧ (Int32.ofInt 9).toInt = 9) ∨ (¬ a1.toInt = 0 ∧ ¬ a1.toInt = 1 ∧ ¬ a1.toInt = 2 ∧ (Int32.ofInt 9).toInt = (s0.1 55 21).toInt))
            exact ⟨rfl, (by first | trivial | omega | assumption)⟩
        · have c2 : ¬ (¬ a1.toInt = (Int32.ofInt 1).toInt) := c2
          show s0 = s0 ∧ ((a1.toInt = 0 ∧ (Int32.ofInt 5).toInt = 2) ∨ (a1.toInt = 1 ∧ (Int32.ofInt 5).toInt = 5) ∨ (a1.toInt = 2 ∧ (Int32.ofInt 5).toInt = 9) ∨ (¬ a1.toInt = 0 ∧ ¬ a1.toInt = 1 ∧ ¬ a1.toInt = 2 ∧ (Int32.ofInt 5).toInt = (s0.1 55 21).toInt))
          exact ⟨rfl, (by first | trivial | omega | assumption)⟩
      · have c1 : ¬ (¬ a1.toInt = 0) := c1
        show s0 = s0 ∧ ((a1.toInt = 0 ∧ (Int32.ofInt 2).toInt = 2) ∨ (a1.toInt = 1 ∧ (Int32.ofInt 2).toInt = 5) ∨ (a1.toInt = 2 ∧ (Int32.ofInt 2).toInt = 9) ∨ (¬ a1.toInt = 0 ∧ ¬ a1.toInt = 1 ∧ ¬ a1.toInt = 2 ∧ (Int32.ofInt 2).toInt = (s0.1 55 21).toInt))
        exact ⟨rfl, (by first | trivial | omega | assumption)⟩
def o_X11_folds : List vg_I := [(0, .bipush 111, 2, 0, 0, 0, 0), (2, .bipush 11, 2, 0, 0, 0, 0), (4, .iload_n 1, 1, 0, 0, 0, 0), (5, .imul, 1, 0, 0, 0, 0), (6, .iadd, 1, 0, 0, 0, 0), (7, .istore 4, 2, 0, 0, 0, 0), (9, .bipush 10, 2, 0, 0, 0, 0), (11, .istore 5, 2, 0, 0, 0, 0), (13, .iload 5, 2, 0, 0, 0, 0), (15, .ifCond .le 31, 3, 0, 0, 0, 0), (18, .aload_n 0, 1, 0, 0, 0, 0), (19, .getfield 7, 3, 1061, 11, 0, 0), (22, .iload 4, 2, 0, 0, 0, 0), (24, .iload 5, 2, 0, 0, 0, 0), (26, .iadd, 1, 0, 0, 0, 0), (27, .aload_n 0, 1, 0, 0, 0, 0), (28, .getfield 7, 3, 1061, 11, 0, 0), (31, .iload 4, 2, 0, 0, 0, 0), (33, .iload 5, 2, 0, 0, 0, 0), (35, .iadd, 1, 0, 0, 0, 0), (36, .iconst 1, 1, 0, 0, 0, 0), (37, .isub, 1, 0, 0, 0, 0), (38, .laload, 1, 0, 0, 0, 0), (39, .lastore, 1, 0, 0, 0, 0), (40, .iinc 5 (-1), 3, 0, 0, 0, 0), (43, .goto (-30), 3, 0, 0, 0, 0), (46, .aload_n 0, 1, 0, 0, 0, 0), (47, .getfield 7, 3, 1061, 11, 0, 0), (50, .iload 4, 2, 0, 0, 0, 0), (52, .lload_n 2, 1, 0, 0, 0, 0), (53, .lastore, 1, 0, 0, 0, 0), (54, .aload_n 0, 1, 0, 0, 0, 0), (55, .getfield 7, 3, 1061, 11, 0, 0), (58, .bipush 108, 2, 0, 0, 0, 0), (60, .iload_n 1, 1, 0, 0, 0, 0), (61, .iadd, 1, 0, 0, 0, 0), (62, .dup2, 1, 0, 0, 0, 0), (63, .laload, 1, 0, 0, 0, 0), (64, .lconst 1, 1, 0, 0, 0, 0), (65, .ladd, 1, 0, 0, 0, 0), (66, .lastore, 1, 0, 0, 0, 0), (67, .aload_n 0, 1, 0, 0, 0, 0), (68, .getfield 7, 3, 1061, 11, 0, 0), (71, .bipush 108, 2, 0, 0, 0, 0), (73, .iload_n 1, 1, 0, 0, 0, 0), (74, .iadd, 1, 0, 0, 0, 0), (75, .laload, 1, 0, 0, 0, 0), (76, .ldc2_w 167, 3, 1336, 0, 0, 2), (79, .lrem, 1, 0, 0, 0, 0), (80, .lconst 1, 1, 0, 0, 0, 0), (81, .lcmp, 1, 0, 0, 0, 0), (82, .ifCond .ne 5, 3, 0, 0, 0, 0), (85, .iconst 0, 1, 0, 0, 0, 0), (86, .ireturn, 1, 0, 0, 0, 1), (87, .lconst 0, 1, 0, 0, 0, 0), (88, .lstore 5, 2, 0, 0, 0, 0), (90, .iconst 0, 1, 0, 0, 0, 0), (91, .istore 7, 2, 0, 0, 0, 0), (93, .iload 7, 2, 0, 0, 0, 0), (95, .aload_n 0, 1, 0, 0, 0, 0), (96, .aload_n 0, 1, 0, 0, 0, 0), (97, .getfield 49, 3, 1085, 11, 24, 0), (100, .iload_n 1, 1, 0, 0, 0, 0), (101, .iaload, 1, 0, 0, 0, 0), (102, .invokevirtual 195, 3, 0, 11, 1, 1361), (105, .if_icmp .ge 38, 3, 0, 0, 0, 0), (108, .lload 5, 2, 0, 0, 0, 0), (110, .aload_n 0, 1, 0, 0, 0, 0), (111, .aload_n 0, 1, 0, 0, 0, 0), (112, .getfield 49, 3, 1085, 11, 24, 0), (115, .iload_n 1, 1, 0, 0, 0, 0), (116, .iaload, 1, 0, 0, 0, 0), (117, .iload 7, 2, 0, 0, 0, 0), (119, .invokevirtual 201, 3, 1, 11, 2, 1365), (122, .i2l, 1, 0, 0, 0, 0), (123, .aload_n 0, 1, 0, 0, 0, 0), (124, .getfield 7, 3, 1061, 11, 0, 0), (127, .iload 4, 2, 0, 0, 0, 0), (129, .iload 7, 2, 0, 0, 0, 0), (131, .iadd, 1, 0, 0, 0, 0), (132, .laload, 1, 0, 0, 0, 0), (133, .lmul, 1, 0, 0, 0, 0), (134, .ladd, 1, 0, 0, 0, 0), (135, .lstore 5, 2, 0, 0, 0, 0), (137, .iinc 7 1, 3, 0, 0, 0, 0), (140, .goto (-47), 3, 0, 0, 0, 0), (143, .aload_n 0, 1, 0, 0, 0, 0), (144, .iconst 4, 1, 0, 0, 0, 0), (145, .iload_n 1, 1, 0, 0, 0, 0), (146, .iadd, 1, 0, 0, 0, 0), (147, .lload 5, 2, 0, 0, 0, 0), (149, .aload_n 0, 1, 0, 0, 0, 0), (150, .aload_n 0, 1, 0, 0, 0, 0), (151, .getfield 49, 3, 1085, 11, 24, 0), (154, .iload_n 1, 1, 0, 0, 0, 0), (155, .iaload, 1, 0, 0, 0, 0), (156, .invokevirtual 204, 3, 2, 11, 1, 1369), (159, .lshr, 1, 0, 0, 0, 0), (160, .l2i, 1, 0, 0, 0, 0), (161, .i2l, 1, 0, 0, 0, 0), (162, .invokevirtual 191, 3, 3, 11, 2, 1281), (165, .iconst 1, 1, 0, 0, 0, 0), (166, .ireturn, 1, 0, 0, 0, 1)]
set_option maxRecDepth 100000 in
set_option maxHeartbeats 4000000 in
theorem c_X11_folds (l : Launch) (G : vg_G) (hp : vg_Hp G) : vg_Ct l G vg_sh r_X11_folds := by
  refine vg_meth hp vg_sh_ok r_X11_folds k_X11_folds rfl (fun h => by cases h) o_X11_folds [r_X11_tapMany, r_X11_tapOf, r_X11_shiftOf, r_X11_tells] false (by decide +kernel) (by decide +kernel) ⟨_, _, rfl, rfl⟩ (List.forall_mem_cons.mpr ⟨⟨c_X11_tapMany l G hp, Nat.le_of_ble_eq_true rfl, Nat.le_of_ble_eq_true rfl⟩, List.forall_mem_cons.mpr ⟨⟨c_X11_tapOf l G hp, Nat.le_of_ble_eq_true rfl, Nat.le_of_ble_eq_true rfl⟩, List.forall_mem_cons.mpr ⟨⟨c_X11_shiftOf l G hp, Nat.le_of_ble_eq_true rfl, Nat.le_of_ble_eq_true rfl⟩, List.forall_mem_cons.mpr ⟨⟨c_X11_tells l G hp, Nat.le_of_ble_eq_true rfl, Nat.le_of_ble_eq_true rfl⟩, fun _ h => absurd h List.not_mem_nil⟩⟩⟩⟩) (fun h => by cases h) 600 ?_
  intro as s0 hpre
  obtain ⟨r, a1, a2, rfl, hr, i0, p0⟩ := hpre
  have hn1 : a1.toNatClampNeg = a1.toInt.toNat := rfl
  simp only [List.mem_cons, List.not_mem_nil, or_false] at hr
  rcases hr with rfl
  ·
    have zm1 : (Int32.ofInt (-1)).toInt = -1 := by decide
    have z0 : (Int32.ofInt 0).toInt = 0 := by decide
    have z1 : (Int32.ofInt 1).toInt = 1 := by decide
    have z4 : (Int32.ofInt 4).toInt = 4 := by decide
    have z10 : (Int32.ofInt 10).toInt = 10 := by decide
    have z11 : (Int32.ofInt 11).toInt = 11 := by decide
    have z108 : (Int32.ofInt 108).toInt = 108 := by decide
    have z111 : (Int32.ofInt 111).toInt = 111 := by decide
    refine ⟨Nat.le_of_ble_eq_true rfl, [(13, [true, true, true, false, true, true, false, false], (fun L t => ∃ (x4 : Int32) (x5 : Int32), L = [some (.ref 55), some (.int a1), some (.long a2), none, some (.int x4), some (.int x5), none, none] ∧ (111 : Int) ≤ x4.toInt ∧ x4.toInt ≤ (133 : Int) ∧ (0 : Int) ≤ x5.toInt ∧ x5.toInt ≤ (10 : Int) ∧ Iv t ∧ Kp s0 t ∧ vk t = ((vk s0).1, (vk s0).2)), (fun L _ => (10000000000000000 + ((vg_li L 5).toInt - (0)) * 1000000000000).toNat)), (93, [true, true, false, false, true, true, false, true], (fun L t => ∃ (x4 : Int32) (x5 : Int64) (x7 : Int32), L = [some (.ref 55), some (.int a1), none, none, some (.int x4), some (.long x5), none, some (.int x7)] ∧ (111 : Int) ≤ x4.toInt ∧ x4.toInt ≤ (133 : Int) ∧ (0 : Int) ≤ x7.toInt ∧ x7.toInt ≤ (11 : Int) ∧ (¬ vr_od (vr_inc (vk s0).2 (8 + a1.toNatClampNeg) (8 + a1.toNatClampNeg)) = 0) ∧ Iv t ∧ Kp s0 t ∧ vk t = ((vk s0).1, vr_inc (vk s0).2 (8 + a1.toNatClampNeg))), (fun L _ => (0 + (11 - (vg_li L 7).toInt) * 1000000000000).toNat))], ?_, List.forall_mem_cons.mpr ⟨?_, List.forall_mem_cons.mpr ⟨?_, fun _ h => absurd h List.not_mem_nil⟩⟩⟩
    ·
      intro v1 e2
      have b3 : v1.toInt = (11) * a1.toInt := vg_mulL e2 (by omega) (by omega) (by omega)
      intro v4 e5
      have b6 := vg_add e5 (by omega) (by omega)
      exact ⟨rfl, ⟨v4, (Int32.ofInt 10), rfl, (by omega), (by omega), (by omega), (by omega), i0, Kx.rf, rfl⟩, trivial⟩
    ·
      intro L s13 hL
      obtain ⟨w7, w10, rfl, b8, b9, b11, b12, i14, k15, u16⟩ := hL
      refine And.intro (fun c17 => ?_) (fun c17 => ?_)
      · have c17 : w10.toInt ≤ 0 := c17
        refine And.intro ⟨by omega, by omega⟩ ?_
        intro s18 e19
        have i20 : Iv s18 := Iv.u2 i14 e19
        have k21 : Kp s0 s18 := Kx.u2 k15 e19 (vg_kq_pos (by omega)).1
        have u22 : vk s18 = ((vk s0).1, (vk s0).2) := vk_k2o u16 e19 (by omega)
        intro v23 e24
        have b25 := vg_add e24 (by omega) (by omega)
        refine And.intro ⟨by omega, by omega⟩ ?_
        intro v26 e27
        intro v28 e29
        refine And.intro ⟨by omega, by omega⟩ ?_
        intro s30 e31
        have i32 : Iv s30 := Iv.u2 i20 e31
        have k33 : Kp s0 s30 := Kx.u2 k21 e31 (vg_kq_pos (by omega)).1
        have u34 : vk s30 = ((vk s0).1, (vr_inc (vk s0).2 (8 + a1.toNatClampNeg))) := vk_k2i (q := (8 + a1.toNatClampNeg)) u22 e27 e29 e31 (by omega) (by omega)
        intro v35 e36
        have b37 := vg_add e36 (by omega) (by omega)
        refine And.intro ⟨by omega, by omega⟩ ?_
        intro v38 e39
        have y1 := vk_ar (q := 8 + a1.toNatClampNeg) u34 e39 (by omega)
        refine And.intro (by decide) ?_
        intro v40 e41
        intro v42 e43
        have y2 : v42.toInt = vr_od (vr_inc (vk s0).2 (8 + a1.toNatClampNeg) (8 + a1.toNatClampNeg)) := vr_odk y1 e41 e43
        refine And.intro (fun c44 => ?_) (fun c44 => ?_)
        · have c44 : ¬ v42.toInt = 0 := c44
          exact ⟨rfl, ⟨w7, (Int64.ofNat 0), (Int32.ofInt 0), rfl, (by omega), (by omega), (by omega), (by omega), (by first | exact None | omega), i32, k33, u34⟩, (by show (0 + (11 - (Int32.ofInt 0).toInt) * 1000000000000).toNat < (10000000000000000 + (w10.toInt - (0)) * 1000000000000).toNat; omega)⟩
        · have c44 : ¬ (¬ v42.toInt = 0) := c44
          refine And.intro (by first | exact Or.inl rfl | exact Or.inr rfl | exact vg_01 (by omega) (by omega)) ?_
          show Iv s30 ∧ Kp s0 s30 ∧ vk s30 = ((vk s0).1, vr_fd a1.toNatClampNeg (vk s0).2) ∧ (((Int32.ofInt 0).toInt = 0 ∧ vr_od (vr_inc (vk s0).2 (8 + a1.toNatClampNeg) (8 + a1.toNatClampNeg)) = 0) ∨ ((Int32.ofInt 0).toInt = 1 ∧ ¬ vr_od (vr_inc (vk s0).2 (8 + a1.toNatClampNeg) (8 + a1.toNatClampNeg)) = 0))
          exact ⟨i32, k33, (by first | exact vk_rr u34 (by rw [y4]; exact vr_fd1 None) | exact vk_rr u34 (vr_fd0 (by omega))), (by first | exact Or.inr ⟨by omega, None⟩ | exact Or.inl ⟨by omega, by omega⟩)⟩
      · have c17 : ¬ (w10.toInt ≤ 0) := c17
        intro v45 e46
        have b47 := vg_add e46 (by omega) (by omega)
        intro v48 e49
        have b50 := vg_add e49 (by omega) (by omega)
        intro v51 e52
        have b53 := vg_sub e52 (by omega) (by omega)
        refine And.intro ⟨by omega, by omega⟩ ?_
        intro v54 e55
        refine And.intro ⟨by omega, by omega⟩ ?_
        intro s56 e57
        have i58 : Iv s56 := Iv.u2 i14 e57
        have k59 : Kp s0 s56 := Kx.u2 k15 e57 (vg_kq_pos (by omega)).1
        have u60 : vk s56 = ((vk s0).1, (vk s0).2) := vk_k2o u16 e57 (by omega)
        intro v61 e62
        have b63 := vg_add e62 (by omega) (by omega)
        exact ⟨rfl, ⟨w7, v61, rfl, (by omega), (by omega), (by omega), (by omega), i58, k59, u60⟩, (by show (10000000000000000 + (v61.toInt - (0)) * 1000000000000).toNat < (10000000000000000 + (w10.toInt - (0)) * 1000000000000).toNat; omega)⟩
    ·
      intro L s72 hL
      obtain ⟨w64, w67, w68, rfl, b65, b66, b69, b70, x71, i73, k74, u75⟩ := hL
      refine And.intro ⟨by omega, by omega⟩ ?_
      intro v76 e77
      refine And.intro (Nat.le_of_ble_eq_true rfl) (And.intro ⟨55, v76, rfl, by decide, i73⟩ ?_)
      intro v78 s80 h79
      have h79 : s80 = s72 ∧ (((v76.toInt = 0 ∧ v78.toInt = 3) ∨ (v76.toInt = 2 ∧ v78.toInt = 11) ∨ (¬ v76.toInt = 0 ∧ ¬ v76.toInt = 2 ∧ v78.toInt = 7)) ∧ v78.toInt = (vg_tn v76 : Int)) := h79
      have q83 := h79.1.symm
      subst q83
      have q84 := h79.2
      refine And.intro (fun c85 => ?_) (fun c85 => ?_)
      · have c85 : v78.toInt ≤ w68.toInt := c85
        intro v86 e87
        have b88 := vg_add e87 (by omega) (by omega)
        refine And.intro ⟨by omega, by omega⟩ ?_
        intro v89 e90
        have w91 : v76 = v89 := by rw [e90, e77]
        subst w91
        refine And.intro (Nat.le_of_ble_eq_true rfl) (And.intro ⟨55, v76, rfl, by decide, i73⟩ ?_)
        intro v92 s94 h93
        have h93 : s94 = s72 ∧ ((v76.toInt = 0 ∧ v92.toInt = 2) ∨ (v76.toInt = 1 ∧ v92.toInt = 5) ∨ (v76.toInt = 2 ∧ v92.toInt = 9) ∨ (¬ v76.toInt = 0 ∧ ¬ v76.toInt = 1 ∧ ¬ v76.toInt = 2 ∧ v92.toInt = (s72.1 55 21).toInt)) := h93
        have q97 := h93.1.symm
        subst q97
        have q98 := h93.2
        intro v99 e100
        intro v101 e102
        intro v103 e104
        have y4 : v86.toNatClampNeg = 4 + a1.toNatClampNeg := by (have h9 : v86.toNatClampNeg = v86.toInt.toNat := rfl); omega
        refine And.intro (Nat.le_of_ble_eq_true rfl) (And.intro ⟨55, v86, v103, rfl, by decide, i73, by omega⟩ ?_)
        intro s106 h105
        have h105 : Iv s106 ∧ Kp s72 s106 ∧ vk s106 = ((vk s72).1, vr_inc (vk s72).2 v86.toNatClampNeg) ∧ (True) := h105
        have i107 := h105.1
        have k108 : Kp s0 s106 := Kx.tr k74 (h105.2.1)
        have u109 : vk s106 = ((vk s0).1, (vr_inc (vr_inc (vk s0).2 (8 + a1.toNatClampNeg)) v86.toNatClampNeg)) := (by rw [h105.2.2.1, u75])
        refine And.intro (by first | exact Or.inl rfl | exact Or.inr rfl | exact vg_01 (by omega) (by omega)) ?_
        show Iv s106 ∧ Kp s0 s106 ∧ vk s106 = ((vk s0).1, vr_fd a1.toNatClampNeg (vk s0).2) ∧ (((Int32.ofInt 1).toInt = 0 ∧ vr_od (vr_inc (vk s0).2 (8 + a1.toNatClampNeg) (8 + a1.toNatClampNeg)) = 0) ∨ ((Int32.ofInt 1).toInt = 1 ∧ ¬ vr_od (vr_inc (vk s0).2 (8 + a1.toNatClampNeg) (8 + a1.toNatClampNeg)) = 0))
        exact ⟨i107, k108, (by first | exact vk_rr u109 (by rw [y4]; exact vr_fd1 x71) | exact vk_rr u109 (vr_fd0 (by omega))), (by first | exact Or.inr ⟨by omega, x71⟩ | exact Or.inl ⟨by omega, by omega⟩)⟩
      · have c85 : ¬ (v78.toInt ≤ w68.toInt) := c85
        refine And.intro ⟨by omega, by omega⟩ ?_
        intro v110 e111
        have w112 : v76 = v110 := by rw [e111, e77]
        subst w112
        refine And.intro (Nat.le_of_ble_eq_true rfl) (And.intro ⟨55, v76, w68, rfl, by decide, i73, by omega⟩ ?_)
        intro v113 s115 h114
        have h114 : s115 = s72 ∧ (v113 = vg_tp (s72.1 61) v76 w68.toNatClampNeg) := h114
        have q118 := h114.1.symm
        subst q118
        have q119 := h114.2
        intro v120 e121
        intro v122 e123
        have b124 := vg_add e123 (by omega) (by omega)
        refine And.intro ⟨by omega, by omega⟩ ?_
        intro v125 e126
        intro v127 e128
        intro v129 e130
        intro v131 e132
        have b133 := vg_add e132 (by omega) (by omega)
        exact ⟨rfl, ⟨w64, v129, v131, rfl, (by omega), (by omega), (by omega), (by omega), (by first | exact x71 | omega), i73, k74, u75⟩, (by show (0 + (11 - v131.toInt) * 1000000000000).toNat < (0 + (11 - w68.toInt) * 1000000000000).toNat; omega)⟩
def o_X11_goes : List vg_I := [(0, .aload_n 0, 1, 0, 0, 0, 0), (1, .aload_n 0, 1, 0, 0, 0, 0), (2, .iconst 0, 1, 0, 0, 0, 0), (3, .invokevirtual 110, 3, 0, 11, 1, 1202), (6, .invokevirtual 207, 3, 1, 11, 1, 1276), (9, .istore_n 1, 1, 0, 0, 0, 0), (10, .aload_n 0, 1, 0, 0, 0, 0), (11, .getfield 7, 3, 1061, 11, 0, 0), (14, .iconst 0, 1, 0, 0, 0, 0), (15, .dup2, 1, 0, 0, 0, 0), (16, .laload, 1, 0, 0, 0, 0), (17, .lconst 1, 1, 0, 0, 0, 0), (18, .ladd, 1, 0, 0, 0, 0), (19, .lastore, 1, 0, 0, 0, 0), (20, .aload_n 0, 1, 0, 0, 0, 0), (21, .iconst 0, 1, 0, 0, 0, 0), (22, .iload_n 1, 1, 0, 0, 0, 0), (23, .i2l, 1, 0, 0, 0, 0), (24, .invokevirtual 191, 3, 2, 11, 2, 1281), (27, .aload_n 0, 1, 0, 0, 0, 0), (28, .iload_n 1, 1, 0, 0, 0, 0), (29, .aload_n 0, 1, 0, 0, 0, 0), (30, .invokevirtual 210, 3, 3, 11, 0, 1285), (33, .invokevirtual 213, 3, 4, 11, 2, 1293), (36, .istore_n 2, 1, 0, 0, 0, 0), (37, .aload_n 0, 1, 0, 0, 0, 0), (38, .iconst 1, 1, 0, 0, 0, 0), (39, .iload_n 2, 1, 0, 0, 0, 0), (40, .i2l, 1, 0, 0, 0, 0), (41, .invokevirtual 191, 3, 2, 11, 2, 1281), (44, .aload_n 0, 1, 0, 0, 0, 0), (45, .getfield 7, 3, 1061, 11, 0, 0), (48, .iconst 4, 1, 0, 0, 0, 0), (49, .dup2, 1, 0, 0, 0, 0), (50, .laload, 1, 0, 0, 0, 0), (51, .aload_n 0, 1, 0, 0, 0, 0), (52, .getfield 7, 3, 1061, 11, 0, 0), (55, .sipush 144, 3, 0, 0, 0, 0), (58, .laload, 1, 0, 0, 0, 0), (59, .ladd, 1, 0, 0, 0, 0), (60, .lastore, 1, 0, 0, 0, 0), (61, .aload_n 0, 1, 0, 0, 0, 0), (62, .getfield 7, 3, 1061, 11, 0, 0), (65, .bipush 6, 2, 0, 0, 0, 0), (67, .dup2, 1, 0, 0, 0, 0), (68, .laload, 1, 0, 0, 0, 0), (69, .iload_n 1, 1, 0, 0, 0, 0), (70, .i2l, 1, 0, 0, 0, 0), (71, .ladd, 1, 0, 0, 0, 0), (72, .lastore, 1, 0, 0, 0, 0), (73, .aload_n 0, 1, 0, 0, 0, 0), (74, .getfield 7, 3, 1061, 11, 0, 0), (77, .bipush 7, 2, 0, 0, 0, 0), (79, .dup2, 1, 0, 0, 0, 0), (80, .laload, 1, 0, 0, 0, 0), (81, .aload_n 0, 1, 0, 0, 0, 0), (82, .getfield 7, 3, 1061, 11, 0, 0), (85, .iconst 2, 1, 0, 0, 0, 0), (86, .laload, 1, 0, 0, 0, 0), (87, .ladd, 1, 0, 0, 0, 0), (88, .lastore, 1, 0, 0, 0, 0), (89, .aload_n 0, 1, 0, 0, 0, 0), (90, .getfield 7, 3, 1061, 11, 0, 0), (93, .bipush 8, 2, 0, 0, 0, 0), (95, .dup2, 1, 0, 0, 0, 0), (96, .laload, 1, 0, 0, 0, 0), (97, .iload_n 2, 1, 0, 0, 0, 0), (98, .i2l, 1, 0, 0, 0, 0), (99, .ladd, 1, 0, 0, 0, 0), (100, .lastore, 1, 0, 0, 0, 0), (101, .aload_n 0, 1, 0, 0, 0, 0), (102, .getfield 7, 3, 1061, 11, 0, 0), (105, .bipush 9, 2, 0, 0, 0, 0), (107, .aload_n 0, 1, 0, 0, 0, 0), (108, .getfield 7, 3, 1061, 11, 0, 0), (111, .bipush 9, 2, 0, 0, 0, 0), (113, .laload, 1, 0, 0, 0, 0), (114, .aload_n 0, 1, 0, 0, 0, 0), (115, .getfield 7, 3, 1061, 11, 0, 0), (118, .bipush 7, 2, 0, 0, 0, 0), (120, .laload, 1, 0, 0, 0, 0), (121, .aload_n 0, 1, 0, 0, 0, 0), (122, .getfield 7, 3, 1061, 11, 0, 0), (125, .bipush 6, 2, 0, 0, 0, 0), (127, .laload, 1, 0, 0, 0, 0), (128, .lsub, 1, 0, 0, 0, 0), (129, .invokestatic 216, 3, 5, 1, 1, 1326), (132, .invokestatic 176, 3, 6, 1, 2, 1327), (135, .lastore, 1, 0, 0, 0, 0), (136, .aload_n 0, 1, 0, 0, 0, 0), (137, .iload_n 2, 1, 0, 0, 0, 0), (138, .invokevirtual 218, 3, 7, 11, 1, 1328), (141, .istore_n 3, 1, 0, 0, 0, 0), (142, .aload_n 0, 1, 0, 0, 0, 0), (143, .iconst 2, 1, 0, 0, 0, 0), (144, .iload_n 3, 1, 0, 0, 0, 0), (145, .i2l, 1, 0, 0, 0, 0), (146, .invokevirtual 191, 3, 2, 11, 2, 1281), (149, .aload_n 0, 1, 0, 0, 0, 0), (150, .aload_n 0, 1, 0, 0, 0, 0), (151, .getfield 221, 3, 1080, 11, 19, 0), (154, .ifCond .ne 8, 3, 0, 0, 0, 0), (157, .iload_n 2, 1, 0, 0, 0, 0), (158, .i2l, 1, 0, 0, 0, 0), (159, .goto 5, 3, 0, 0, 0, 0), (162, .iload_n 3, 1, 0, 0, 0, 0), (163, .i2l, 1, 0, 0, 0, 0), (164, .invokevirtual 224, 3, 8, 11, 1, 1345), (167, .istore 4, 2, 0, 0, 0, 0), (169, .iconst 0, 1, 0, 0, 0, 0), (170, .istore 5, 2, 0, 0, 0, 0), (172, .iload 5, 2, 0, 0, 0, 0), (174, .aload_n 0, 1, 0, 0, 0, 0), (175, .getfield 228, 3, 1081, 11, 20, 0), (178, .if_icmp .ge 31, 3, 0, 0, 0, 0), (181, .iload 4, 2, 0, 0, 0, 0), (183, .ifCond .eq 26, 3, 0, 0, 0, 0), (186, .aload_n 0, 1, 0, 0, 0, 0), (187, .iload 5, 2, 0, 0, 0, 0), (189, .aload_n 0, 1, 0, 0, 0, 0), (190, .iconst 3, 1, 0, 0, 0, 0), (191, .iload 5, 2, 0, 0, 0, 0), (193, .iadd, 1, 0, 0, 0, 0), (194, .iconst 0, 1, 0, 0, 0, 0), (195, .invokevirtual 231, 3, 9, 11, 2, 1353), (198, .invokevirtual 235, 3, 10, 11, 2, 1357), (201, .istore 4, 2, 0, 0, 0, 0), (203, .iinc 5 1, 3, 0, 0, 0, 0), (206, .goto (-34), 3, 0, 0, 0, 0), (209, .return_, 1, 0, 0, 0, 0)]
set_option maxRecDepth 100000 in
set_option maxHeartbeats 4000000 in
theorem c_X11_goes (l : Launch) (G : vg_G) (hp : vg_Hp G) : vg_Ct l G vg_sh r_X11_goes := by
  refine vg_meth hp vg_sh_ok r_X11_goes k_X11_goes rfl (fun h => by cases h) o_X11_goes [r_X11_get, r_X11_sourceAt, r_X11_tells, r_X11_drawn, r_X11_loops, r_J9_abs_067f4, r_J9_max_f86c9, r_X11_goesElements, r_X11_combs, r_X11_latestOf, r_X11_folds] false (by decide +kernel) (by decide +kernel) ⟨_, _, rfl, rfl⟩ (List.forall_mem_cons.mpr ⟨⟨c_X11_get l G hp, Nat.le_of_ble_eq_true rfl, Nat.le_of_ble_eq_true rfl⟩, List.forall_mem_cons.mpr ⟨⟨c_X11_sourceAt l G hp, Nat.le_of_ble_eq_true rfl, Nat.le_of_ble_eq_true rfl⟩, List.forall_mem_cons.mpr ⟨⟨c_X11_tells l G hp, Nat.le_of_ble_eq_true rfl, Nat.le_of_ble_eq_true rfl⟩, List.forall_mem_cons.mpr ⟨⟨c_X11_drawn l G hp, Nat.le_of_ble_eq_true rfl, Nat.le_of_ble_eq_true rfl⟩, List.forall_mem_cons.mpr ⟨⟨c_X11_loops l G hp, Nat.le_of_ble_eq_true rfl, Nat.le_of_ble_eq_true rfl⟩, List.forall_mem_cons.mpr ⟨⟨c_J9_abs_067f4 l G hp, Nat.le_of_ble_eq_true rfl, Nat.le_of_ble_eq_true rfl⟩, List.forall_mem_cons.mpr ⟨⟨c_J9_max_f86c9 l G hp, Nat.le_of_ble_eq_true rfl, Nat.le_of_ble_eq_true rfl⟩, List.forall_mem_cons.mpr ⟨⟨c_X11_goesElements l G hp, Nat.le_of_ble_eq_true rfl, Nat.le_of_ble_eq_true rfl⟩, List.forall_mem_cons.mpr ⟨⟨c_X11_combs l G hp, Nat.le_of_ble_eq_true rfl, Nat.le_of_ble_eq_true rfl⟩, List.forall_mem_cons.mpr ⟨⟨c_X11_latestOf l G hp, Nat.le_of_ble_eq_true rfl, Nat.le_of_ble_eq_true rfl⟩, List.forall_mem_cons.mpr ⟨⟨c_X11_folds l G hp, Nat.le_of_ble_eq_true rfl, Nat.le_of_ble_eq_true rfl⟩, fun _ h => absurd h List.not_mem_nil⟩⟩⟩⟩⟩⟩⟩⟩⟩⟩⟩) (fun h => by cases h) 600 ?_
  intro as s0 hpre
  obtain ⟨r, rfl, hr, i0, p0⟩ := hpre
  simp only [List.mem_cons, List.not_mem_nil, or_false] at hr
  rcases hr with rfl
  ·
    have z0 : (Int32.ofInt 0).toInt = 0 := by decide
    have z1 : (Int32.ofInt 1).toInt = 1 := by decide
    have z2 : (Int32.ofInt 2).toInt = 2 := by decide
    have z3 : (Int32.ofInt 3).toInt = 3 := by decide
    have z4 : (Int32.ofInt 4).toInt = 4 := by decide
    have z6 : (Int32.ofInt 6).toInt = 6 := by decide
    have z7 : (Int32.ofInt 7).toInt = 7 := by decide
    have z8 : (Int32.ofInt 8).toInt = 8 := by decide
    have z9 : (Int32.ofInt 9).toInt = 9 := by decide
    have z144 : (Int32.ofInt 144).toInt = 144 := by decide
    refine ⟨Nat.le_of_ble_eq_true rfl, [(172, [true, false, false, false, true, true], (fun L t => ∃ (x4 : Int32) (x5 : Int32), L = [some (.ref 55), none, none, none, some (.int x4), some (.int x5)] ∧ (0 : Int) ≤ x4.toInt ∧ x4.toInt ≤ (1 : Int) ∧ (0 : Int) ≤ x5.toInt ∧ x5.toInt ≤ (3 : Int) ∧ (vr_gi (s0.1 55 20).toInt x4 x5 (vk t).2 (vr_step (s0.1 55 17) (s0.1 55 20).toInt (vk s0).2) ∧ x5.toInt ≤ (s0.1 55 20).toInt) ∧ ((t.2 56 0).toInt = (s0.2 56 0).toInt + 1) ∧ Iv t ∧ Kg s0 t ∧ vk t = ((vk s0).1, (vk t).2)), (fun L _ => (0 + (3 - (vg_li L 5).toInt) * 1000000000000).toNat))], ?_, List.forall_mem_cons.mpr ⟨?_, fun _ h => absurd h List.not_mem_nil⟩⟩
    ·
      refine And.intro (Nat.le_of_ble_eq_true rfl) (And.intro ⟨55, (Int32.ofInt 0), rfl, by decide, i0, by omega⟩ ?_)
      intro v1 s3 h2
      have h2 : s3 = s0 ∧ (v1 = (s0.2 56 (Int32.ofInt 0).toNatClampNeg).toInt32) := h2
      have q6 := h2.1.symm
      subst q6
      have q7 := h2.2
      have y1 : v1.toInt = (s0.2 56 0).toInt := vg_l2i (x := s0.2 56 0) q7 (by omega) (by omega)
      refine And.intro (Nat.le_of_ble_eq_true rfl) (And.intro ⟨55, v1, rfl, by decide, i0, by omega⟩ ?_)
      intro v8 s10 h9
      have h9 : s10 = s0 ∧ (True) := h9
      have q13 := h9.1.symm
      subst q13
      refine And.intro ⟨by omega, by omega⟩ ?_
      intro v14 e15
      intro v16 e17
      refine And.intro ⟨by omega, by omega⟩ ?_
      intro s18 e19
      have i20 : Iv s18 := Iv.u2 i0 e19
      have k21 : Kg s0 s18 := Kx.u2 Kx.rf e19 rfl
      have u22 : vk s18 = ((vk s0).1, (vk s0).2) := vk_k2o rfl e19 (by omega)
      have y23 : (s18.2 56 0).toInt = (s0.2 56 0).toInt + 1 := vg_clk1 e15 e17 e19 (by decide) (by omega) (by omega)
      intro v24 e25
      refine And.intro (Nat.le_of_ble_eq_true rfl) (And.intro ⟨55, (Int32.ofInt 0), v24, rfl, by decide, i20, by omega⟩ ?_)
      intro s27 h26
      have h26 : Iv s27 ∧ Kp s18 s27 ∧ vk s27 = ((vk s18).1, vr_inc (vk s18).2 (Int32.ofInt 0).toNatClampNeg) ∧ (True) := h26
      have i28 := h26.1
      have k29 : Kg s0 s27 := Kx.tr k21 ((h26.2.1).pg)
      have u30 : vk s27 = ((vk s0).1, (vr_inc (vk s0).2 (Int32.ofInt 0).toNatClampNeg)) := (by rw [h26.2.2.1, u22])
      have y31 : (s27.2 56 0).toInt = (s0.2 56 0).toInt + 1 := by rw [h26.2.1.2 56 0 rfl]; exact y23
      refine And.intro (Nat.le_of_ble_eq_true rfl) (And.intro ⟨55, rfl, by decide, i28⟩ ?_)
      intro v32 s34 h33
      have h33 : Iv s34 ∧ Kp s27 s34 ∧ vk s34 = ((vk s27).1, (vk s27).2) ∧ (True) := h33
      have i35 := h33.1
      have k36 : Kg s0 s34 := Kx.tr k29 ((h33.2.1).pg)
      have u37 : vk s34 = ((vk s0).1, (vr_inc (vk s0).2 (Int32.ofInt 0).toNatClampNeg)) := h33.2.2.1.trans u30
      have y38 : (s34.2 56 0).toInt = (s0.2 56 0).toInt + 1 := by rw [h33.2.1.2 56 0 rfl]; exact y31
      refine And.intro (Nat.le_of_ble_eq_true rfl) (And.intro ⟨55, v8, v32, rfl, by decide, i35⟩ ?_)
      intro v39 s41 h40
      have h40 : Iv s41 ∧ Kp s34 s41 ∧ vk s41 = ((vk s34).1, (vk s34).2) ∧ (True) := h40
      have i42 := h40.1
      have k43 : Kg s0 s41 := Kx.tr k36 ((h40.2.1).pg)
      have u44 : vk s41 = ((vk s0).1, (vr_inc (vk s0).2 (Int32.ofInt 0).toNatClampNeg)) := h40.2.2.1.trans u37
      have y45 : (s41.2 56 0).toInt = (s0.2 56 0).toInt + 1 := by rw [h40.2.1.2 56 0 rfl]; exact y38
      intro v46 e47
      refine And.intro (Nat.le_of_ble_eq_true rfl) (And.intro ⟨55, (Int32.ofInt 1), v46, rfl, by decide, i42, by omega⟩ ?_)
      intro s49 h48
      have h48 : Iv s49 ∧ Kp s41 s49 ∧ vk s49 = ((vk s41).1, vr_inc (vk s41).2 (Int32.ofInt 1).toNatClampNeg) ∧ (True) := h48
      have i50 := h48.1
      have k51 : Kg s0 s49 := Kx.tr k43 ((h48.2.1).pg)
      have u52 : vk s49 = ((vk s0).1, (vr_inc (vr_inc (vk s0).2 (Int32.ofInt 0).toNatClampNeg) (Int32.ofInt 1).toNatClampNeg)) := (by rw [h48.2.2.1, u44])
      have y53 : (s49.2 56 0).toInt = (s0.2 56 0).toInt + 1 := by rw [h48.2.1.2 56 0 rfl]; exact y45
      refine And.intro ⟨by omega, by omega⟩ ?_
      intro v54 e55
      refine And.intro ⟨by omega, by omega⟩ ?_
      intro v56 e57
      intro v58 e59
      refine And.intro ⟨by omega, by omega⟩ ?_
      intro s60 e61
      have i62 : Iv s60 := Iv.u2 i50 e61
      have k63 : Kg s0 s60 := Kx.u2 k51 e61 (vg_kq_pos (by omega)).2.2
      have u64 : vk s60 = ((vk s0).1, (vr_inc (vr_inc (vk s0).2 (Int32.ofInt 0).toNatClampNeg) (Int32.ofInt 1).toNatClampNeg)) := vk_k2o u52 e61 (by omega)
      have y65 : (s60.2 56 0).toInt = (s0.2 56 0).toInt + 1 := by rw [e61, vg_u2_at (a := 56) (b := 0) (k := 56) (i := (Int32.ofInt 4).toNatClampNeg) (by first | decide | (have h9 : (Int32.ofInt 4).toNatClampNeg = (Int32.ofInt 4).toInt.toNat := rfl; omega))]; exact y53
      refine And.intro ⟨by omega, by omega⟩ ?_
      intro v66 e67
      intro v68 e69
      intro v70 e71
      refine And.intro ⟨by omega, by omega⟩ ?_
      intro s72 e73
      have i74 : Iv s72 := Iv.u2 i62 e73
      have k75 : Kg s0 s72 := Kx.u2 k63 e73 (vg_kq_pos (by omega)).2.2
      have u76 : vk s72 = ((vk s0).1, (vr_inc (vr_inc (vk s0).2 (Int32.ofInt 0).toNatClampNeg) (Int32.ofInt 1).toNatClampNeg)) := vk_k2o u64 e73 (by omega)
      have y77 : (s72.2 56 0).toInt = (s0.2 56 0).toInt + 1 := by rw [e73, vg_u2_at (a := 56) (b := 0) (k := 56) (i := (Int32.ofInt 6).toNatClampNeg) (by first | decide | (have h9 : (Int32.ofInt 6).toNatClampNeg = (Int32.ofInt 6).toInt.toNat := rfl; omega))]; exact y65
      refine And.intro ⟨by omega, by omega⟩ ?_
      intro v78 e79
      refine And.intro ⟨by omega, by omega⟩ ?_
      intro v80 e81
      intro v82 e83
      refine And.intro ⟨by omega, by omega⟩ ?_
      intro s84 e85
      have i86 : Iv s84 := Iv.u2 i74 e85
      have k87 : Kg s0 s84 := Kx.u2 k75 e85 (vg_kq_pos (by omega)).2.2
      have u88 : vk s84 = ((vk s0).1, (vr_inc (vr_inc (vk s0).2 (Int32.ofInt 0).toNatClampNeg) (Int32.ofInt 1).toNatClampNeg)) := vk_k2o u76 e85 (by omega)
      have y89 : (s84.2 56 0).toInt = (s0.2 56 0).toInt + 1 := by rw [e85, vg_u2_at (a := 56) (b := 0) (k := 56) (i := (Int32.ofInt 7).toNatClampNeg) (by first | decide | (have h9 : (Int32.ofInt 7).toNatClampNeg = (Int32.ofInt 7).toInt.toNat := rfl; omega))]; exact y77
      refine And.intro ⟨by omega, by omega⟩ ?_
      intro v90 e91
      intro v92 e93
      intro v94 e95
      refine And.intro ⟨by omega, by omega⟩ ?_
      intro s96 e97
      have i98 : Iv s96 := Iv.u2 i86 e97
      have k99 : Kg s0 s96 := Kx.u2 k87 e97 (vg_kq_pos (by omega)).2.2
      have u100 : vk s96 = ((vk s0).1, (vr_inc (vr_inc (vk s0).2 (Int32.ofInt 0).toNatClampNeg) (Int32.ofInt 1).toNatClampNeg)) := vk_k2o u88 e97 (by omega)
      have y101 : (s96.2 56 0).toInt = (s0.2 56 0).toInt + 1 := by rw [e97, vg_u2_at (a := 56) (b := 0) (k := 56) (i := (Int32.ofInt 8).toNatClampNeg) (by first | decide | (have h9 : (Int32.ofInt 8).toNatClampNeg = (Int32.ofInt 8).toInt.toNat := rfl; omega))]; exact y89
      refine And.intro ⟨by omega, by omega⟩ ?_
      intro v102 e103
      refine And.intro ⟨by omega, by omega⟩ ?_
      intro v104 e105
      refine And.intro ⟨by omega, by omega⟩ ?_
      intro v106 e107
      intro v108 e109
      refine And.intro (Nat.le_of_ble_eq_true rfl) (And.intro ⟨v108, rfl, trivial⟩ ?_)
      intro v110 s112 h111
      have h111 : s112 = s96 ∧ (True) := h111
      have q115 := h111.1.symm
      subst q115
      refine And.intro (Nat.le_of_ble_eq_true rfl) (And.intro ⟨v102, v110, rfl, trivial⟩ ?_)
      intro v116 s118 h117
      have h117 : s118 = s96 ∧ (True) := h117
      have q121 := h117.1.symm
      subst q121
      refine And.intro ⟨by omega, by omega⟩ ?_
      intro s122 e123
      have i124 : Iv s122 := Iv.u2 i98 e123
      have k125 : Kg s0 s122 := Kx.u2 k99 e123 (vg_kq_pos (by omega)).2.2
      have u126 : vk s122 = ((vk s0).1, (vr_inc (vr_inc (vk s0).2 (Int32.ofInt 0).toNatClampNeg) (Int32.ofInt 1).toNatClampNeg)) := vk_k2o u100 e123 (by omega)
      have y127 : (s122.2 56 0).toInt = (s0.2 56 0).toInt + 1 := by rw [e123, vg_u2_at (a := 56) (b := 0) (k := 56) (i := (Int32.ofInt 9).toNatClampNeg) (by first | decide | (have h9 : (Int32.ofInt 9).toNatClampNeg = (Int32.ofInt 9).toInt.toNat := rfl; omega))]; exact y101
      refine And.intro (Nat.le_of_ble_eq_true rfl) (And.intro ⟨55, v39, rfl, by decide, i124⟩ ?_)
      intro v128 s130 h129
      have h129 : Iv s130 ∧ Kp s122 s130 ∧ vk s130 = ((vk s122).1, (vk s122).2) ∧ (True) := h129
      have i131 := h129.1
      have k132 : Kg s0 s130 := Kx.tr k125 ((h129.2.1).pg)
      have u133 : vk s130 = ((vk s0).1, (vr_inc (vr_inc (vk s0).2 (Int32.ofInt 0).toNatClampNeg) (Int32.ofInt 1).toNatClampNeg)) := h129.2.2.1.trans u126
      have y134 : (s130.2 56 0).toInt = (s0.2 56 0).toInt + 1 := by rw [h129.2.1.2 56 0 rfl]; exact y127
      intro v135 e136
      refine And.intro (Nat.le_of_ble_eq_true rfl) (And.intro ⟨55, (Int32.ofInt 2), v135, rfl, by decide, i131, by omega⟩ ?_)
      intro s138 h137
      have h137 : Iv s138 ∧ Kp s130 s138 ∧ vk s138 = ((vk s130).1, vr_inc (vk s130).2 (Int32.ofInt 2).toNatClampNeg) ∧ (True) := h137
      have i139 := h137.1
      have k140 : Kg s0 s138 := Kx.tr k132 ((h137.2.1).pg)
      have u141 : vk s138 = ((vk s0).1, (vr_inc (vr_inc (vr_inc (vk s0).2 (Int32.ofInt 0).toNatClampNeg) (Int32.ofInt 1).toNatClampNeg) (Int32.ofInt 2).toNatClampNeg)) := (by rw [h137.2.2.1, u133])
      have y142 : (s138.2 56 0).toInt = (s0.2 56 0).toInt + 1 := by rw [h137.2.1.2 56 0 rfl]; exact y134
      intro v143 e144
      have g145 : s138.1 55 19 = v143 := by rw [e144]
      refine And.intro (fun c146 => ?_) (fun c146 => ?_)
      · have c146 : ¬ v143.toInt = 0 := c146
        intro v147 e148
        have y3 := u141
        have y4 := k140.1 55 17 rfl
        refine And.intro (Nat.le_of_ble_eq_true rfl) (And.intro ⟨55, v147, rfl, by decide, i139⟩ ?_)
        intro v149 s151 h150
        have h150 : Iv s151 ∧ Kp s138 s151 ∧ vk s151 = ((vk s138).1, vr_tk (s138.1 55 17) (vk s138).2) ∧ ((v149.toInt = 0 ∧ ¬ vr_rm (vr_inc (vk s138).2 7 7) (s138.1 55 17) = 0) ∨ (v149.toInt = 1 ∧ vr_rm (vr_inc (vk s138).2 7 7) (s138.1 55 17) = 0)) := h150
        have i152 := h150.1
        have k153 : Kg s0 s151 := Kx.tr k140 ((h150.2.1).pg)
        have u154 : vk s151 = ((vk s0).1, (vr_tk (s138.1 55 17) (vr_inc (vr_inc (vr_inc (vk s0).2 (Int32.ofInt 0).toNatClampNeg) (Int32.ofInt 1).toNatClampNeg) (Int32.ofInt 2).toNatClampNeg))) := (by rw [h150.2.2.1, u141])
        have q155 := h150.2.2.2
        have y156 : (s151.2 56 0).toInt = (s0.2 56 0).toInt + 1 := by rw [h150.2.1.2 56 0 rfl]; exact y142
        have y5 := q155
        exact ⟨rfl, ⟨v149, (Int32.ofInt 0), rfl, (by omega), (by omega), (by omega), (by omega), (by first | exact ⟨vr_g1 None.1 u154 q155 (by omega) (by omega) (by omega), by omega⟩ | exact ⟨vr_g0 u154 y3 y4 y5, by have h9 := Iv_55_20 i0; omega⟩), y156, i152, k153, vk_h2 u154⟩, trivial⟩
      · have c146 : ¬ (¬ v143.toInt = 0) := c146
        intro v157 e158
        have y3 := u141
        have y4 := k140.1 55 17 rfl
        refine And.intro (Nat.le_of_ble_eq_true rfl) (And.intro ⟨55, v157, rfl, by decide, i139⟩ ?_)
        intro v159 s161 h160
        have h160 : Iv s161 ∧ Kp s138 s161 ∧ vk s161 = ((vk s138).1, vr_tk (s138.1 55 17) (vk s138).2) ∧ ((v159.toInt = 0 ∧ ¬ vr_rm (vr_inc (vk s138).2 7 7) (s138.1 55 17) = 0) ∨ (v159.toInt = 1 ∧ vr_rm (vr_inc (vk s138).2 7 7) (s138.1 55 17) = 0)) := h160
        have i162 := h160.1
        have k163 : Kg s0 s161 := Kx.tr k140 ((h160.2.1).pg)
        have u164 : vk s161 = ((vk s0).1, (vr_tk (s138.1 55 17) (vr_inc (vr_inc (vr_inc (vk s0).2 (Int32.ofInt 0).toNatClampNeg) (Int32.ofInt 1).toNatClampNeg) (Int32.ofInt 2).toNatClampNeg))) := (by rw [h160.2.2.1, u141])
        have q165 := h160.2.2.2
        have y166 : (s161.2 56 0).toInt = (s0.2 56 0).toInt + 1 := by rw [h160.2.1.2 56 0 rfl]; exact y142
        have y5 := q165
        exact ⟨rfl, ⟨v159, (Int32.ofInt 0), rfl, (by omega), (by omega), (by omega), (by omega), (by first | exact ⟨vr_g1 None.1 u164 q165 (by omega) (by omega) (by omega), by omega⟩ | exact ⟨vr_g0 u164 y3 y4 y5, by have h9 := Iv_55_20 i0; omega⟩), y166, i162, k163, vk_h2 u164⟩, trivial⟩
    ·
      intro L s175 hL
      obtain ⟨w167, w170, rfl, b168, b169, b171, b172, x173, y174, i176, k177, u178⟩ := hL
      have y0 := congrArg Int32.toInt (k177.1 55 20 rfl)
      have h9 : w170.toNatClampNeg = w170.toInt.toNat := rfl
      intro v179 e180
      have g181 : s175.1 55 20 = v179 := by rw [e180]
      have b182 : v179.toInt = (s175.1 55 20).toInt := congrArg Int32.toInt e180
      have b183 : (0 : Int) ≤ v179.toInt ∧ v179.toInt ≤ 3 := by rw [e180]; exact Iv_55_20 i176
      refine And.intro (fun c184 => ?_) (fun c184 => ?_)
      · have c184 : v179.toInt ≤ w170.toInt := c184
        show Iv s175 ∧ Kg s0 s175 ∧ vk s175 = ((vk s0).1, vr_step (s0.1 55 17) (s0.1 55 20).toInt (vk s0).2) ∧ ((s175.2 56 0).toInt = (s0.2 56 0).toInt + 1)
        exact ⟨i176, k177, vk_rr u178 (vr_ge x173.1 (by omega)), (y174)⟩
      · have c184 : ¬ (v179.toInt ≤ w170.toInt) := c184
        refine And.intro (fun c185 => ?_) (fun c185 => ?_)
        · have c185 : w167.toInt = 0 := c185
          show Iv s175 ∧ Kg s0 s175 ∧ vk s175 = ((vk s0).1, vr_step (s0.1 55 17) (s0.1 55 20).toInt (vk s0).2) ∧ ((s175.2 56 0).toInt = (s0.2 56 0).toInt + 1)
          exact ⟨i176, k177, vk_rr u178 (vr_ge x173.1 (by omega)), (y174)⟩
        · have c185 : ¬ (w167.toInt = 0) := c185
          intro v186 e187
          have b188 := vg_add e187 (by omega) (by omega)
          refine And.intro (Nat.le_of_ble_eq_true rfl) (And.intro ⟨55, v186, (Int32.ofInt 0), rfl, by decide, i176, by omega⟩ ?_)
          intro v189 s191 h190
          have h190 : s191 = s175 ∧ (True) := h190
          have q194 := h190.1.symm
          subst q194
          refine And.intro (Nat.le_of_ble_eq_true rfl) (And.intro ⟨55, w170, v189, rfl, by decide, i176, by omega⟩ ?_)
          intro v195 s197 h196
          have h196 : Iv s197 ∧ Kp s175 s197 ∧ vk s197 = ((vk s175).1, vr_fd w170.toNatClampNeg (vk s175).2) ∧ ((v195.toInt = 0 ∧ vr_od (vr_inc (vk s175).2 (8 + w170.toNatClampNeg) (8 + w170.toNatClampNeg)) = 0) ∨ (v195.toInt = 1 ∧ ¬ vr_od (vr_inc (vk s175).2 (8 + w170.toNatClampNeg) (8 + w170.toNatClampNeg)) = 0)) := h196
          have i198 := h196.1
          have k199 : Kg s0 s197 := Kx.tr k177 ((h196.2.1).pg)
          have u200 : vk s197 = ((vk s0).1, (vr_fd w170.toNatClampNeg (vk s175).2)) := (by rw [h196.2.2.1, u178])
          have q201 := h196.2.2.2
          have y202 : (s197.2 56 0).toInt = (s0.2 56 0).toInt + 1 := by rw [h196.2.1.2 56 0 rfl]; exact y174
          intro v203 e204
          have b205 := vg_add e204 (by omega) (by omega)
          exact ⟨rfl, ⟨v195, v203, rfl, (by omega), (by omega), (by omega), (by omega), (by first | exact ⟨vr_g1 x173.1 u200 q201 (by omega) (by omega) (by omega), by omega⟩ | exact ⟨vr_g0 u200 y3 y4 y5, by have h9 := Iv_55_20 i0; omega⟩), y202, i198, k199, vk_h2 u200⟩, (by show (0 + (3 - v203.toInt) * 1000000000000).toNat < (0 + (3 - w170.toInt) * 1000000000000).toNat; omega)⟩
def o_X11_source : List vg_I := [(0, .iload_n 1, 1, 0, 0, 0, 0), (1, .iconst 0, 1, 0, 0, 0, 0), (2, .iconst 3, 1, 0, 0, 0, 0), (3, .invokestatic 76, 3, 0, 1, 3, 1175), (6, .ifCond .eq 29, 3, 0, 0, 0, 0), (9, .iload_n 2, 1, 0, 0, 0, 0), (10, .invokestatic 238, 3, 1, 1, 1, 1178), (13, .ifCond .eq 22, 3, 0, 0, 0, 0), (16, .iload_n 3, 1, 0, 0, 0, 0), (17, .invokestatic 238, 3, 1, 1, 1, 1178), (20, .ifCond .eq 15, 3, 0, 0, 0, 0), (23, .iload 4, 2, 0, 0, 0, 0), (25, .iconst 1, 1, 0, 0, 0, 0), (26, .sipush 1000, 3, 0, 0, 0, 0), (29, .invokestatic 76, 3, 0, 1, 3, 1175), (32, .ifCond .ne 9, 3, 0, 0, 0, 0), (35, .aload_n 0, 1, 0, 0, 0, 0), (36, .iconst 1, 1, 0, 0, 0, 0), (37, .invokevirtual 242, 3, 2, 11, 1, 1181), (40, .ireturn, 1, 0, 0, 0, 0), (41, .aload_n 0, 1, 0, 0, 0, 0), (42, .iload_n 1, 1, 0, 0, 0, 0), (43, .putfield 116, 3, 1064, 11, 3, 0), (46, .aload_n 0, 1, 0, 0, 0, 0), (47, .iload_n 2, 1, 0, 0, 0, 0), (48, .putfield 119, 3, 1065, 11, 4, 0), (51, .aload_n 0, 1, 0, 0, 0, 0), (52, .iload_n 3, 1, 0, 0, 0, 0), (53, .putfield 122, 3, 1066, 11, 5, 0), (56, .aload_n 0, 1, 0, 0, 0, 0), (57, .iload 4, 2, 0, 0, 0, 0), (59, .putfield 16, 3, 1067, 11, 6, 0), (62, .aload_n 0, 1, 0, 0, 0, 0), (63, .iconst 0, 1, 0, 0, 0, 0), (64, .invokevirtual 245, 3, 3, 11, 1, 1185), (67, .aload_n 0, 1, 0, 0, 0, 0), (68, .aload_n 0, 1, 0, 0, 0, 0), (69, .iconst 0, 1, 0, 0, 0, 0), (70, .invokevirtual 110, 3, 4, 11, 1, 1202), (73, .invokevirtual 249, 3, 5, 11, 1, 1206), (76, .ireturn, 1, 0, 0, 0, 0)]
set_option maxRecDepth 100000 in
set_option maxHeartbeats 4000000 in
theorem c_X11_source (l : Launch) (G : vg_G) (hp : vg_Hp G) : vg_Ct l G vg_sh r_X11_source := by
  refine vg_meth hp vg_sh_ok r_X11_source k_X11_source rfl (fun h => by cases h) o_X11_source [r_X11_isFrom, r_X11_isFar, r_X11_refuse, r_X11_begins, r_X11_get, r_X11_gives] false (by decide +kernel) (by decide +kernel) ⟨_, _, rfl, rfl⟩ (List.forall_mem_cons.mpr ⟨⟨c_X11_isFrom l G hp, Nat.le_of_ble_eq_true rfl, Nat.le_of_ble_eq_true rfl⟩, List.forall_mem_cons.mpr ⟨⟨c_X11_isFar l G hp, Nat.le_of_ble_eq_true rfl, Nat.le_of_ble_eq_true rfl⟩, List.forall_mem_cons.mpr ⟨⟨c_X11_refuse l G hp, Nat.le_of_ble_eq_true rfl, Nat.le_of_ble_eq_true rfl⟩, List.forall_mem_cons.mpr ⟨⟨c_X11_begins l G hp, Nat.le_of_ble_eq_true rfl, Nat.le_of_ble_eq_true rfl⟩, List.forall_mem_cons.mpr ⟨⟨c_X11_get l G hp, Nat.le_of_ble_eq_true rfl, Nat.le_of_ble_eq_true rfl⟩, List.forall_mem_cons.mpr ⟨⟨c_X11_gives l G hp, Nat.le_of_ble_eq_true rfl, Nat.le_of_ble_eq_true rfl⟩, fun _ h => absurd h List.not_mem_nil⟩⟩⟩⟩⟩⟩) (fun h => by cases h) 600 ?_
  intro as s0 hpre
  obtain ⟨r, a1, a2, a3, a4, rfl, hr, i0, p0⟩ := hpre
  simp only [List.mem_cons, List.not_mem_nil, or_false] at hr
  rcases hr with rfl
  ·
    have z0 : (Int32.ofInt 0).toInt = 0 := by decide
    have z1 : (Int32.ofInt 1).toInt = 1 := by decide
    have z3 : (Int32.ofInt 3).toInt = 3 := by decide
    have z1000 : (Int32.ofInt 1000).toInt = 1000 := by decide
    refine ⟨Nat.le_of_ble_eq_true rfl, [], ?_, fun _ h => absurd h List.not_mem_nil⟩
    ·
      refine And.intro (Nat.le_of_ble_eq_true rfl) (And.intro ⟨a1, (Int32.ofInt 0), (Int32.ofInt 3), rfl, trivial⟩ ?_)
      intro v1 s3 h2
      have h2 : s3 = s0 ∧ ((v1.toInt = 1 ∧ (Int32.ofInt 0).toInt ≤ a1.toInt ∧ a1.toInt ≤ (Int32.ofInt 3).toInt) ∨ (v1.toInt = 0 ∧ (a1.toInt < (Int32.ofInt 0).toInt ∨ (Int32.ofInt 3).toInt < a1.toInt))) := h2
      have q6 := h2.1.symm
      subst q6
      have q7 := h2.2
      refine And.intro (fun c8 => ?_) (fun c8 => ?_)
      · have c8 : v1.toInt = 0 := c8
        refine And.intro (Nat.le_of_ble_eq_true rfl) (And.intro ⟨55, (Int32.ofInt 1), rfl, by decide, i0⟩ ?_)
        intro v9 s11 h10
        have h10 : Iv s11 ∧ Kp s0 s11 ∧ vk s11 = ((vk s0).1, (vk s0).2) ∧ (v9.toInt = -1) := h10
        have i12 := h10.1
        have k13 : Kp s0 s11 := Kx.tr Kx.rf (h10.2.1)
        have u14 : vk s11 = ((vk s0).1, (vk s0).2) := h10.2.2.1.trans rfl
        have q15 := h10.2.2.2
        show Iv s11 ∧ Kp s0 s11 ∧ vk s11 = ((vk s0).1, if (0 ≤ a1.toInt ∧ a1.toInt ≤ 3 ∧ -30000 ≤ a2.toInt ∧ a2.toInt ≤ 30000 ∧ -30000 ≤ a3.toInt ∧ a3.toInt ≤ 30000 ∧ 1 ≤ a4.toInt ∧ a4.toInt ≤ 1000) then kb2 (Int64.ofNat 0) 0 3 (vk s0).2 else (vk s0).2) ∧ (((0 ≤ a1.toInt ∧ a1.toInt ≤ 3 ∧ -30000 ≤ a2.toInt ∧ a2.toInt ≤ 30000 ∧ -30000 ≤ a3.toInt ∧ a3.toInt ≤ 30000 ∧ 1 ≤ a4.toInt ∧ a4.toInt ≤ 1000) ∧ v9.toInt = (s0.2 56 0).toInt) ∨ (¬ (0 ≤ a1.toInt ∧ a1.toInt ≤ 3 ∧ -30000 ≤ a2.toInt ∧ a2.toInt ≤ 30000 ∧ -30000 ≤ a3.toInt ∧ a3.toInt ≤ 30000 ∧ 1 ≤ a4.toInt ∧ a4.toInt ≤ 1000) ∧ v9.toInt = -1))
        exact ⟨i12, k13, (by first | exact vk_rr u14 (by rw [if_pos (by omega), z0]) | exact vk_rr u14 (by rw [if_neg (by omega)])), (by have h9 := congrArg Int64.toInt (k13.2 56 0 rfl); have h8 := congrArg Int64.toInt (h10.2.1.2 56 0 rfl); omega)⟩
      · have c8 : ¬ (v1.toInt = 0) := c8
        refine And.intro (Nat.le_of_ble_eq_true rfl) (And.intro ⟨a2, rfl, trivial⟩ ?_)
        intro v16 s18 h17
        have h17 : s18 = s0 ∧ ((v16.toInt = 1 ∧ -30000 ≤ a2.toInt ∧ a2.toInt ≤ 30000) ∨ (v16.toInt = 0 ∧ (a2.toInt < -30000 ∨ 30000 < a2.toInt))) := h17
        have q21 := h17.1.symm
        subst q21
        have q22 := h17.2
        refine And.intro (fun c23 => ?_) (fun c23 => ?_)
        · have c23 : v16.toInt = 0 := c23
          refine And.intro (Nat.le_of_ble_eq_true rfl) (And.intro ⟨55, (Int32.ofInt 1), rfl, by decide, i0⟩ ?_)
          intro v24 s26 h25
          have h25 : Iv s26 ∧ Kp s0 s26 ∧ vk s26 = ((vk s0).1, (vk s0).2) ∧ (v24.toInt = -1) := h25
          have i27 := h25.1
          have k28 : Kp s0 s26 := Kx.tr Kx.rf (h25.2.1)
          have u29 : vk s26 = ((vk s0).1, (vk s0).2) := h25.2.2.1.trans rfl
          have q30 := h25.2.2.2
          show Iv s26 ∧ Kp s0 s26 ∧ vk s26 = ((vk s0).1, if (0 ≤ a1.toInt ∧ a1.toInt ≤ 3 ∧ -30000 ≤ a2.toInt ∧ a2.toInt ≤ 30000 ∧ -30000 ≤ a3.toInt ∧ a3.toInt ≤ 30000 ∧ 1 ≤ a4.toInt ∧ a4.toInt ≤ 1000) then kb2 (Int64.ofNat 0) 0 3 (vk s0).2 else (vk s0).2) ∧ (((0 ≤ a1.toInt ∧ a1.toInt ≤ 3 ∧ -30000 ≤ a2.toInt ∧ a2.toInt ≤ 30000 ∧ -30000 ≤ a3.toInt ∧ a3.toInt ≤ 30000 ∧ 1 ≤ a4.toInt ∧ a4.toInt ≤ 1000) ∧ v24.toInt = (s0.2 56 0).toInt) ∨ (¬ (0 ≤ a1.toInt ∧ a1.toInt ≤ 3 ∧ -30000 ≤ a2.toInt ∧ a2.toInt ≤ 30000 ∧ -30000 ≤ a3.toInt ∧ a3.toInt ≤ 30000 ∧ 1 ≤ a4.toInt ∧ a4.toInt ≤ 1000) ∧ v24.toInt = -1))
          exact ⟨i27, k28, (by first | exact vk_rr u29 (by rw [if_pos (by omega), z0]) | exact vk_rr u29 (by rw [if_neg (by omega)])), (by have h9 := congrArg Int64.toInt (k28.2 56 0 rfl); have h8 := congrArg Int64.toInt (h25.2.1.2 56 0 rfl); omega)⟩
        · have c23 : ¬ (v16.toInt = 0) := c23
          refine And.intro (Nat.le_of_ble_eq_true rfl) (And.intro ⟨a3, rfl, trivial⟩ ?_)
          intro v31 s33 h32
          have h32 : s33 = s0 ∧ ((v31.toInt = 1 ∧ -30000 ≤ a3.toInt ∧ a3.toInt ≤ 30000) ∨ (v31.toInt = 0 ∧ (a3.toInt < -30000 ∨ 30000 < a3.toInt))) := h32
          have q36 := h32.1.symm
          subst q36
          have q37 := h32.2
          refine And.intro (fun c38 => ?_) (fun c38 => ?_)
          · have c38 : v31.toInt = 0 := c38
            refine And.intro (Nat.le_of_ble_eq_true rfl) (And.intro ⟨55, (Int32.ofInt 1), rfl, by decide, i0⟩ ?_)
            intro v39 s41 h40
            have h40 : Iv s41 ∧ Kp s0 s41 ∧ vk s41 = ((vk s0).1, (vk s0).2) ∧ (v39.toInt = -1) := h40
            have i42 := h40.1
            have k43 : Kp s0 s41 := Kx.tr Kx.rf (h40.2.1)
            have u44 : vk s41 = ((vk s0).1, (vk s0).2) := h40.2.2.1.trans rfl
            have q45 := h40.2.2.2
            show Iv s41 ∧ Kp s0 s41 ∧ vk s41 = ((vk s0).1, if (0 ≤ a1.toInt ∧ a1.toInt ≤ 3 ∧ -30000 ≤ a2.toInt ∧ a2.toInt ≤ 30000 ∧ -30000 ≤ a3.toInt ∧ a3.toInt ≤ 30000 ∧ 1 ≤ a4.toInt ∧ a4.toInt ≤ 1000) then kb2 (Int64.ofNat 0) 0 3 (vk s0).2 else (vk s0).2) ∧ (((0 ≤ a1.toInt ∧ a1.toInt ≤ 3 ∧ -30000 ≤ a2.toInt ∧ a2.toInt ≤ 30000 ∧ -30000 ≤ a3.toInt ∧ a3.toInt ≤ 30000 ∧ 1 ≤ a4.toInt ∧ a4.toInt ≤ 1000) ∧ v39.toInt = (s0.2 56 0).toInt) ∨ (¬ (0 ≤ a1.toInt ∧ a1.toInt ≤ 3 ∧ -30000 ≤ a2.toInt ∧ a2.toInt ≤ 30000 ∧ -30000 ≤ a3.toInt ∧ a3.toInt ≤ 30000 ∧ 1 ≤ a4.toInt ∧ a4.toInt ≤ 1000) ∧ v39.toInt = -1))
            exact ⟨i42, k43, (by first | exact vk_rr u44 (by rw [if_pos (by omega), z0]) | exact vk_rr u44 (by rw [if_neg (by omega)])), (by have h9 := congrArg Int64.toInt (k43.2 56 0 rfl); have h8 := congrArg Int64.toInt (h40.2.1.2 56 0 rfl); omega)⟩
          · have c38 : ¬ (v31.toInt = 0) := c38
            refine And.intro (Nat.le_of_ble_eq_true rfl) (And.intro ⟨a4, (Int32.ofInt 1), (Int32.ofInt 1000), rfl, trivial⟩ ?_)
            intro v46 s48 h47
            have h47 : s48 = s0 ∧ ((v46.toInt = 1 ∧ (Int32.ofInt 1).toInt ≤ a4.toInt ∧ a4.toInt ≤ (Int32.ofInt 1000).toInt) ∨ (v46.toInt = 0 ∧ (a4.toInt < (Int32.ofInt 1).toInt ∨ (Int32.ofInt 1000).toInt < a4.toInt))) := h47
            have q51 := h47.1.symm
            subst q51
            have q52 := h47.2
            refine And.intro (fun c53 => ?_) (fun c53 => ?_)
            · have c53 : ¬ v46.toInt = 0 := c53
              intro s54 e55
              have i56 : Iv s54 := Iv.u1 i0 e55 rfl
              have k57 : Kp s0 s54 := Kx.u1 Kx.rf e55 rfl
              have u58 : vk s54 = ((vk s0).1, (vk s0).2) := vk_k1 rfl e55 rfl
              intro s59 e60
              have i61 : Iv s59 := Iv.u1 i56 e60 rfl
              have k62 : Kp s0 s59 := Kx.u1 k57 e60 rfl
              have u63 : vk s59 = ((vk s0).1, (vk s0).2) := vk_k1 u58 e60 rfl
              intro s64 e65
              have i66 : Iv s64 := Iv.u1 i61 e65 rfl
              have k67 : Kp s0 s64 := Kx.u1 k62 e65 rfl
              have u68 : vk s64 = ((vk s0).1, (vk s0).2) := vk_k1 u63 e65 rfl
              intro s69 e70
              have i71 : Iv s69 := Iv.c1 (lo := 1) (hi := 1000) i66 e70 rfl (by omega) (by omega)
              have k72 : Kp s0 s69 := Kx.u1 k67 e70 rfl
              have u73 : vk s69 = ((vk s0).1, (vk s0).2) := vk_k1 u68 e70 rfl
              refine And.intro (Nat.le_of_ble_eq_true rfl) (And.intro ⟨55, (Int32.ofInt 0), rfl, by decide, i71, by omega⟩ ?_)
              intro s75 h74
              have h74 : Iv s75 ∧ Kp s69 s75 ∧ vk s75 = ((vk s69).1, kb2 (Int64.ofNat 0) (Int32.ofInt 0).toInt 3 (vk s69).2) ∧ (True) := h74
              have i76 := h74.1
              have k77 : Kp s0 s75 := Kx.tr k72 (h74.2.1)
              have u78 : vk s75 = ((vk s0).1, (kb2 (Int64.ofNat 0) (Int32.ofInt 0).toInt 3 (vk s0).2)) := (by rw [h74.2.2.1, u73])
              refine And.intro (Nat.le_of_ble_eq_true rfl) (And.intro ⟨55, (Int32.ofInt 0), rfl, by decide, i76, by omega⟩ ?_)
              intro v79 s81 h80
              have h80 : s81 = s75 ∧ (v79 = (s75.2 56 (Int32.ofInt 0).toNatClampNeg).toInt32) := h80
              have q84 := h80.1.symm
              subst q84
              have q85 := h80.2
              have y0 := congrArg Int64.toInt (k77.2 56 0 rfl)
              have y1 : v79.toInt = (s75.2 56 0).toInt := vg_l2i (x := s75.2 56 0) q85 (by omega) (by omega)
              refine And.intro (Nat.le_of_ble_eq_true rfl) (And.intro ⟨55, v79, rfl, by decide, i76⟩ ?_)
              intro v86 s88 h87
              have h87 : Iv s88 ∧ Kp s75 s88 ∧ vk s88 = ((vk s75).1, (vk s75).2) ∧ (v86 = v79 ∧ v86.toInt = v79.toInt) := h87
              have i89 := h87.1
              have k90 : Kp s0 s88 := Kx.tr k77 (h87.2.1)
              have u91 : vk s88 = ((vk s0).1, (kb2 (Int64.ofNat 0) (Int32.ofInt 0).toInt 3 (vk s0).2)) := h87.2.2.1.trans u78
              have q92 := h87.2.2.2
              show Iv s88 ∧ Kp s0 s88 ∧ vk s88 = ((vk s0).1, if (0 ≤ a1.toInt ∧ a1.toInt ≤ 3 ∧ -30000 ≤ a2.toInt ∧ a2.toInt ≤ 30000 ∧ -30000 ≤ a3.toInt ∧ a3.toInt ≤ 30000 ∧ 1 ≤ a4.toInt ∧ a4.toInt ≤ 1000) then kb2 (Int64.ofNat 0) 0 3 (vk s0).2 else (vk s0).2) ∧ (((0 ≤ a1.toInt ∧ a1.toInt ≤ 3 ∧ -30000 ≤ a2.toInt ∧ a2.toInt ≤ 30000 ∧ -30000 ≤ a3.toInt ∧ a3.toInt ≤ 30000 ∧ 1 ≤ a4.toInt ∧ a4.toInt ≤ 1000) ∧ v86.toInt = (s0.2 56 0).toInt) ∨ (¬ (0 ≤ a1.toInt ∧ a1.toInt ≤ 3 ∧ -30000 ≤ a2.toInt ∧ a2.toInt ≤ 30000 ∧ -30000 ≤ a3.toInt ∧ a3.toInt ≤ 30000 ∧ 1 ≤ a4.toInt ∧ a4.toInt ≤ 1000) ∧ v86.toInt = -1))
              exact ⟨i89, k90, (by first | exact vk_rr u91 (by rw [if_pos (by omega), z0]) | exact vk_rr u91 (by rw [if_neg (by omega)])), (by have h9 := congrArg Int64.toInt (k90.2 56 0 rfl); have h8 := congrArg Int64.toInt (h87.2.1.2 56 0 rfl); omega)⟩
            · have c53 : ¬ (¬ v46.toInt = 0) := c53
              refine And.intro (Nat.le_of_ble_eq_true rfl) (And.intro ⟨55, (Int32.ofInt 1), rfl, by decide, i0⟩ ?_)
              intro v93 s95 h94
              have h94 : Iv s95 ∧ Kp s0 s95 ∧ vk s95 = ((vk s0).1, (vk s0).2) ∧ (v93.toInt = -1) := h94
              have i96 := h94.1
              have k97 : Kp s0 s95 := Kx.tr Kx.rf (h94.2.1)
              have u98 : vk s95 = ((vk s0).1, (vk s0).2) := h94.2.2.1.trans rfl
              have q99 := h94.2.2.2
              show Iv s95 ∧ Kp s0 s95 ∧ vk s95 = ((vk s0).1, if (0 ≤ a1.toInt ∧ a1.toInt ≤ 3 ∧ -30000 ≤ a2.toInt ∧ a2.toInt ≤ 30000 ∧ -30000 ≤ a3.toInt ∧ a3.toInt ≤ 30000 ∧ 1 ≤ a4.toInt ∧ a4.toInt ≤ 1000) then kb2 (Int64.ofNat 0) 0 3 (vk s0).2 else (vk s0).2) ∧ (((0 ≤ a1.toInt ∧ a1.toInt ≤ 3 ∧ -30000 ≤ a2.toInt ∧ a2.toInt ≤ 30000 ∧ -30000 ≤ a3.toInt ∧ a3.toInt ≤ 30000 ∧ 1 ≤ a4.toInt ∧ a4.toInt ≤ 1000) ∧ v93.toInt = (s0.2 56 0).toInt) ∨ (¬ (0 ≤ a1.toInt ∧ a1.toInt ≤ 3 ∧ -30000 ≤ a2.toInt ∧ a2.toInt ≤ 30000 ∧ -30000 ≤ a3.toInt ∧ a3.toInt ≤ 30000 ∧ 1 ≤ a4.toInt ∧ a4.toInt ≤ 1000) ∧ v93.toInt = -1))
              exact ⟨i96, k97, (by first | exact vk_rr u98 (by rw [if_pos (by omega), z0]) | exact vk_rr u98 (by rw [if_neg (by omega)])), (by have h9 := congrArg Int64.toInt (k97.2 56 0 rfl); have h8 := congrArg Int64.toInt (h94.2.1.2 56 0 rfl); omega)⟩
def o_X11_anew : List vg_I := [(0, .iload_n 1, 1, 0, 0, 0, 0), (1, .invokestatic 261, 3, 0, 1, 1, 1265), (4, .ifCond .ne 9, 3, 0, 0, 0, 0), (7, .aload_n 0, 1, 0, 0, 0, 0), (8, .iconst 2, 1, 0, 0, 0, 0), (9, .invokevirtual 242, 3, 1, 11, 1, 1181), (12, .ireturn, 1, 0, 0, 0, 0), (13, .aload_n 0, 1, 0, 0, 0, 0), (14, .iload_n 1, 1, 0, 0, 0, 0), (15, .invokevirtual 245, 3, 2, 11, 1, 1185), (18, .aload_n 0, 1, 0, 0, 0, 0), (19, .aload_n 0, 1, 0, 0, 0, 0), (20, .iconst 0, 1, 0, 0, 0, 0), (21, .invokevirtual 110, 3, 3, 11, 1, 1202), (24, .invokevirtual 249, 3, 4, 11, 1, 1206), (27, .ireturn, 1, 0, 0, 0, 0)]
set_option maxRecDepth 100000 in
set_option maxHeartbeats 4000000 in
theorem c_X11_anew (l : Launch) (G : vg_G) (hp : vg_Hp G) : vg_Ct l G vg_sh r_X11_anew := by
  refine vg_meth hp vg_sh_ok r_X11_anew k_X11_anew rfl (fun h => by cases h) o_X11_anew [r_X11_isStage, r_X11_refuse, r_X11_begins, r_X11_get, r_X11_gives] false (by decide +kernel) (by decide +kernel) ⟨_, _, rfl, rfl⟩ (List.forall_mem_cons.mpr ⟨⟨c_X11_isStage l G hp, Nat.le_of_ble_eq_true rfl, Nat.le_of_ble_eq_true rfl⟩, List.forall_mem_cons.mpr ⟨⟨c_X11_refuse l G hp, Nat.le_of_ble_eq_true rfl, Nat.le_of_ble_eq_true rfl⟩, List.forall_mem_cons.mpr ⟨⟨c_X11_begins l G hp, Nat.le_of_ble_eq_true rfl, Nat.le_of_ble_eq_true rfl⟩, List.forall_mem_cons.mpr ⟨⟨c_X11_get l G hp, Nat.le_of_ble_eq_true rfl, Nat.le_of_ble_eq_true rfl⟩, List.forall_mem_cons.mpr ⟨⟨c_X11_gives l G hp, Nat.le_of_ble_eq_true rfl, Nat.le_of_ble_eq_true rfl⟩, fun _ h => absurd h List.not_mem_nil⟩⟩⟩⟩⟩) (fun h => by cases h) 600 ?_
  intro as s0 hpre
  obtain ⟨r, a1, rfl, hr, i0, p0⟩ := hpre
  simp only [List.mem_cons, List.not_mem_nil, or_false] at hr
  rcases hr with rfl
  ·
    have z0 : (Int32.ofInt 0).toInt = 0 := by decide
    have z2 : (Int32.ofInt 2).toInt = 2 := by decide
    refine ⟨Nat.le_of_ble_eq_true rfl, [], ?_, fun _ h => absurd h List.not_mem_nil⟩
    ·
      refine And.intro (Nat.le_of_ble_eq_true rfl) (And.intro ⟨a1, rfl, trivial⟩ ?_)
      intro v1 s3 h2
      have h2 : s3 = s0 ∧ ((v1.toInt = 1 ∧ 0 ≤ a1.toInt ∧ a1.toInt ≤ 6) ∨ (v1.toInt = 0 ∧ (a1.toInt < 0 ∨ 6 < a1.toInt))) := h2
      have q6 := h2.1.symm
      subst q6
      have q7 := h2.2
      refine And.intro (fun c8 => ?_) (fun c8 => ?_)
      · have c8 : ¬ v1.toInt = 0 := c8
        refine And.intro (Nat.le_of_ble_eq_true rfl) (And.intro ⟨55, a1, rfl, by decide, i0, by omega⟩ ?_)
        intro s10 h9
        have h9 : Iv s10 ∧ Kp s0 s10 ∧ vk s10 = ((vk s0).1, kb2 (Int64.ofNat 0) a1.toInt 3 (vk s0).2) ∧ (True) := h9
        have i11 := h9.1
        have k12 : Kp s0 s10 := Kx.tr Kx.rf (h9.2.1)
        have u13 : vk s10 = ((vk s0).1, (kb2 (Int64.ofNat 0) a1.toInt 3 (vk s0).2)) := h9.2.2.1
        refine And.intro (Nat.le_of_ble_eq_true rfl) (And.intro ⟨55, (Int32.ofInt 0), rfl, by decide, i11, by omega⟩ ?_)
        intro v14 s16 h15
        have h15 : s16 = s10 ∧ (v14 = (s10.2 56 (Int32.ofInt 0).toNatClampNeg).toInt32) := h15
        have q19 := h15.1.symm
        subst q19
        have q20 := h15.2
        have y0 := congrArg Int64.toInt (k12.2 56 0 rfl)
        have y1 : v14.toInt = (s10.2 56 0).toInt := vg_l2i (x := s10.2 56 0) q20 (by omega) (by omega)
        refine And.intro (Nat.le_of_ble_eq_true rfl) (And.intro ⟨55, v14, rfl, by decide, i11⟩ ?_)
        intro v21 s23 h22
        have h22 : Iv s23 ∧ Kp s10 s23 ∧ vk s23 = ((vk s10).1, (vk s10).2) ∧ (v21 = v14 ∧ v21.toInt = v14.toInt) := h22
        have i24 := h22.1
        have k25 : Kp s0 s23 := Kx.tr k12 (h22.2.1)
        have u26 : vk s23 = ((vk s0).1, (kb2 (Int64.ofNat 0) a1.toInt 3 (vk s0).2)) := h22.2.2.1.trans u13
        have q27 := h22.2.2.2
        show Iv s23 ∧ Kp s0 s23 ∧ vk s23 = ((vk s0).1, if (0 ≤ a1.toInt ∧ a1.toInt ≤ 6) then kb2 (Int64.ofNat 0) a1.toInt 3 (vk s0).2 else (vk s0).2) ∧ (((0 ≤ a1.toInt ∧ a1.toInt ≤ 6) ∧ v21.toInt = (s0.2 56 0).toInt) ∨ (¬ (0 ≤ a1.toInt ∧ a1.toInt ≤ 6) ∧ v21.toInt = -1))
        exact ⟨i24, k25, (by first | exact vk_rr u26 (by rw [if_pos (by omega)]) | exact vk_rr u26 (by rw [if_neg (by omega)])), (by have h9 := congrArg Int64.toInt (k25.2 56 0 rfl); have h8 := congrArg Int64.toInt (h22.2.1.2 56 0 rfl); omega)⟩
      · have c8 : ¬ (¬ v1.toInt = 0) := c8
        refine And.intro (Nat.le_of_ble_eq_true rfl) (And.intro ⟨55, (Int32.ofInt 2), rfl, by decide, i0⟩ ?_)
        intro v28 s30 h29
        have h29 : Iv s30 ∧ Kp s0 s30 ∧ vk s30 = ((vk s0).1, (vk s0).2) ∧ (v28.toInt = -1) := h29
        have i31 := h29.1
        have k32 : Kp s0 s30 := Kx.tr Kx.rf (h29.2.1)
        have u33 : vk s30 = ((vk s0).1, (vk s0).2) := h29.2.2.1.trans rfl
        have q34 := h29.2.2.2
        show Iv s30 ∧ Kp s0 s30 ∧ vk s30 = ((vk s0).1, if (0 ≤ a1.toInt ∧ a1.toInt ≤ 6) then kb2 (Int64.ofNat 0) a1.toInt 3 (vk s0).2 else (vk s0).2) ∧ (((0 ≤ a1.toInt ∧ a1.toInt ≤ 6) ∧ v28.toInt = (s0.2 56 0).toInt) ∨ (¬ (0 ≤ a1.toInt ∧ a1.toInt ≤ 6) ∧ v28.toInt = -1))
        exact ⟨i31, k32, (by first | exact vk_rr u33 (by rw [if_pos (by omega)]) | exact vk_rr u33 (by rw [if_neg (by omega)])), (by have h9 := congrArg Int64.toInt (k32.2 56 0 rfl); have h8 := congrArg Int64.toInt (h29.2.1.2 56 0 rfl); omega)⟩
def o_X11_sample : List vg_I := [(0, .iload_n 1, 1, 0, 0, 0, 0), (1, .iconst 0, 1, 0, 0, 0, 0), (2, .bipush 15, 2, 0, 0, 0, 0), (4, .invokestatic 76, 3, 0, 1, 3, 1175), (7, .ifCond .eq 10, 3, 0, 0, 0, 0), (10, .iload_n 2, 1, 0, 0, 0, 0), (11, .invokestatic 238, 3, 1, 1, 1, 1178), (14, .ifCond .ne 9, 3, 0, 0, 0, 0), (17, .aload_n 0, 1, 0, 0, 0, 0), (18, .iconst 1, 1, 0, 0, 0, 0), (19, .invokevirtual 242, 3, 2, 11, 1, 1181), (22, .ireturn, 1, 0, 0, 0, 0), (23, .aload_n 0, 1, 0, 0, 0, 0), (24, .getfield 42, 3, 1083, 11, 22, 0), (27, .iload_n 1, 1, 0, 0, 0, 0), (28, .iaload, 1, 0, 0, 0, 0), (29, .istore_n 3, 1, 0, 0, 0, 0), (30, .aload_n 0, 1, 0, 0, 0, 0), (31, .getfield 42, 3, 1083, 11, 22, 0), (34, .iload_n 1, 1, 0, 0, 0, 0), (35, .iload_n 2, 1, 0, 0, 0, 0), (36, .iastore, 1, 0, 0, 0, 0), (37, .aload_n 0, 1, 0, 0, 0, 0), (38, .iload_n 3, 1, 0, 0, 0, 0), (39, .invokevirtual 249, 3, 3, 11, 1, 1206), (42, .ireturn, 1, 0, 0, 0, 0)]
set_option maxRecDepth 100000 in
set_option maxHeartbeats 4000000 in
theorem c_X11_sample (l : Launch) (G : vg_G) (hp : vg_Hp G) : vg_Ct l G vg_sh r_X11_sample := by
  refine vg_meth hp vg_sh_ok r_X11_sample k_X11_sample rfl (fun h => by cases h) o_X11_sample [r_X11_isFrom, r_X11_isFar, r_X11_refuse, r_X11_gives] false (by decide +kernel) (by decide +kernel) ⟨_, _, rfl, rfl⟩ (List.forall_mem_cons.mpr ⟨⟨c_X11_isFrom l G hp, Nat.le_of_ble_eq_true rfl, Nat.le_of_ble_eq_true rfl⟩, List.forall_mem_cons.mpr ⟨⟨c_X11_isFar l G hp, Nat.le_of_ble_eq_true rfl, Nat.le_of_ble_eq_true rfl⟩, List.forall_mem_cons.mpr ⟨⟨c_X11_refuse l G hp, Nat.le_of_ble_eq_true rfl, Nat.le_of_ble_eq_true rfl⟩, List.forall_mem_cons.mpr ⟨⟨c_X11_gives l G hp, Nat.le_of_ble_eq_true rfl, Nat.le_of_ble_eq_true rfl⟩, fun _ h => absurd h List.not_mem_nil⟩⟩⟩⟩) (fun h => by cases h) 600 ?_
  intro as s0 hpre
  obtain ⟨r, a1, a2, rfl, hr, i0⟩ := hpre
  simp only [List.mem_cons, List.not_mem_nil, or_false] at hr
  rcases hr with rfl
  ·
    have z0 : (Int32.ofInt 0).toInt = 0 := by decide
    have z1 : (Int32.ofInt 1).toInt = 1 := by decide
    have z15 : (Int32.ofInt 15).toInt = 15 := by decide
    refine ⟨Nat.le_of_ble_eq_true rfl, [], ?_, fun _ h => absurd h List.not_mem_nil⟩
    ·
      refine And.intro (Nat.le_of_ble_eq_true rfl) (And.intro ⟨a1, (Int32.ofInt 0), (Int32.ofInt 15), rfl, trivial⟩ ?_)
      intro v1 s3 h2
      have h2 : s3 = s0 ∧ ((v1.toInt = 1 ∧ (Int32.ofInt 0).toInt ≤ a1.toInt ∧ a1.toInt ≤ (Int32.ofInt 15).toInt) ∨ (v1.toInt = 0 ∧ (a1.toInt < (Int32.ofInt 0).toInt ∨ (Int32.ofInt 15).toInt < a1.toInt))) := h2
      have q6 := h2.1.symm
      subst q6
      have q7 := h2.2
      refine And.intro (fun c8 => ?_) (fun c8 => ?_)
      · have c8 : v1.toInt = 0 := c8
        refine And.intro (Nat.le_of_ble_eq_true rfl) (And.intro ⟨55, (Int32.ofInt 1), rfl, by decide, i0⟩ ?_)
        intro v9 s11 h10
        have h10 : Iv s11 ∧ Kp s0 s11 ∧ vk s11 = ((vk s0).1, (vk s0).2) ∧ (v9.toInt = -1) := h10
        have i12 := h10.1
        have k13 : Kp s0 s11 := Kx.tr Kx.rf (h10.2.1)
        have u14 : vk s11 = ((vk s0).1, (vk s0).2) := h10.2.2.1.trans rfl
        have q15 := h10.2.2.2
        show Iv s11 ∧ Kp s0 s11 ∧ vk s11 = ((vk s0).1, (vk s0).2) ∧ (True)
        exact ⟨i12, k13, u14, (trivial)⟩
      · have c8 : ¬ (v1.toInt = 0) := c8
        refine And.intro (Nat.le_of_ble_eq_true rfl) (And.intro ⟨a2, rfl, trivial⟩ ?_)
        intro v16 s18 h17
        have h17 : s18 = s0 ∧ ((v16.toInt = 1 ∧ -30000 ≤ a2.toInt ∧ a2.toInt ≤ 30000) ∨ (v16.toInt = 0 ∧ (a2.toInt < -30000 ∨ 30000 < a2.toInt))) := h17
        have q21 := h17.1.symm
        subst q21
        have q22 := h17.2
        refine And.intro (fun c23 => ?_) (fun c23 => ?_)
        · have c23 : ¬ v16.toInt = 0 := c23
          refine And.intro ⟨by omega, by omega⟩ ?_
          intro v24 e25
          refine And.intro ⟨by omega, by omega⟩ ?_
          intro s26 e27
          have i28 : Iv s26 := Iv.a1 i0 e27 rfl
          have k29 : Kp s0 s26 := Kx.u1 Kx.rf e27 rfl
          have u30 : vk s26 = ((vk s0).1, (vk s0).2) := vk_k1 rfl e27 rfl
          refine And.intro (Nat.le_of_ble_eq_true rfl) (And.intro ⟨55, v24, rfl, by decide, i28⟩ ?_)
          intro v31 s33 h32
          have h32 : Iv s33 ∧ Kp s26 s33 ∧ vk s33 = ((vk s26).1, (vk s26).2) ∧ (v31 = v24 ∧ v31.toInt = v24.toInt) := h32
          have i34 := h32.1
          have k35 : Kp s0 s33 := Kx.tr k29 (h32.2.1)
          have u36 : vk s33 = ((vk s0).1, (vk s0).2) := h32.2.2.1.trans u30
          have q37 := h32.2.2.2
          show Iv s33 ∧ Kp s0 s33 ∧ vk s33 = ((vk s0).1, (vk s0).2) ∧ (True)
          exact ⟨i34, k35, u36, (trivial)⟩
        · have c23 : ¬ (¬ v16.toInt = 0) := c23
          refine And.intro (Nat.le_of_ble_eq_true rfl) (And.intro ⟨55, (Int32.ofInt 1), rfl, by decide, i0⟩ ?_)
          intro v38 s40 h39
          have h39 : Iv s40 ∧ Kp s0 s40 ∧ vk s40 = ((vk s0).1, (vk s0).2) ∧ (v38.toInt = -1) := h39
          have i41 := h39.1
          have k42 : Kp s0 s40 := Kx.tr Kx.rf (h39.2.1)
          have u43 : vk s40 = ((vk s0).1, (vk s0).2) := h39.2.2.1.trans rfl
          have q44 := h39.2.2.2
          show Iv s40 ∧ Kp s0 s40 ∧ vk s40 = ((vk s0).1, (vk s0).2) ∧ (True)
          exact ⟨i41, k42, u43, (trivial)⟩
def o_X11_latest : List vg_I := [(0, .iload_n 2, 1, 0, 0, 0, 0), (1, .ifCond .ge 9, 3, 0, 0, 0, 0), (4, .aload_n 0, 1, 0, 0, 0, 0), (5, .iconst 1, 1, 0, 0, 0, 0), (6, .invokevirtual 242, 3, 0, 11, 1, 1181), (9, .ireturn, 1, 0, 0, 0, 0), (10, .iload_n 1, 1, 0, 0, 0, 0), (11, .invokestatic 261, 3, 1, 1, 1, 1265), (14, .ifCond .ne 9, 3, 0, 0, 0, 0), (17, .aload_n 0, 1, 0, 0, 0, 0), (18, .iconst 2, 1, 0, 0, 0, 0), (19, .invokevirtual 242, 3, 0, 11, 1, 1181), (22, .ireturn, 1, 0, 0, 0, 0), (23, .iload_n 2, 1, 0, 0, 0, 0), (24, .aload_n 0, 1, 0, 0, 0, 0), (25, .iload_n 1, 1, 0, 0, 0, 0), (26, .invokevirtual 267, 3, 2, 11, 1, 1381), (29, .if_icmp .ge 17, 3, 0, 0, 0, 0), (32, .aload_n 0, 1, 0, 0, 0, 0), (33, .aload_n 0, 1, 0, 0, 0, 0), (34, .iload_n 1, 1, 0, 0, 0, 0), (35, .iload_n 2, 1, 0, 0, 0, 0), (36, .invokevirtual 231, 3, 3, 11, 2, 1353), (39, .l2i, 1, 0, 0, 0, 0), (40, .invokevirtual 249, 3, 4, 11, 1, 1206), (43, .goto 8, 3, 0, 0, 0, 0), (46, .aload_n 0, 1, 0, 0, 0, 0), (47, .iconst 5, 1, 0, 0, 0, 0), (48, .invokevirtual 242, 3, 0, 11, 1, 1181), (51, .ireturn, 1, 0, 0, 0, 0)]
set_option maxRecDepth 100000 in
set_option maxHeartbeats 4000000 in
theorem c_X11_latest (l : Launch) (G : vg_G) (hp : vg_Hp G) : vg_Ct l G vg_sh r_X11_latest := by
  refine vg_meth hp vg_sh_ok r_X11_latest k_X11_latest rfl (fun h => by cases h) o_X11_latest [r_X11_refuse, r_X11_isStage, r_X11_many, r_X11_latestOf, r_X11_gives] false (by decide +kernel) (by decide +kernel) ⟨_, _, rfl, rfl⟩ (List.forall_mem_cons.mpr ⟨⟨c_X11_refuse l G hp, Nat.le_of_ble_eq_true rfl, Nat.le_of_ble_eq_true rfl⟩, List.forall_mem_cons.mpr ⟨⟨c_X11_isStage l G hp, Nat.le_of_ble_eq_true rfl, Nat.le_of_ble_eq_true rfl⟩, List.forall_mem_cons.mpr ⟨⟨c_X11_many l G hp, Nat.le_of_ble_eq_true rfl, Nat.le_of_ble_eq_true rfl⟩, List.forall_mem_cons.mpr ⟨⟨c_X11_latestOf l G hp, Nat.le_of_ble_eq_true rfl, Nat.le_of_ble_eq_true rfl⟩, List.forall_mem_cons.mpr ⟨⟨c_X11_gives l G hp, Nat.le_of_ble_eq_true rfl, Nat.le_of_ble_eq_true rfl⟩, fun _ h => absurd h List.not_mem_nil⟩⟩⟩⟩⟩) (fun h => by cases h) 600 ?_
  intro as s0 hpre
  obtain ⟨r, a1, a2, rfl, hr, i0⟩ := hpre
  simp only [List.mem_cons, List.not_mem_nil, or_false] at hr
  rcases hr with rfl
  ·
    have z1 : (Int32.ofInt 1).toInt = 1 := by decide
    have z2 : (Int32.ofInt 2).toInt = 2 := by decide
    have z5 : (Int32.ofInt 5).toInt = 5 := by decide
    refine ⟨Nat.le_of_ble_eq_true rfl, [], ?_, fun _ h => absurd h List.not_mem_nil⟩
    ·
      refine And.intro (fun c1 => ?_) (fun c1 => ?_)
      · have c1 : 0 ≤ a2.toInt := c1
        refine And.intro (Nat.le_of_ble_eq_true rfl) (And.intro ⟨a1, rfl, trivial⟩ ?_)
        intro v2 s4 h3
        have h3 : s4 = s0 ∧ ((v2.toInt = 1 ∧ 0 ≤ a1.toInt ∧ a1.toInt ≤ 6) ∨ (v2.toInt = 0 ∧ (a1.toInt < 0 ∨ 6 < a1.toInt))) := h3
        have q7 := h3.1.symm
        subst q7
        have q8 := h3.2
        refine And.intro (fun c9 => ?_) (fun c9 => ?_)
        · have c9 : ¬ v2.toInt = 0 := c9
          refine And.intro (Nat.le_of_ble_eq_true rfl) (And.intro ⟨55, a1, rfl, by decide, i0, by omega⟩ ?_)
          intro v10 s12 h11
          have h11 : s12 = s0 ∧ (v10.toInt ≤ 48) := h11
          have q15 := h11.1.symm
          subst q15
          have q16 := h11.2
          refine And.intro (fun c17 => ?_) (fun c17 => ?_)
          · have c17 : v10.toInt ≤ a2.toInt := c17
            refine And.intro (Nat.le_of_ble_eq_true rfl) (And.intro ⟨55, (Int32.ofInt 5), rfl, by decide, i0⟩ ?_)
            intro v18 s20 h19
            have h19 : Iv s20 ∧ Kp s0 s20 ∧ vk s20 = ((vk s0).1, (vk s0).2) ∧ (v18.toInt = -1) := h19
            have i21 := h19.1
            have k22 : Kp s0 s20 := Kx.tr Kx.rf (h19.2.1)
            have u23 : vk s20 = ((vk s0).1, (vk s0).2) := h19.2.2.1.trans rfl
            have q24 := h19.2.2.2
            show Iv s20 ∧ Kp s0 s20 ∧ vk s20 = ((vk s0).1, (vk s0).2) ∧ (True)
            exact ⟨i21, k22, u23, (trivial)⟩
          · have c17 : ¬ (v10.toInt ≤ a2.toInt) := c17
            refine And.intro (Nat.le_of_ble_eq_true rfl) (And.intro ⟨55, a1, a2, rfl, by decide, i0, by omega⟩ ?_)
            intro v25 s27 h26
            have h26 : s27 = s0 ∧ (True) := h26
            have q30 := h26.1.symm
            subst q30
            intro v31 e32
            refine And.intro (Nat.le_of_ble_eq_true rfl) (And.intro ⟨55, v31, rfl, by decide, i0⟩ ?_)
            intro v33 s35 h34
            have h34 : Iv s35 ∧ Kp s0 s35 ∧ vk s35 = ((vk s0).1, (vk s0).2) ∧ (v33 = v31 ∧ v33.toInt = v31.toInt) := h34
            have i36 := h34.1
            have k37 : Kp s0 s35 := Kx.tr Kx.rf (h34.2.1)
            have u38 : vk s35 = ((vk s0).1, (vk s0).2) := h34.2.2.1.trans rfl
            have q39 := h34.2.2.2
            show Iv s35 ∧ Kp s0 s35 ∧ vk s35 = ((vk s0).1, (vk s0).2) ∧ (True)
            exact ⟨i36, k37, u38, (trivial)⟩
        · have c9 : ¬ (¬ v2.toInt = 0) := c9
          refine And.intro (Nat.le_of_ble_eq_true rfl) (And.intro ⟨55, (Int32.ofInt 2), rfl, by decide, i0⟩ ?_)
          intro v40 s42 h41
          have h41 : Iv s42 ∧ Kp s0 s42 ∧ vk s42 = ((vk s0).1, (vk s0).2) ∧ (v40.toInt = -1) := h41
          have i43 := h41.1
          have k44 : Kp s0 s42 := Kx.tr Kx.rf (h41.2.1)
          have u45 : vk s42 = ((vk s0).1, (vk s0).2) := h41.2.2.1.trans rfl
          have q46 := h41.2.2.2
          show Iv s42 ∧ Kp s0 s42 ∧ vk s42 = ((vk s0).1, (vk s0).2) ∧ (True)
          exact ⟨i43, k44, u45, (trivial)⟩
      · have c1 : ¬ (0 ≤ a2.toInt) := c1
        refine And.intro (Nat.le_of_ble_eq_true rfl) (And.intro ⟨55, (Int32.ofInt 1), rfl, by decide, i0⟩ ?_)
        intro v47 s49 h48
        have h48 : Iv s49 ∧ Kp s0 s49 ∧ vk s49 = ((vk s0).1, (vk s0).2) ∧ (v47.toInt = -1) := h48
        have i50 := h48.1
        have k51 : Kp s0 s49 := Kx.tr Kx.rf (h48.2.1)
        have u52 : vk s49 = ((vk s0).1, (vk s0).2) := h48.2.2.1.trans rfl
        have q53 := h48.2.2.2
        show Iv s49 ∧ Kp s0 s49 ∧ vk s49 = ((vk s0).1, (vk s0).2) ∧ (True)
        exact ⟨i50, k51, u52, (trivial)⟩
def o_X11_state : List vg_I := [(0, .iload_n 1, 1, 0, 0, 0, 0), (1, .iconst 0, 1, 0, 0, 0, 0), (2, .bipush 13, 2, 0, 0, 0, 0), (4, .invokestatic 76, 3, 0, 1, 3, 1175), (7, .ifCond .ne 9, 3, 0, 0, 0, 0), (10, .aload_n 0, 1, 0, 0, 0, 0), (11, .iconst 1, 1, 0, 0, 0, 0), (12, .invokevirtual 242, 3, 1, 11, 1, 1181), (15, .ireturn, 1, 0, 0, 0, 0), (16, .iload_n 1, 1, 0, 0, 0, 0), (17, .iconst 4, 1, 0, 0, 0, 0), (18, .if_icmp .ge 28, 3, 0, 0, 0, 0), (21, .aload_n 0, 1, 0, 0, 0, 0), (22, .iload_n 1, 1, 0, 0, 0, 0), (23, .aload_n 0, 1, 0, 0, 0, 0), (24, .getfield 20, 3, 1069, 11, 8, 0), (27, .if_icmp .ge 14, 3, 0, 0, 0, 0), (30, .aload_n 0, 1, 0, 0, 0, 0), (31, .bipush 23, 2, 0, 0, 0, 0), (33, .iload_n 1, 1, 0, 0, 0, 0), (34, .iadd, 1, 0, 0, 0, 0), (35, .invokevirtual 110, 3, 2, 11, 1, 1202), (38, .goto 4, 3, 0, 0, 0, 0), (41, .iconst 0, 1, 0, 0, 0, 0), (42, .invokevirtual 249, 3, 3, 11, 1, 1206), (45, .ireturn, 1, 0, 0, 0, 0), (46, .iload_n 1, 1, 0, 0, 0, 0), (47, .tableswitch 137 4 12 #[49, 59, 69, 80, 90, 100, 109, 118, 128], 49, 0, 0, 0, 0), (96, .aload_n 0, 1, 0, 0, 0, 0), (97, .aload_n 0, 1, 0, 0, 0, 0), (98, .iconst 2, 1, 0, 0, 0, 0), (99, .invokevirtual 110, 3, 2, 11, 1, 1202), (102, .invokevirtual 249, 3, 3, 11, 1, 1206), (105, .ireturn, 1, 0, 0, 0, 0), (106, .aload_n 0, 1, 0, 0, 0, 0), (107, .aload_n 0, 1, 0, 0, 0, 0), (108, .iconst 1, 1, 0, 0, 0, 0), (109, .invokevirtual 110, 3, 2, 11, 1, 1202), (112, .invokevirtual 249, 3, 3, 11, 1, 1206), (115, .ireturn, 1, 0, 0, 0, 0), (116, .aload_n 0, 1, 0, 0, 0, 0), (117, .aload_n 0, 1, 0, 0, 0, 0), (118, .bipush 10, 2, 0, 0, 0, 0), (120, .invokevirtual 110, 3, 2, 11, 1, 1202), (123, .invokevirtual 249, 3, 3, 11, 1, 1206), (126, .ireturn, 1, 0, 0, 0, 0), (127, .aload_n 0, 1, 0, 0, 0, 0), (128, .aload_n 0, 1, 0, 0, 0, 0), (129, .iconst 3, 1, 0, 0, 0, 0), (130, .invokevirtual 110, 3, 2, 11, 1, 1202), (133, .invokevirtual 249, 3, 3, 11, 1, 1206), (136, .ireturn, 1, 0, 0, 0, 0), (137, .aload_n 0, 1, 0, 0, 0, 0), (138, .aload_n 0, 1, 0, 0, 0, 0), (139, .iconst 4, 1, 0, 0, 0, 0), (140, .invokevirtual 110, 3, 2, 11, 1, 1202), (143, .invokevirtual 249, 3, 3, 11, 1, 1206), (146, .ireturn, 1, 0, 0, 0, 0), (147, .aload_n 0, 1, 0, 0, 0, 0), (148, .aload_n 0, 1, 0, 0, 0, 0), (149, .invokevirtual 102, 3, 4, 11, 0, 1218), (152, .invokevirtual 249, 3, 3, 11, 1, 1206), (155, .ireturn, 1, 0, 0, 0, 0), (156, .aload_n 0, 1, 0, 0, 0, 0), (157, .aload_n 0, 1, 0, 0, 0, 0), (158, .getfield 164, 3, 1076, 11, 15, 0), (161, .invokevirtual 249, 3, 3, 11, 1, 1206), (164, .ireturn, 1, 0, 0, 0, 0), (165, .aload_n 0, 1, 0, 0, 0, 0), (166, .aload_n 0, 1, 0, 0, 0, 0), (167, .iconst 0, 1, 0, 0, 0, 0), (168, .invokevirtual 110, 3, 2, 11, 1, 1202), (171, .invokevirtual 249, 3, 3, 11, 1, 1206), (174, .ireturn, 1, 0, 0, 0, 0), (175, .aload_n 0, 1, 0, 0, 0, 0), (176, .aload_n 0, 1, 0, 0, 0, 0), (177, .getfield 228, 3, 1081, 11, 20, 0), (180, .invokevirtual 249, 3, 3, 11, 1, 1206), (183, .ireturn, 1, 0, 0, 0, 0), (184, .aload_n 0, 1, 0, 0, 0, 0), (185, .aload_n 0, 1, 0, 0, 0, 0), (186, .getfield 252, 3, 1094, 11, 33, 0), (189, .invokevirtual 249, 3, 3, 11, 1, 1206), (192, .ireturn, 1, 0, 0, 0, 0)]
set_option maxRecDepth 100000 in
set_option maxHeartbeats 4000000 in
theorem c_X11_state (l : Launch) (G : vg_G) (hp : vg_Hp G) : vg_Ct l G vg_sh r_X11_state := by
  refine vg_meth hp vg_sh_ok r_X11_state k_X11_state rfl (fun h => by cases h) o_X11_state [r_X11_isFrom, r_X11_refuse, r_X11_get, r_X11_gives, r_X11_elements] false (by decide +kernel) (by decide +kernel) ⟨_, _, rfl, rfl⟩ (List.forall_mem_cons.mpr ⟨⟨c_X11_isFrom l G hp, Nat.le_of_ble_eq_true rfl, Nat.le_of_ble_eq_true rfl⟩, List.forall_mem_cons.mpr ⟨⟨c_X11_refuse l G hp, Nat.le_of_ble_eq_true rfl, Nat.le_of_ble_eq_true rfl⟩, List.forall_mem_cons.mpr ⟨⟨c_X11_get l G hp, Nat.le_of_ble_eq_true rfl, Nat.le_of_ble_eq_true rfl⟩, List.forall_mem_cons.mpr ⟨⟨c_X11_gives l G hp, Nat.le_of_ble_eq_true rfl, Nat.le_of_ble_eq_true rfl⟩, List.forall_mem_cons.mpr ⟨⟨c_X11_elements l G hp, Nat.le_of_ble_eq_true rfl, Nat.le_of_ble_eq_true rfl⟩, fun _ h => absurd h List.not_mem_nil⟩⟩⟩⟩⟩) (fun h => by cases h) 600 ?_
  intro as s0 hpre
  obtain ⟨r, a1, rfl, hr, i0⟩ := hpre
  simp only [List.mem_cons, List.not_mem_nil, or_false] at hr
  rcases hr with rfl
  ·
    have z0 : (Int32.ofInt 0).toInt = 0 := by decide
    have z1 : (Int32.ofInt 1).toInt = 1 := by decide
    have z2 : (Int32.ofInt 2).toInt = 2 := by decide
    have z3 : (Int32.ofInt 3).toInt = 3 := by decide
    have z4 : (Int32.ofInt 4).toInt = 4 := by decide
    have z10 : (Int32.ofInt 10).toInt = 10 := by decide
    have z13 : (Int32.ofInt 13).toInt = 13 := by decide
    have z23 : (Int32.ofInt 23).toInt = 23 := by decide
    refine ⟨Nat.le_of_ble_eq_true rfl, [], ?_, fun _ h => absurd h List.not_mem_nil⟩
    ·
      refine And.intro (Nat.le_of_ble_eq_true rfl) (And.intro ⟨a1, (Int32.ofInt 0), (Int32.ofInt 13), rfl, trivial⟩ ?_)
      intro v1 s3 h2
      have h2 : s3 = s0 ∧ ((v1.toInt = 1 ∧ (Int32.ofInt 0).toInt ≤ a1.toInt ∧ a1.toInt ≤ (Int32.ofInt 13).toInt) ∨ (v1.toInt = 0 ∧ (a1.toInt < (Int32.ofInt 0).toInt ∨ (Int32.ofInt 13).toInt < a1.toInt))) := h2
      have q6 := h2.1.symm
      subst q6
      have q7 := h2.2
      refine And.intro (fun c8 => ?_) (fun c8 => ?_)
      · have c8 : ¬ v1.toInt = 0 := c8
        refine And.intro (fun c9 => ?_) (fun c9 => ?_)
        · have c9 : (Int32.ofInt 4).toInt ≤ a1.toInt := c9
          refine And.intro (fun c10 => ?_) ?_
          · have c10 : a1.toInt < (4) ∨ (12) < a1.toInt := c10
            intro v11 e12
            have g13 : s0.1 55 33 = v11 := by rw [e12]
            have b14 : (0 : Int) ≤ v11.toInt ∧ v11.toInt ≤ 12 := by rw [e12]; exact Iv_55_33 i0
            refine And.intro (Nat.le_of_ble_eq_true rfl) (And.intro ⟨55, v11, rfl, by decide, i0⟩ ?_)
            intro v15 s17 h16
            have h16 : Iv s17 ∧ Kp s0 s17 ∧ vk s17 = ((vk s0).1, (vk s0).2) ∧ (v15 = v11 ∧ v15.toInt = v11.toInt) := h16
            have i18 := h16.1
            have k19 : Kp s0 s17 := Kx.tr Kx.rf (h16.2.1)
            have u20 : vk s17 = ((vk s0).1, (vk s0).2) := h16.2.2.1.trans rfl
            have q21 := h16.2.2.2
            show Iv s17 ∧ Kp s0 s17 ∧ vk s17 = ((vk s0).1, (vk s0).2) ∧ (True)
            exact ⟨i18, k19, u20, (trivial)⟩
          refine And.intro (fun c22 => ?_) ?_
          · have c22 : a1.toInt = (4) := c22
            refine And.intro (Nat.le_of_ble_eq_true rfl) (And.intro ⟨55, (Int32.ofInt 2), rfl, by decide, i0, by omega⟩ ?_)
            intro v23 s25 h24
            have h24 : s25 = s0 ∧ (v23 = (s0.2 56 (Int32.ofInt 2).toNatClampNeg).toInt32) := h24
            have q28 := h24.1.symm
            subst q28
            have q29 := h24.2
            refine And.intro (Nat.le_of_ble_eq_true rfl) (And.intro ⟨55, v23, rfl, by decide, i0⟩ ?_)
            intro v30 s32 h31
            have h31 : Iv s32 ∧ Kp s0 s32 ∧ vk s32 = ((vk s0).1, (vk s0).2) ∧ (v30 = v23 ∧ v30.toInt = v23.toInt) := h31
            have i33 := h31.1
            have k34 : Kp s0 s32 := Kx.tr Kx.rf (h31.2.1)
            have u35 : vk s32 = ((vk s0).1, (vk s0).2) := h31.2.2.1.trans rfl
            have q36 := h31.2.2.2
            show Iv s32 ∧ Kp s0 s32 ∧ vk s32 = ((vk s0).1, (vk s0).2) ∧ (True)
            exact ⟨i33, k34, u35, (trivial)⟩
          refine And.intro (fun c37 => ?_) ?_
          · have c37 : a1.toInt = (5) := c37
            refine And.intro (Nat.le_of_ble_eq_true rfl) (And.intro ⟨55, (Int32.ofInt 1), rfl, by decide, i0, by omega⟩ ?_)
            intro v38 s40 h39
            have h39 : s40 = s0 ∧ (v38 = (s0.2 56 (Int32.ofInt 1).toNatClampNeg).toInt32) := h39
            have q43 := h39.1.symm
            subst q43
            have q44 := h39.2
            refine And.intro (Nat.le_of_ble_eq_true rfl) (And.intro ⟨55, v38, rfl, by decide, i0⟩ ?_)
            intro v45 s47 h46
            have h46 : Iv s47 ∧ Kp s0 s47 ∧ vk s47 = ((vk s0).1, (vk s0).2) ∧ (v45 = v38 ∧ v45.toInt = v38.toInt) := h46
            have i48 := h46.1
            have k49 : Kp s0 s47 := Kx.tr Kx.rf (h46.2.1)
            have u50 : vk s47 = ((vk s0).1, (vk s0).2) := h46.2.2.1.trans rfl
            have q51 := h46.2.2.2
            show Iv s47 ∧ Kp s0 s47 ∧ vk s47 = ((vk s0).1, (vk s0).2) ∧ (True)
            exact ⟨i48, k49, u50, (trivial)⟩
          refine And.intro (fun c52 => ?_) ?_
          · have c52 : a1.toInt = (6) := c52
            refine And.intro (Nat.le_of_ble_eq_true rfl) (And.intro ⟨55, (Int32.ofInt 10), rfl, by decide, i0, by omega⟩ ?_)
            intro v53 s55 h54
            have h54 : s55 = s0 ∧ (v53 = (s0.2 56 (Int32.ofInt 10).toNatClampNeg).toInt32) := h54
            have q58 := h54.1.symm
            subst q58
            have q59 := h54.2
            refine And.intro (Nat.le_of_ble_eq_true rfl) (And.intro ⟨55, v53, rfl, by decide, i0⟩ ?_)
            intro v60 s62 h61
            have h61 : Iv s62 ∧ Kp s0 s62 ∧ vk s62 = ((vk s0).1, (vk s0).2) ∧ (v60 = v53 ∧ v60.toInt = v53.toInt) := h61
            have i63 := h61.1
            have k64 : Kp s0 s62 := Kx.tr Kx.rf (h61.2.1)
            have u65 : vk s62 = ((vk s0).1, (vk s0).2) := h61.2.2.1.trans rfl
            have q66 := h61.2.2.2
            show Iv s62 ∧ Kp s0 s62 ∧ vk s62 = ((vk s0).1, (vk s0).2) ∧ (True)
            exact ⟨i63, k64, u65, (trivial)⟩
          refine And.intro (fun c67 => ?_) ?_
          · have c67 : a1.toInt = (7) := c67
            refine And.intro (Nat.le_of_ble_eq_true rfl) (And.intro ⟨55, (Int32.ofInt 3), rfl, by decide, i0, by omega⟩ ?_)
            intro v68 s70 h69
            have h69 : s70 = s0 ∧ (v68 = (s0.2 56 (Int32.ofInt 3).toNatClampNeg).toInt32) := h69
            have q73 := h69.1.symm
            subst q73
            have q74 := h69.2
            refine And.intro (Nat.le_of_ble_eq_true rfl) (And.intro ⟨55, v68, rfl, by decide, i0⟩ ?_)
            intro v75 s77 h76
            have h76 : Iv s77 ∧ Kp s0 s77 ∧ vk s77 = ((vk s0).1, (vk s0).2) ∧ (v75 = v68 ∧ v75.toInt = v68.toInt) := h76
            have i78 := h76.1
            have k79 : Kp s0 s77 := Kx.tr Kx.rf (h76.2.1)
            have u80 : vk s77 = ((vk s0).1, (vk s0).2) := h76.2.2.1.trans rfl
            have q81 := h76.2.2.2
            show Iv s77 ∧ Kp s0 s77 ∧ vk s77 = ((vk s0).1, (vk s0).2) ∧ (True)
            exact ⟨i78, k79, u80, (trivial)⟩
          refine And.intro (fun c82 => ?_) ?_
          · have c82 : a1.toInt = (8) := c82
            refine And.intro (Nat.le_of_ble_eq_true rfl) (And.intro ⟨55, (Int32.ofInt 4), rfl, by decide, i0, by omega⟩ ?_)
            intro v83 s85 h84
            have h84 : s85 = s0 ∧ (v83 = (s0.2 56 (Int32.ofInt 4).toNatClampNeg).toInt32) := h84
            have q88 := h84.1.symm
            subst q88
            have q89 := h84.2
            refine And.intro (Nat.le_of_ble_eq_true rfl) (And.intro ⟨55, v83, rfl, by decide, i0⟩ ?_)
            intro v90 s92 h91
            have h91 : Iv s92 ∧ Kp s0 s92 ∧ vk s92 = ((vk s0).1, (vk s0).2) ∧ (v90 = v83 ∧ v90.toInt = v83.toInt) := h91
            have i93 := h91.1
            have k94 : Kp s0 s92 := Kx.tr Kx.rf (h91.2.1)
            have u95 : vk s92 = ((vk s0).1, (vk s0).2) := h91.2.2.1.trans rfl
            have q96 := h91.2.2.2
            show Iv s92 ∧ Kp s0 s92 ∧ vk s92 = ((vk s0).1, (vk s0).2) ∧ (True)
            exact ⟨i93, k94, u95, (trivial)⟩
          refine And.intro (fun c97 => ?_) ?_
          · have c97 : a1.toInt = (9) := c97
            refine And.intro (Nat.le_of_ble_eq_true rfl) (And.intro ⟨55, rfl, by decide, i0⟩ ?_)
            intro v98 s100 h99
            have h99 : s100 = s0 ∧ (v98 = vg_me s0 ∧ 1 ≤ v98.toInt ∧ v98.toInt ≤ 16) := h99
            have q103 := h99.1.symm
            subst q103
            have q104 := h99.2
            refine And.intro (Nat.le_of_ble_eq_true rfl) (And.intro ⟨55, v98, rfl, by decide, i0⟩ ?_)
            intro v105 s107 h106
            have h106 : Iv s107 ∧ Kp s0 s107 ∧ vk s107 = ((vk s0).1, (vk s0).2) ∧ (v105 = v98 ∧ v105.toInt = v98.toInt) := h106
            have i108 := h106.1
            have k109 : Kp s0 s107 := Kx.tr Kx.rf (h106.2.1)
            have u110 : vk s107 = ((vk s0).1, (vk s0).2) := h106.2.2.1.trans rfl
            have q111 := h106.2.2.2
            show Iv s107 ∧ Kp s0 s107 ∧ vk s107 = ((vk s0).1, (vk s0).2) ∧ (True)
            exact ⟨i108, k109, u110, (trivial)⟩
          refine And.intro (fun c112 => ?_) ?_
          · have c112 : a1.toInt = (10) := c112
            intro v113 e114
            have g115 : s0.1 55 15 = v113 := by rw [e114]
            refine And.intro (Nat.le_of_ble_eq_true rfl) (And.intro ⟨55, v113, rfl, by decide, i0⟩ ?_)
            intro v116 s118 h117
            have h117 : Iv s118 ∧ Kp s0 s118 ∧ vk s118 = ((vk s0).1, (vk s0).2) ∧ (v116 = v113 ∧ v116.toInt = v113.toInt) := h117
            have i119 := h117.1
            have k120 : Kp s0 s118 := Kx.tr Kx.rf (h117.2.1)
            have u121 : vk s118 = ((vk s0).1, (vk s0).2) := h117.2.2.1.trans rfl
            have q122 := h117.2.2.2
            show Iv s118 ∧ Kp s0 s118 ∧ vk s118 = ((vk s0).1, (vk s0).2) ∧ (True)
            exact ⟨i119, k120, u121, (trivial)⟩
          refine And.intro (fun c123 => ?_) ?_
          · have c123 : a1.toInt = (11) := c123
            refine And.intro (Nat.le_of_ble_eq_true rfl) (And.intro ⟨55, (Int32.ofInt 0), rfl, by decide, i0, by omega⟩ ?_)
            intro v124 s126 h125
            have h125 : s126 = s0 ∧ (v124 = (s0.2 56 (Int32.ofInt 0).toNatClampNeg).toInt32) := h125
            have q129 := h125.1.symm
            subst q129
            have q130 := h125.2
            refine And.intro (Nat.le_of_ble_eq_true rfl) (And.intro ⟨55, v124, rfl, by decide, i0⟩ ?_)
            intro v131 s133 h132
            have h132 : Iv s133 ∧ Kp s0 s133 ∧ vk s133 = ((vk s0).1, (vk s0).2) ∧ (v131 = v124 ∧ v131.toInt = v124.toInt) := h132
            have i134 := h132.1
            have k135 : Kp s0 s133 := Kx.tr Kx.rf (h132.2.1)
            have u136 : vk s133 = ((vk s0).1, (vk s0).2) := h132.2.2.1.trans rfl
            have q137 := h132.2.2.2
            show Iv s133 ∧ Kp s0 s133 ∧ vk s133 = ((vk s0).1, (vk s0).2) ∧ (True)
            exact ⟨i134, k135, u136, (trivial)⟩
          refine And.intro (fun c138 => ?_) ?_
          · have c138 : a1.toInt = (12) := c138
            intro v139 e140
            have g141 : s0.1 55 20 = v139 := by rw [e140]
            have b142 : (0 : Int) ≤ v139.toInt ∧ v139.toInt ≤ 3 := by rw [e140]; exact Iv_55_20 i0
            refine And.intro (Nat.le_of_ble_eq_true rfl) (And.intro ⟨55, v139, rfl, by decide, i0⟩ ?_)
            intro v143 s145 h144
            have h144 : Iv s145 ∧ Kp s0 s145 ∧ vk s145 = ((vk s0).1, (vk s0).2) ∧ (v143 = v139 ∧ v143.toInt = v139.toInt) := h144
            have i146 := h144.1
            have k147 : Kp s0 s145 := Kx.tr Kx.rf (h144.2.1)
            have u148 : vk s145 = ((vk s0).1, (vk s0).2) := h144.2.2.1.trans rfl
            have q149 := h144.2.2.2
            show Iv s145 ∧ Kp s0 s145 ∧ vk s145 = ((vk s0).1, (vk s0).2) ∧ (True)
            exact ⟨i146, k147, u148, (trivial)⟩
          exact trivial
        · have c9 : ¬ ((Int32.ofInt 4).toInt ≤ a1.toInt) := c9
          intro v150 e151
          have g152 : s0.1 55 8 = v150 := by rw [e151]
          have b153 : (1 : Int) ≤ v150.toInt ∧ v150.toInt ≤ 4 := by rw [e151]; exact Iv_55_8 i0
          refine And.intro (fun c154 => ?_) (fun c154 => ?_)
          · have c154 : v150.toInt ≤ a1.toInt := c154
            refine And.intro (Nat.le_of_ble_eq_true rfl) (And.intro ⟨55, (Int32.ofInt 0), rfl, by decide, i0⟩ ?_)
            intro v155 s157 h156
            have h156 : Iv s157 ∧ Kp s0 s157 ∧ vk s157 = ((vk s0).1, (vk s0).2) ∧ (v155 = (Int32.ofInt 0) ∧ v155.toInt = (Int32.ofInt 0).toInt) := h156
            have i158 := h156.1
            have k159 : Kp s0 s157 := Kx.tr Kx.rf (h156.2.1)
            have u160 : vk s157 = ((vk s0).1, (vk s0).2) := h156.2.2.1.trans rfl
            have q161 := h156.2.2.2
            show Iv s157 ∧ Kp s0 s157 ∧ vk s157 = ((vk s0).1, (vk s0).2) ∧ (True)
            exact ⟨i158, k159, u160, (trivial)⟩
          · have c154 : ¬ (v150.toInt ≤ a1.toInt) := c154
            intro v162 e163
            have b164 := vg_add e163 (by omega) (by omega)
            refine And.intro (Nat.le_of_ble_eq_true rfl) (And.intro ⟨55, v162, rfl, by decide, i0, by omega⟩ ?_)
            intro v165 s167 h166
            have h166 : s167 = s0 ∧ (v165 = (s0.2 56 v162.toNatClampNeg).toInt32) := h166
            have q170 := h166.1.symm
            subst q170
            have q171 := h166.2
            refine And.intro (Nat.le_of_ble_eq_true rfl) (And.intro ⟨55, v165, rfl, by decide, i0⟩ ?_)
            intro v172 s174 h173
            have h173 : Iv s174 ∧ Kp s0 s174 ∧ vk s174 = ((vk s0).1, (vk s0).2) ∧ (v172 = v165 ∧ v172.toInt = v165.toInt) := h173
            have i175 := h173.1
            have k176 : Kp s0 s174 := Kx.tr Kx.rf (h173.2.1)
            have u177 : vk s174 = ((vk s0).1, (vk s0).2) := h173.2.2.1.trans rfl
            have q178 := h173.2.2.2
            show Iv s174 ∧ Kp s0 s174 ∧ vk s174 = ((vk s0).1, (vk s0).2) ∧ (True)
            exact ⟨i175, k176, u177, (trivial)⟩
      · have c8 : ¬ (¬ v1.toInt = 0) := c8
        refine And.intro (Nat.le_of_ble_eq_true rfl) (And.intro ⟨55, (Int32.ofInt 1), rfl, by decide, i0⟩ ?_)
        intro v179 s181 h180
        have h180 : Iv s181 ∧ Kp s0 s181 ∧ vk s181 = ((vk s0).1, (vk s0).2) ∧ (v179.toInt = -1) := h180
        have i182 := h180.1
        have k183 : Kp s0 s181 := Kx.tr Kx.rf (h180.2.1)
        have u184 : vk s181 = ((vk s0).1, (vk s0).2) := h180.2.2.1.trans rfl
        have q185 := h180.2.2.2
        show Iv s181 ∧ Kp s0 s181 ∧ vk s181 = ((vk s0).1, (vk s0).2) ∧ (True)
        exact ⟨i182, k183, u184, (trivial)⟩
def o_X11_sum : List vg_I := [(0, .iload_n 1, 1, 0, 0, 0, 0), (1, .tableswitch 110 0 5 #[39, 51, 63, 75, 86, 98], 39, 0, 0, 0, 0), (40, .aload_n 0, 1, 0, 0, 0, 0), (41, .aload_n 0, 1, 0, 0, 0, 0), (42, .getfield 7, 3, 1061, 11, 0, 0), (45, .bipush 6, 2, 0, 0, 0, 0), (47, .laload, 1, 0, 0, 0, 0), (48, .invokevirtual 270, 3, 0, 11, 1, 1393), (51, .lreturn, 1, 0, 0, 0, 0), (52, .aload_n 0, 1, 0, 0, 0, 0), (53, .aload_n 0, 1, 0, 0, 0, 0), (54, .getfield 7, 3, 1061, 11, 0, 0), (57, .bipush 7, 2, 0, 0, 0, 0), (59, .laload, 1, 0, 0, 0, 0), (60, .invokevirtual 270, 3, 0, 11, 1, 1393), (63, .lreturn, 1, 0, 0, 0, 0), (64, .aload_n 0, 1, 0, 0, 0, 0), (65, .aload_n 0, 1, 0, 0, 0, 0), (66, .getfield 7, 3, 1061, 11, 0, 0), (69, .bipush 8, 2, 0, 0, 0, 0), (71, .laload, 1, 0, 0, 0, 0), (72, .invokevirtual 270, 3, 0, 11, 1, 1393), (75, .lreturn, 1, 0, 0, 0, 0), (76, .aload_n 0, 1, 0, 0, 0, 0), (77, .aload_n 0, 1, 0, 0, 0, 0), (78, .getfield 7, 3, 1061, 11, 0, 0), (81, .iconst 5, 1, 0, 0, 0, 0), (82, .laload, 1, 0, 0, 0, 0), (83, .invokevirtual 270, 3, 0, 11, 1, 1393), (86, .lreturn, 1, 0, 0, 0, 0), (87, .aload_n 0, 1, 0, 0, 0, 0), (88, .aload_n 0, 1, 0, 0, 0, 0), (89, .getfield 7, 3, 1061, 11, 0, 0), (92, .bipush 11, 2, 0, 0, 0, 0), (94, .laload, 1, 0, 0, 0, 0), (95, .invokevirtual 270, 3, 0, 11, 1, 1393), (98, .lreturn, 1, 0, 0, 0, 0), (99, .aload_n 0, 1, 0, 0, 0, 0), (100, .aload_n 0, 1, 0, 0, 0, 0), (101, .getfield 7, 3, 1061, 11, 0, 0), (104, .bipush 12, 2, 0, 0, 0, 0), (106, .laload, 1, 0, 0, 0, 0), (107, .invokevirtual 270, 3, 0, 11, 1, 1393), (110, .lreturn, 1, 0, 0, 0, 0), (111, .aload_n 0, 1, 0, 0, 0, 0), (112, .iconst 1, 1, 0, 0, 0, 0), (113, .invokevirtual 242, 3, 1, 11, 1, 1181), (116, .i2l, 1, 0, 0, 0, 0), (117, .lreturn, 1, 0, 0, 0, 0)]
set_option maxRecDepth 100000 in
set_option maxHeartbeats 4000000 in
theorem c_X11_sum (l : Launch) (G : vg_G) (hp : vg_Hp G) : vg_Ct l G vg_sh r_X11_sum := by
  refine vg_meth hp vg_sh_ok r_X11_sum k_X11_sum rfl (fun h => by cases h) o_X11_sum [r_X11_givesLong, r_X11_refuse] false (by decide +kernel) (by decide +kernel) ⟨_, _, rfl, rfl⟩ (List.forall_mem_cons.mpr ⟨⟨c_X11_givesLong l G hp, Nat.le_of_ble_eq_true rfl, Nat.le_of_ble_eq_true rfl⟩, List.forall_mem_cons.mpr ⟨⟨c_X11_refuse l G hp, Nat.le_of_ble_eq_true rfl, Nat.le_of_ble_eq_true rfl⟩, fun _ h => absurd h List.not_mem_nil⟩⟩) (fun h => by cases h) 600 ?_
  intro as s0 hpre
  obtain ⟨r, a1, rfl, hr, i0⟩ := hpre
  simp only [List.mem_cons, List.not_mem_nil, or_false] at hr
  rcases hr with rfl
  ·
    have z1 : (Int32.ofInt 1).toInt = 1 := by decide
    have z5 : (Int32.ofInt 5).toInt = 5 := by decide
    have z6 : (Int32.ofInt 6).toInt = 6 := by decide
    have z7 : (Int32.ofInt 7).toInt = 7 := by decide
    have z8 : (Int32.ofInt 8).toInt = 8 := by decide
    have z11 : (Int32.ofInt 11).toInt = 11 := by decide
    have z12 : (Int32.ofInt 12).toInt = 12 := by decide
    refine ⟨Nat.le_of_ble_eq_true rfl, [], ?_, fun _ h => absurd h List.not_mem_nil⟩
    ·
      refine And.intro (fun c1 => ?_) ?_
      · have c1 : a1.toInt < (0) ∨ (5) < a1.toInt := c1
        refine And.intro (Nat.le_of_ble_eq_true rfl) (And.intro ⟨55, (Int32.ofInt 1), rfl, by decide, i0⟩ ?_)
        intro v2 s4 h3
        have h3 : Iv s4 ∧ Kp s0 s4 ∧ vk s4 = ((vk s0).1, (vk s0).2) ∧ (v2.toInt = -1) := h3
        have i5 := h3.1
        have k6 : Kp s0 s4 := Kx.tr Kx.rf (h3.2.1)
        have u7 : vk s4 = ((vk s0).1, (vk s0).2) := h3.2.2.1.trans rfl
        have q8 := h3.2.2.2
        intro v9 e10
        show Iv s4 ∧ Kp s0 s4 ∧ vk s4 = ((vk s0).1, (vk s0).2) ∧ (True)
        exact ⟨i5, k6, u7, (trivial)⟩
      refine And.intro (fun c11 => ?_) ?_
      · have c11 : a1.toInt = (0) := c11
        refine And.intro ⟨by omega, by omega⟩ ?_
        intro v12 e13
        refine And.intro (Nat.le_of_ble_eq_true rfl) (And.intro ⟨55, v12, rfl, by decide, i0⟩ ?_)
        intro v14 s16 h15
        have h15 : Iv s16 ∧ Kp s0 s16 ∧ vk s16 = ((vk s0).1, (vk s0).2) ∧ (v14 = v12) := h15
        have i17 := h15.1
        have k18 : Kp s0 s16 := Kx.tr Kx.rf (h15.2.1)
        have u19 : vk s16 = ((vk s0).1, (vk s0).2) := h15.2.2.1.trans rfl
        have q20 := h15.2.2.2
        show Iv s16 ∧ Kp s0 s16 ∧ vk s16 = ((vk s0).1, (vk s0).2) ∧ (True)
        exact ⟨i17, k18, u19, (trivial)⟩
      refine And.intro (fun c21 => ?_) ?_
      · have c21 : a1.toInt = (1) := c21
        refine And.intro ⟨by omega, by omega⟩ ?_
        intro v22 e23
        refine And.intro (Nat.le_of_ble_eq_true rfl) (And.intro ⟨55, v22, rfl, by decide, i0⟩ ?_)
        intro v24 s26 h25
        have h25 : Iv s26 ∧ Kp s0 s26 ∧ vk s26 = ((vk s0).1, (vk s0).2) ∧ (v24 = v22) := h25
        have i27 := h25.1
        have k28 : Kp s0 s26 := Kx.tr Kx.rf (h25.2.1)
        have u29 : vk s26 = ((vk s0).1, (vk s0).2) := h25.2.2.1.trans rfl
        have q30 := h25.2.2.2
        show Iv s26 ∧ Kp s0 s26 ∧ vk s26 = ((vk s0).1, (vk s0).2) ∧ (True)
        exact ⟨i27, k28, u29, (trivial)⟩
      refine And.intro (fun c31 => ?_) ?_
      · have c31 : a1.toInt = (2) := c31
        refine And.intro ⟨by omega, by omega⟩ ?_
        intro v32 e33
        refine And.intro (Nat.le_of_ble_eq_true rfl) (And.intro ⟨55, v32, rfl, by decide, i0⟩ ?_)
        intro v34 s36 h35
        have h35 : Iv s36 ∧ Kp s0 s36 ∧ vk s36 = ((vk s0).1, (vk s0).2) ∧ (v34 = v32) := h35
        have i37 := h35.1
        have k38 : Kp s0 s36 := Kx.tr Kx.rf (h35.2.1)
        have u39 : vk s36 = ((vk s0).1, (vk s0).2) := h35.2.2.1.trans rfl
        have q40 := h35.2.2.2
        show Iv s36 ∧ Kp s0 s36 ∧ vk s36 = ((vk s0).1, (vk s0).2) ∧ (True)
        exact ⟨i37, k38, u39, (trivial)⟩
      refine And.intro (fun c41 => ?_) ?_
      · have c41 : a1.toInt = (3) := c41
        refine And.intro ⟨by omega, by omega⟩ ?_
        intro v42 e43
        refine And.intro (Nat.le_of_ble_eq_true rfl) (And.intro ⟨55, v42, rfl, by decide, i0⟩ ?_)
        intro v44 s46 h45
        have h45 : Iv s46 ∧ Kp s0 s46 ∧ vk s46 = ((vk s0).1, (vk s0).2) ∧ (v44 = v42) := h45
        have i47 := h45.1
        have k48 : Kp s0 s46 := Kx.tr Kx.rf (h45.2.1)
        have u49 : vk s46 = ((vk s0).1, (vk s0).2) := h45.2.2.1.trans rfl
        have q50 := h45.2.2.2
        show Iv s46 ∧ Kp s0 s46 ∧ vk s46 = ((vk s0).1, (vk s0).2) ∧ (True)
        exact ⟨i47, k48, u49, (trivial)⟩
      refine And.intro (fun c51 => ?_) ?_
      · have c51 : a1.toInt = (4) := c51
        refine And.intro ⟨by omega, by omega⟩ ?_
        intro v52 e53
        refine And.intro (Nat.le_of_ble_eq_true rfl) (And.intro ⟨55, v52, rfl, by decide, i0⟩ ?_)
        intro v54 s56 h55
        have h55 : Iv s56 ∧ Kp s0 s56 ∧ vk s56 = ((vk s0).1, (vk s0).2) ∧ (v54 = v52) := h55
        have i57 := h55.1
        have k58 : Kp s0 s56 := Kx.tr Kx.rf (h55.2.1)
        have u59 : vk s56 = ((vk s0).1, (vk s0).2) := h55.2.2.1.trans rfl
        have q60 := h55.2.2.2
        show Iv s56 ∧ Kp s0 s56 ∧ vk s56 = ((vk s0).1, (vk s0).2) ∧ (True)
        exact ⟨i57, k58, u59, (trivial)⟩
      refine And.intro (fun c61 => ?_) ?_
      · have c61 : a1.toInt = (5) := c61
        refine And.intro ⟨by omega, by omega⟩ ?_
        intro v62 e63
        refine And.intro (Nat.le_of_ble_eq_true rfl) (And.intro ⟨55, v62, rfl, by decide, i0⟩ ?_)
        intro v64 s66 h65
        have h65 : Iv s66 ∧ Kp s0 s66 ∧ vk s66 = ((vk s0).1, (vk s0).2) ∧ (v64 = v62) := h65
        have i67 := h65.1
        have k68 : Kp s0 s66 := Kx.tr Kx.rf (h65.2.1)
        have u69 : vk s66 = ((vk s0).1, (vk s0).2) := h65.2.2.1.trans rfl
        have q70 := h65.2.2.2
        show Iv s66 ∧ Kp s0 s66 ∧ vk s66 = ((vk s0).1, (vk s0).2) ∧ (True)
        exact ⟨i67, k68, u69, (trivial)⟩
      exact trivial
def o_X11_element : List vg_I := [(0, .iload_n 2, 1, 0, 0, 0, 0), (1, .iconst 0, 1, 0, 0, 0, 0), (2, .iconst 4, 1, 0, 0, 0, 0), (3, .invokestatic 76, 3, 0, 1, 3, 1175), (6, .ifCond .ne 9, 3, 0, 0, 0, 0), (9, .aload_n 0, 1, 0, 0, 0, 0), (10, .iconst 1, 1, 0, 0, 0, 0), (11, .invokevirtual 242, 3, 1, 11, 1, 1181), (14, .ireturn, 1, 0, 0, 0, 0), (15, .iload_n 1, 1, 0, 0, 0, 0), (16, .iconst 0, 1, 0, 0, 0, 0), (17, .aload_n 0, 1, 0, 0, 0, 0), (18, .invokevirtual 102, 3, 2, 11, 0, 1218), (21, .iconst 1, 1, 0, 0, 0, 0), (22, .isub, 1, 0, 0, 0, 0), (23, .invokestatic 76, 3, 0, 1, 3, 1175), (26, .ifCond .ne 9, 3, 0, 0, 0, 0), (29, .aload_n 0, 1, 0, 0, 0, 0), (30, .iconst 2, 1, 0, 0, 0, 0), (31, .invokevirtual 242, 3, 1, 11, 1, 1181), (34, .ireturn, 1, 0, 0, 0, 0), (35, .iload_n 2, 1, 0, 0, 0, 0), (36, .tableswitch 81 0 3 #[32, 42, 55, 68], 32, 0, 0, 0, 0), (68, .aload_n 0, 1, 0, 0, 0, 0), (69, .aload_n 0, 1, 0, 0, 0, 0), (70, .iload_n 1, 1, 0, 0, 0, 0), (71, .invokevirtual 106, 3, 3, 11, 1, 1242), (74, .invokevirtual 249, 3, 4, 11, 1, 1206), (77, .ireturn, 1, 0, 0, 0, 0), (78, .aload_n 0, 1, 0, 0, 0, 0), (79, .aload_n 0, 1, 0, 0, 0, 0), (80, .bipush 71, 2, 0, 0, 0, 0), (82, .iload_n 1, 1, 0, 0, 0, 0), (83, .iadd, 1, 0, 0, 0, 0), (84, .invokevirtual 110, 3, 5, 11, 1, 1202), (87, .invokevirtual 249, 3, 4, 11, 1, 1206), (90, .ireturn, 1, 0, 0, 0, 0), (91, .aload_n 0, 1, 0, 0, 0, 0), (92, .aload_n 0, 1, 0, 0, 0, 0), (93, .bipush 39, 2, 0, 0, 0, 0), (95, .iload_n 1, 1, 0, 0, 0, 0), (96, .iadd, 1, 0, 0, 0, 0), (97, .invokevirtual 110, 3, 5, 11, 1, 1202), (100, .invokevirtual 249, 3, 4, 11, 1, 1206), (103, .ireturn, 1, 0, 0, 0, 0), (104, .aload_n 0, 1, 0, 0, 0, 0), (105, .aload_n 0, 1, 0, 0, 0, 0), (106, .bipush 55, 2, 0, 0, 0, 0), (108, .iload_n 1, 1, 0, 0, 0, 0), (109, .iadd, 1, 0, 0, 0, 0), (110, .invokevirtual 110, 3, 5, 11, 1, 1202), (113, .invokevirtual 249, 3, 4, 11, 1, 1206), (116, .ireturn, 1, 0, 0, 0, 0), (117, .aload_n 0, 1, 0, 0, 0, 0), (118, .aload_n 0, 1, 0, 0, 0, 0), (119, .bipush 87, 2, 0, 0, 0, 0), (121, .invokevirtual 110, 3, 5, 11, 1, 1202), (124, .iload_n 1, 1, 0, 0, 0, 0), (125, .ishr, 1, 0, 0, 0, 0), (126, .iconst 1, 1, 0, 0, 0, 0), (127, .iand, 1, 0, 0, 0, 0), (128, .invokevirtual 249, 3, 4, 11, 1, 1206), (131, .ireturn, 1, 0, 0, 0, 0)]
set_option maxRecDepth 100000 in
set_option maxHeartbeats 4000000 in
theorem c_X11_element (l : Launch) (G : vg_G) (hp : vg_Hp G) : vg_Ct l G vg_sh r_X11_element := by
  refine vg_meth hp vg_sh_ok r_X11_element k_X11_element rfl (fun h => by cases h) o_X11_element [r_X11_isFrom, r_X11_refuse, r_X11_elements, r_X11_weight, r_X11_gives, r_X11_get] false (by decide +kernel) (by decide +kernel) ⟨_, _, rfl, rfl⟩ (List.forall_mem_cons.mpr ⟨⟨c_X11_isFrom l G hp, Nat.le_of_ble_eq_true rfl, Nat.le_of_ble_eq_true rfl⟩, List.forall_mem_cons.mpr ⟨⟨c_X11_refuse l G hp, Nat.le_of_ble_eq_true rfl, Nat.le_of_ble_eq_true rfl⟩, List.forall_mem_cons.mpr ⟨⟨c_X11_elements l G hp, Nat.le_of_ble_eq_true rfl, Nat.le_of_ble_eq_true rfl⟩, List.forall_mem_cons.mpr ⟨⟨c_X11_weight l G hp, Nat.le_of_ble_eq_true rfl, Nat.le_of_ble_eq_true rfl⟩, List.forall_mem_cons.mpr ⟨⟨c_X11_gives l G hp, Nat.le_of_ble_eq_true rfl, Nat.le_of_ble_eq_true rfl⟩, List.forall_mem_cons.mpr ⟨⟨c_X11_get l G hp, Nat.le_of_ble_eq_true rfl, Nat.le_of_ble_eq_true rfl⟩, fun _ h => absurd h List.not_mem_nil⟩⟩⟩⟩⟩⟩) (fun h => by cases h) 600 ?_
  intro as s0 hpre
  obtain ⟨r, a1, a2, rfl, hr, i0⟩ := hpre
  simp only [List.mem_cons, List.not_mem_nil, or_false] at hr
  rcases hr with rfl
  ·
    have z0 : (Int32.ofInt 0).toInt = 0 := by decide
    have z1 : (Int32.ofInt 1).toInt = 1 := by decide
    have z2 : (Int32.ofInt 2).toInt = 2 := by decide
    have z4 : (Int32.ofInt 4).toInt = 4 := by decide
    have z39 : (Int32.ofInt 39).toInt = 39 := by decide
    have z55 : (Int32.ofInt 55).toInt = 55 := by decide
    have z71 : (Int32.ofInt 71).toInt = 71 := by decide
    have z87 : (Int32.ofInt 87).toInt = 87 := by decide
    refine ⟨Nat.le_of_ble_eq_true rfl, [], ?_, fun _ h => absurd h List.not_mem_nil⟩
    ·
      refine And.intro (Nat.le_of_ble_eq_true rfl) (And.intro ⟨a2, (Int32.ofInt 0), (Int32.ofInt 4), rfl, trivial⟩ ?_)
      intro v1 s3 h2
      have h2 : s3 = s0 ∧ ((v1.toInt = 1 ∧ (Int32.ofInt 0).toInt ≤ a2.toInt ∧ a2.toInt ≤ (Int32.ofInt 4).toInt) ∨ (v1.toInt = 0 ∧ (a2.toInt < (Int32.ofInt 0).toInt ∨ (Int32.ofInt 4).toInt < a2.toInt))) := h2
      have q6 := h2.1.symm
      subst q6
      have q7 := h2.2
      refine And.intro (fun c8 => ?_) (fun c8 => ?_)
      · have c8 : ¬ v1.toInt = 0 := c8
        refine And.intro (Nat.le_of_ble_eq_true rfl) (And.intro ⟨55, rfl, by decide, i0⟩ ?_)
        intro v9 s11 h10
        have h10 : s11 = s0 ∧ (v9 = vg_me s0 ∧ 1 ≤ v9.toInt ∧ v9.toInt ≤ 16) := h10
        have q14 := h10.1.symm
        subst q14
        have q15 := h10.2
        intro v16 e17
        have b18 := vg_sub e17 (by omega) (by omega)
        refine And.intro (Nat.le_of_ble_eq_true rfl) (And.intro ⟨a1, (Int32.ofInt 0), v16, rfl, trivial⟩ ?_)
        intro v19 s21 h20
        have h20 : s21 = s0 ∧ ((v19.toInt = 1 ∧ (Int32.ofInt 0).toInt ≤ a1.toInt ∧ a1.toInt ≤ v16.toInt) ∨ (v19.toInt = 0 ∧ (a1.toInt < (Int32.ofInt 0).toInt ∨ v16.toInt < a1.toInt))) := h20
        have q24 := h20.1.symm
        subst q24
        have q25 := h20.2
        refine And.intro (fun c26 => ?_) (fun c26 => ?_)
        · have c26 : ¬ v19.toInt = 0 := c26
          refine And.intro (fun c27 => ?_) ?_
          · have c27 : a2.toInt < (0) ∨ (3) < a2.toInt := c27
            refine And.intro (Nat.le_of_ble_eq_true rfl) (And.intro ⟨55, (Int32.ofInt 87), rfl, by decide, i0, by omega⟩ ?_)
            intro v28 s30 h29
            have h29 : s30 = s0 ∧ (v28 = (s0.2 56 (Int32.ofInt 87).toNatClampNeg).toInt32) := h29
            have q33 := h29.1.symm
            subst q33
            have q34 := h29.2
            intro v35 e36
            intro v37 e38
            have b39 := vg_and e38 (by omega)
            refine And.intro (Nat.le_of_ble_eq_true rfl) (And.intro ⟨55, v37, rfl, by decide, i0⟩ ?_)
            intro v40 s42 h41
            have h41 : Iv s42 ∧ Kp s0 s42 ∧ vk s42 = ((vk s0).1, (vk s0).2) ∧ (v40 = v37 ∧ v40.toInt = v37.toInt) := h41
            have i43 := h41.1
            have k44 : Kp s0 s42 := Kx.tr Kx.rf (h41.2.1)
            have u45 : vk s42 = ((vk s0).1, (vk s0).2) := h41.2.2.1.trans rfl
            have q46 := h41.2.2.2
            show Iv s42 ∧ Kp s0 s42 ∧ vk s42 = ((vk s0).1, (vk s0).2) ∧ (True)
            exact ⟨i43, k44, u45, (trivial)⟩
          refine And.intro (fun c47 => ?_) ?_
          · have c47 : a2.toInt = (0) := c47
            refine And.intro (Nat.le_of_ble_eq_true rfl) (And.intro ⟨55, a1, rfl, by decide, i0, by omega⟩ ?_)
            intro v48 s50 h49
            have h49 : s50 = s0 ∧ (v48 = Int32.ofInt 1000 + s0.1 59 a1.toNatClampNeg) := h49
            have q53 := h49.1.symm
            subst q53
            have q54 := h49.2
            refine And.intro (Nat.le_of_ble_eq_true rfl) (And.intro ⟨55, v48, rfl, by decide, i0⟩ ?_)
            intro v55 s57 h56
            have h56 : Iv s57 ∧ Kp s0 s57 ∧ vk s57 = ((vk s0).1, (vk s0).2) ∧ (v55 = v48 ∧ v55.toInt = v48.toInt) := h56
            have i58 := h56.1
            have k59 : Kp s0 s57 := Kx.tr Kx.rf (h56.2.1)
            have u60 : vk s57 = ((vk s0).1, (vk s0).2) := h56.2.2.1.trans rfl
            have q61 := h56.2.2.2
            show Iv s57 ∧ Kp s0 s57 ∧ vk s57 = ((vk s0).1, (vk s0).2) ∧ (True)
            exact ⟨i58, k59, u60, (trivial)⟩
          refine And.intro (fun c62 => ?_) ?_
          · have c62 : a2.toInt = (1) := c62
            intro v63 e64
            have b65 := vg_add e64 (by omega) (by omega)
            refine And.intro (Nat.le_of_ble_eq_true rfl) (And.intro ⟨55, v63, rfl, by decide, i0, by omega⟩ ?_)
            intro v66 s68 h67
            have h67 : s68 = s0 ∧ (v66 = (s0.2 56 v63.toNatClampNeg).toInt32) := h67
            have q71 := h67.1.symm
            subst q71
            have q72 := h67.2
            refine And.intro (Nat.le_of_ble_eq_true rfl) (And.intro ⟨55, v66, rfl, by decide, i0⟩ ?_)
            intro v73 s75 h74
            have h74 : Iv s75 ∧ Kp s0 s75 ∧ vk s75 = ((vk s0).1, (vk s0).2) ∧ (v73 = v66 ∧ v73.toInt = v66.toInt) := h74
            have i76 := h74.1
            have k77 : Kp s0 s75 := Kx.tr Kx.rf (h74.2.1)
            have u78 : vk s75 = ((vk s0).1, (vk s0).2) := h74.2.2.1.trans rfl
            have q79 := h74.2.2.2
            show Iv s75 ∧ Kp s0 s75 ∧ vk s75 = ((vk s0).1, (vk s0).2) ∧ (True)
            exact ⟨i76, k77, u78, (trivial)⟩
          refine And.intro (fun c80 => ?_) ?_
          · have c80 : a2.toInt = (2) := c80
            intro v81 e82
            have b83 := vg_add e82 (by omega) (by omega)
            refine And.intro (Nat.le_of_ble_eq_true rfl) (And.intro ⟨55, v81, rfl, by decide, i0, by omega⟩ ?_)
            intro v84 s86 h85
            have h85 : s86 = s0 ∧ (v84 = (s0.2 56 v81.toNatClampNeg).toInt32) := h85
            have q89 := h85.1.symm
            subst q89
            have q90 := h85.2
            refine And.intro (Nat.le_of_ble_eq_true rfl) (And.intro ⟨55, v84, rfl, by decide, i0⟩ ?_)
            intro v91 s93 h92
            have h92 : Iv s93 ∧ Kp s0 s93 ∧ vk s93 = ((vk s0).1, (vk s0).2) ∧ (v91 = v84 ∧ v91.toInt = v84.toInt) := h92
            have i94 := h92.1
            have k95 : Kp s0 s93 := Kx.tr Kx.rf (h92.2.1)
            have u96 : vk s93 = ((vk s0).1, (vk s0).2) := h92.2.2.1.trans rfl
            have q97 := h92.2.2.2
            show Iv s93 ∧ Kp s0 s93 ∧ vk s93 = ((vk s0).1, (vk s0).2) ∧ (True)
            exact ⟨i94, k95, u96, (trivial)⟩
          refine And.intro (fun c98 => ?_) ?_
          · have c98 : a2.toInt = (3) := c98
            intro v99 e100
            have b101 := vg_add e100 (by omega) (by omega)
            refine And.intro (Nat.le_of_ble_eq_true rfl) (And.intro ⟨55, v99, rfl, by decide, i0, by omega⟩ ?_)
            intro v102 s104 h103
            have h103 : s104 = s0 ∧ (v102 = (s0.2 56 v99.toNatClampNeg).toInt32) := h103
            have q107 := h103.1.symm
            subst q107
            have q108 := h103.2
            refine And.intro (Nat.le_of_ble_eq_true rfl) (And.intro ⟨55, v102, rfl, by decide, i0⟩ ?_)
            intro v109 s111 h110
            have h110 : Iv s111 ∧ Kp s0 s111 ∧ vk s111 = ((vk s0).1, (vk s0).2) ∧ (v109 = v102 ∧ v109.toInt = v102.toInt) := h110
            have i112 := h110.1
            have k113 : Kp s0 s111 := Kx.tr Kx.rf (h110.2.1)
            have u114 : vk s111 = ((vk s0).1, (vk s0).2) := h110.2.2.1.trans rfl
            have q115 := h110.2.2.2
            show Iv s111 ∧ Kp s0 s111 ∧ vk s111 = ((vk s0).1, (vk s0).2) ∧ (True)
            exact ⟨i112, k113, u114, (trivial)⟩
          exact trivial
        · have c26 : ¬ (¬ v19.toInt = 0) := c26
          refine And.intro (Nat.le_of_ble_eq_true rfl) (And.intro ⟨55, (Int32.ofInt 2), rfl, by decide, i0⟩ ?_)
          intro v116 s118 h117
          have h117 : Iv s118 ∧ Kp s0 s118 ∧ vk s118 = ((vk s0).1, (vk s0).2) ∧ (v116.toInt = -1) := h117
          have i119 := h117.1
          have k120 : Kp s0 s118 := Kx.tr Kx.rf (h117.2.1)
          have u121 : vk s118 = ((vk s0).1, (vk s0).2) := h117.2.2.1.trans rfl
          have q122 := h117.2.2.2
          show Iv s118 ∧ Kp s0 s118 ∧ vk s118 = ((vk s0).1, (vk s0).2) ∧ (True)
          exact ⟨i119, k120, u121, (trivial)⟩
      · have c8 : ¬ (¬ v1.toInt = 0) := c8
        refine And.intro (Nat.le_of_ble_eq_true rfl) (And.intro ⟨55, (Int32.ofInt 1), rfl, by decide, i0⟩ ?_)
        intro v123 s125 h124
        have h124 : Iv s125 ∧ Kp s0 s125 ∧ vk s125 = ((vk s0).1, (vk s0).2) ∧ (v123.toInt = -1) := h124
        have i126 := h124.1
        have k127 : Kp s0 s125 := Kx.tr Kx.rf (h124.2.1)
        have u128 : vk s125 = ((vk s0).1, (vk s0).2) := h124.2.2.1.trans rfl
        have q129 := h124.2.2.2
        show Iv s125 ∧ Kp s0 s125 ∧ vk s125 = ((vk s0).1, (vk s0).2) ∧ (True)
        exact ⟨i126, k127, u128, (trivial)⟩
def o_X11_spreadNow : List vg_I := [(0, .aload_n 0, 1, 0, 0, 0, 0), (1, .bipush 71, 2, 0, 0, 0, 0), (3, .invokevirtual 110, 3, 0, 11, 1, 1202), (6, .istore_n 1, 1, 0, 0, 0, 0), (7, .iload_n 1, 1, 0, 0, 0, 0), (8, .istore_n 2, 1, 0, 0, 0, 0), (9, .iconst 1, 1, 0, 0, 0, 0), (10, .istore_n 3, 1, 0, 0, 0, 0), (11, .iload_n 3, 1, 0, 0, 0, 0), (12, .aload_n 0, 1, 0, 0, 0, 0), (13, .invokevirtual 102, 3, 1, 11, 0, 1218), (16, .if_icmp .ge 35, 3, 0, 0, 0, 0), (19, .iload_n 1, 1, 0, 0, 0, 0), (20, .aload_n 0, 1, 0, 0, 0, 0), (21, .bipush 71, 2, 0, 0, 0, 0), (23, .iload_n 3, 1, 0, 0, 0, 0), (24, .iadd, 1, 0, 0, 0, 0), (25, .invokevirtual 110, 3, 0, 11, 1, 1202), (28, .invokestatic 113, 3, 2, 1, 2, 1280), (31, .istore_n 1, 1, 0, 0, 0, 0), (32, .iload_n 2, 1, 0, 0, 0, 0), (33, .aload_n 0, 1, 0, 0, 0, 0), (34, .bipush 71, 2, 0, 0, 0, 0), (36, .iload_n 3, 1, 0, 0, 0, 0), (37, .iadd, 1, 0, 0, 0, 0), (38, .invokevirtual 110, 3, 0, 11, 1, 1202), (41, .invokestatic 90, 3, 3, 1, 2, 1201), (44, .istore_n 2, 1, 0, 0, 0, 0), (45, .iinc 3 1, 3, 0, 0, 0, 0), (48, .goto (-37), 3, 0, 0, 0, 0), (51, .iload_n 2, 1, 0, 0, 0, 0), (52, .iload_n 1, 1, 0, 0, 0, 0), (53, .isub, 1, 0, 0, 0, 0), (54, .ireturn, 1, 0, 0, 0, 0)]
set_option maxRecDepth 100000 in
set_option maxHeartbeats 4000000 in
theorem c_X11_spreadNow (l : Launch) (G : vg_G) (hp : vg_Hp G) : vg_Ct l G vg_sh r_X11_spreadNow := by
  refine vg_meth hp vg_sh_ok r_X11_spreadNow k_X11_spreadNow rfl (fun h => by cases h) o_X11_spreadNow [r_X11_get, r_X11_elements, r_J9_min_7cf53, r_J9_max_7cf53] false (by decide +kernel) (by decide +kernel) ⟨_, _, rfl, rfl⟩ (List.forall_mem_cons.mpr ⟨⟨c_X11_get l G hp, Nat.le_of_ble_eq_true rfl, Nat.le_of_ble_eq_true rfl⟩, List.forall_mem_cons.mpr ⟨⟨c_X11_elements l G hp, Nat.le_of_ble_eq_true rfl, Nat.le_of_ble_eq_true rfl⟩, List.forall_mem_cons.mpr ⟨⟨c_J9_min_7cf53 l G hp, Nat.le_of_ble_eq_true rfl, Nat.le_of_ble_eq_true rfl⟩, List.forall_mem_cons.mpr ⟨⟨c_J9_max_7cf53 l G hp, Nat.le_of_ble_eq_true rfl, Nat.le_of_ble_eq_true rfl⟩, fun _ h => absurd h List.not_mem_nil⟩⟩⟩⟩) (fun h => by cases h) 600 ?_
  intro as s0 hpre
  obtain ⟨r, rfl, hr, i0⟩ := hpre
  simp only [List.mem_cons, List.not_mem_nil, or_false] at hr
  rcases hr with rfl
  ·
    have z1 : (Int32.ofInt 1).toInt = 1 := by decide
    have z71 : (Int32.ofInt 71).toInt = 71 := by decide
    refine ⟨Nat.le_of_ble_eq_true rfl, [(11, [true, true, true, true], (fun L t => ∃ (x1 : Int32) (x2 : Int32) (x3 : Int32), L = [some (.ref 55), some (.int x1), some (.int x2), some (.int x3)] ∧ (1 : Int) ≤ x3.toInt ∧ x3.toInt ≤ (16 : Int) ∧ t = s0), (fun L _ => (0 + (16 - (vg_li L 3).toInt) * 1000000000000).toNat))], ?_, List.forall_mem_cons.mpr ⟨?_, fun _ h => absurd h List.not_mem_nil⟩⟩
    ·
      refine And.intro (Nat.le_of_ble_eq_true rfl) (And.intro ⟨55, (Int32.ofInt 71), rfl, by decide, i0, by omega⟩ ?_)
      intro v1 s3 h2
      have h2 : s3 = s0 ∧ (v1 = (s0.2 56 (Int32.ofInt 71).toNatClampNeg).toInt32) := h2
      have q6 := h2.1.symm
      subst q6
      have q7 := h2.2
      exact ⟨rfl, ⟨v1, v1, (Int32.ofInt 1), rfl, (by omega), (by omega), rfl⟩, trivial⟩
    ·
      intro L s13 hL
      obtain ⟨w8, w9, w10, rfl, b11, b12, q16⟩ := hL
      have q16 := q16.symm
      subst q16
      refine And.intro (Nat.le_of_ble_eq_true rfl) (And.intro ⟨55, rfl, by decide, i0⟩ ?_)
      intro v17 s19 h18
      have h18 : s19 = s0 ∧ (v17 = vg_me s0 ∧ 1 ≤ v17.toInt ∧ v17.toInt ≤ 16) := h18
      have q22 := h18.1.symm
      subst q22
      have q23 := h18.2
      refine And.intro (fun c24 => ?_) (fun c24 => ?_)
      · have c24 : v17.toInt ≤ w10.toInt := c24
        intro v25 e26
        show s0 = s0 ∧ (True)
        exact ⟨rfl, (trivial)⟩
      · have c24 : ¬ (v17.toInt ≤ w10.toInt) := c24
        intro v27 e28
        have b29 := vg_add e28 (by omega) (by omega)
        refine And.intro (Nat.le_of_ble_eq_true rfl) (And.intro ⟨55, v27, rfl, by decide, i0, by omega⟩ ?_)
        intro v30 s32 h31
        have h31 : s32 = s0 ∧ (v30 = (s0.2 56 v27.toNatClampNeg).toInt32) := h31
        have q35 := h31.1.symm
        subst q35
        have q36 := h31.2
        refine And.intro (Nat.le_of_ble_eq_true rfl) (And.intro ⟨w8, v30, rfl, trivial⟩ ?_)
        intro v37 s39 h38
        have h38 : s39 = s0 ∧ (v37.toInt ≤ w8.toInt ∧ v37.toInt ≤ v30.toInt ∧ (v37.toInt = w8.toInt ∨ v37.toInt = v30.toInt)) := h38
        have q42 := h38.1.symm
        subst q42
        have q43 := h38.2
        intro v44 e45
        have b46 := vg_add e45 (by omega) (by omega)
        refine And.intro (Nat.le_of_ble_eq_true rfl) (And.intro ⟨55, v44, rfl, by decide, i0, by omega⟩ ?_)
        intro v47 s49 h48
        have h48 : s49 = s0 ∧ (v47 = (s0.2 56 v44.toNatClampNeg).toInt32) := h48
        have q52 := h48.1.symm
        subst q52
        have q53 := h48.2
        refine And.intro (Nat.le_of_ble_eq_true rfl) (And.intro ⟨w9, v47, rfl, trivial⟩ ?_)
        intro v54 s56 h55
        have h55 : s56 = s0 ∧ (w9.toInt ≤ v54.toInt ∧ v47.toInt ≤ v54.toInt ∧ (v54.toInt = w9.toInt ∨ v54.toInt = v47.toInt)) := h55
        have q59 := h55.1.symm
        subst q59
        have q60 := h55.2
        intro v61 e62
        have b63 := vg_add e62 (by omega) (by omega)
        exact ⟨rfl, ⟨v37, v54, v61, rfl, (by omega), (by omega), rfl⟩, (by show (0 + (16 - v61.toInt) * 1000000000000).toNat < (0 + (16 - w10.toInt) * 1000000000000).toNat; omega)⟩
def o_X11_spread : List vg_I := [(0, .aload_n 0, 1, 0, 0, 0, 0), (1, .aload_n 0, 1, 0, 0, 0, 0), (2, .invokevirtual 273, 3, 0, 11, 0, 1417), (5, .invokevirtual 249, 3, 1, 11, 1, 1206), (8, .ireturn, 1, 0, 0, 0, 0)]
set_option maxRecDepth 100000 in
set_option maxHeartbeats 4000000 in
theorem c_X11_spread (l : Launch) (G : vg_G) (hp : vg_Hp G) : vg_Ct l G vg_sh r_X11_spread := by
  refine vg_meth hp vg_sh_ok r_X11_spread k_X11_spread rfl (fun h => by cases h) o_X11_spread [r_X11_spreadNow, r_X11_gives] false (by decide +kernel) (by decide +kernel) ⟨_, _, rfl, rfl⟩ (List.forall_mem_cons.mpr ⟨⟨c_X11_spreadNow l G hp, Nat.le_of_ble_eq_true rfl, Nat.le_of_ble_eq_true rfl⟩, List.forall_mem_cons.mpr ⟨⟨c_X11_gives l G hp, Nat.le_of_ble_eq_true rfl, Nat.le_of_ble_eq_true rfl⟩, fun _ h => absurd h List.not_mem_nil⟩⟩) (fun h => by cases h) 600 ?_
  intro as s0 hpre
  obtain ⟨r, rfl, hr, i0⟩ := hpre
  simp only [List.mem_cons, List.not_mem_nil, or_false] at hr
  rcases hr with rfl
  ·
    refine ⟨Nat.le_of_ble_eq_true rfl, [], ?_, fun _ h => absurd h List.not_mem_nil⟩
    ·
      refine And.intro (Nat.le_of_ble_eq_true rfl) (And.intro ⟨55, rfl, by decide, i0⟩ ?_)
      intro v1 s3 h2
      have h2 : s3 = s0 ∧ (True) := h2
      have q6 := h2.1.symm
      subst q6
      refine And.intro (Nat.le_of_ble_eq_true rfl) (And.intro ⟨55, v1, rfl, by decide, i0⟩ ?_)
      intro v7 s9 h8
      have h8 : Iv s9 ∧ Kp s0 s9 ∧ vk s9 = ((vk s0).1, (vk s0).2) ∧ (v7 = v1 ∧ v7.toInt = v1.toInt) := h8
      have i10 := h8.1
      have k11 : Kp s0 s9 := Kx.tr Kx.rf (h8.2.1)
      have u12 : vk s9 = ((vk s0).1, (vk s0).2) := h8.2.2.1.trans rfl
      have q13 := h8.2.2.2
      show Iv s9 ∧ Kp s0 s9 ∧ vk s9 = ((vk s0).1, (vk s0).2) ∧ (True)
      exact ⟨i10, k11, u12, (trivial)⟩
def o_X11_combed : List vg_I := [(0, .iload_n 1, 1, 0, 0, 0, 0), (1, .iconst 0, 1, 0, 0, 0, 0), (2, .iconst 4, 1, 0, 0, 0, 0), (3, .invokestatic 76, 3, 0, 1, 3, 1175), (6, .ifCond .ne 9, 3, 0, 0, 0, 0), (9, .aload_n 0, 1, 0, 0, 0, 0), (10, .iconst 1, 1, 0, 0, 0, 0), (11, .invokevirtual 242, 3, 1, 11, 1, 1181), (14, .ireturn, 1, 0, 0, 0, 0), (15, .iload_n 1, 1, 0, 0, 0, 0), (16, .aload_n 0, 1, 0, 0, 0, 0), (17, .getfield 33, 3, 1077, 11, 16, 0), (20, .if_icmp .ge 18, 3, 0, 0, 0, 0), (23, .aload_n 0, 1, 0, 0, 0, 0), (24, .aload_n 0, 1, 0, 0, 0, 0), (25, .bipush 88, 2, 0, 0, 0, 0), (27, .iload_n 1, 1, 0, 0, 0, 0), (28, .iadd, 1, 0, 0, 0, 0), (29, .invokevirtual 110, 3, 2, 11, 1, 1202), (32, .invokevirtual 249, 3, 3, 11, 1, 1206), (35, .goto 8, 3, 0, 0, 0, 0), (38, .aload_n 0, 1, 0, 0, 0, 0), (39, .iconst 5, 1, 0, 0, 0, 0), (40, .invokevirtual 242, 3, 1, 11, 1, 1181), (43, .ireturn, 1, 0, 0, 0, 0)]
set_option maxRecDepth 100000 in
set_option maxHeartbeats 4000000 in
theorem c_X11_combed (l : Launch) (G : vg_G) (hp : vg_Hp G) : vg_Ct l G vg_sh r_X11_combed := by
  refine vg_meth hp vg_sh_ok r_X11_combed k_X11_combed rfl (fun h => by cases h) o_X11_combed [r_X11_isFrom, r_X11_refuse, r_X11_get, r_X11_gives] false (by decide +kernel) (by decide +kernel) ⟨_, _, rfl, rfl⟩ (List.forall_mem_cons.mpr ⟨⟨c_X11_isFrom l G hp, Nat.le_of_ble_eq_true rfl, Nat.le_of_ble_eq_true rfl⟩, List.forall_mem_cons.mpr ⟨⟨c_X11_refuse l G hp, Nat.le_of_ble_eq_true rfl, Nat.le_of_ble_eq_true rfl⟩, List.forall_mem_cons.mpr ⟨⟨c_X11_get l G hp, Nat.le_of_ble_eq_true rfl, Nat.le_of_ble_eq_true rfl⟩, List.forall_mem_cons.mpr ⟨⟨c_X11_gives l G hp, Nat.le_of_ble_eq_true rfl, Nat.le_of_ble_eq_true rfl⟩, fun _ h => absurd h List.not_mem_nil⟩⟩⟩⟩) (fun h => by cases h) 600 ?_
  intro as s0 hpre
  obtain ⟨r, a1, rfl, hr, i0⟩ := hpre
  simp only [List.mem_cons, List.not_mem_nil, or_false] at hr
  rcases hr with rfl
  ·
    have z0 : (Int32.ofInt 0).toInt = 0 := by decide
    have z1 : (Int32.ofInt 1).toInt = 1 := by decide
    have z4 : (Int32.ofInt 4).toInt = 4 := by decide
    have z5 : (Int32.ofInt 5).toInt = 5 := by decide
    have z88 : (Int32.ofInt 88).toInt = 88 := by decide
    refine ⟨Nat.le_of_ble_eq_true rfl, [], ?_, fun _ h => absurd h List.not_mem_nil⟩
    ·
      refine And.intro (Nat.le_of_ble_eq_true rfl) (And.intro ⟨a1, (Int32.ofInt 0), (Int32.ofInt 4), rfl, trivial⟩ ?_)
      intro v1 s3 h2
      have h2 : s3 = s0 ∧ ((v1.toInt = 1 ∧ (Int32.ofInt 0).toInt ≤ a1.toInt ∧ a1.toInt ≤ (Int32.ofInt 4).toInt) ∨ (v1.toInt = 0 ∧ (a1.toInt < (Int32.ofInt 0).toInt ∨ (Int32.ofInt 4).toInt < a1.toInt))) := h2
      have q6 := h2.1.symm
      subst q6
      have q7 := h2.2
      refine And.intro (fun c8 => ?_) (fun c8 => ?_)
      · have c8 : ¬ v1.toInt = 0 := c8
        intro v9 e10
        have g11 : s0.1 55 16 = v9 := by rw [e10]
        have b12 : (1 : Int) ≤ v9.toInt ∧ v9.toInt ≤ 5 := by rw [e10]; exact Iv_55_16 i0
        refine And.intro (fun c13 => ?_) (fun c13 => ?_)
        · have c13 : v9.toInt ≤ a1.toInt := c13
          refine And.intro (Nat.le_of_ble_eq_true rfl) (And.intro ⟨55, (Int32.ofInt 5), rfl, by decide, i0⟩ ?_)
          intro v14 s16 h15
          have h15 : Iv s16 ∧ Kp s0 s16 ∧ vk s16 = ((vk s0).1, (vk s0).2) ∧ (v14.toInt = -1) := h15
          have i17 := h15.1
          have k18 : Kp s0 s16 := Kx.tr Kx.rf (h15.2.1)
          have u19 : vk s16 = ((vk s0).1, (vk s0).2) := h15.2.2.1.trans rfl
          have q20 := h15.2.2.2
          show Iv s16 ∧ Kp s0 s16 ∧ vk s16 = ((vk s0).1, (vk s0).2) ∧ (True)
          exact ⟨i17, k18, u19, (trivial)⟩
        · have c13 : ¬ (v9.toInt ≤ a1.toInt) := c13
          intro v21 e22
          have b23 := vg_add e22 (by omega) (by omega)
          refine And.intro (Nat.le_of_ble_eq_true rfl) (And.intro ⟨55, v21, rfl, by decide, i0, by omega⟩ ?_)
          intro v24 s26 h25
          have h25 : s26 = s0 ∧ (v24 = (s0.2 56 v21.toNatClampNeg).toInt32) := h25
          have q29 := h25.1.symm
          subst q29
          have q30 := h25.2
          refine And.intro (Nat.le_of_ble_eq_true rfl) (And.intro ⟨55, v24, rfl, by decide, i0⟩ ?_)
          intro v31 s33 h32
          have h32 : Iv s33 ∧ Kp s0 s33 ∧ vk s33 = ((vk s0).1, (vk s0).2) ∧ (v31 = v24 ∧ v31.toInt = v24.toInt) := h32
          have i34 := h32.1
          have k35 : Kp s0 s33 := Kx.tr Kx.rf (h32.2.1)
          have u36 : vk s33 = ((vk s0).1, (vk s0).2) := h32.2.2.1.trans rfl
          have q37 := h32.2.2.2
          show Iv s33 ∧ Kp s0 s33 ∧ vk s33 = ((vk s0).1, (vk s0).2) ∧ (True)
          exact ⟨i34, k35, u36, (trivial)⟩
      · have c8 : ¬ (¬ v1.toInt = 0) := c8
        refine And.intro (Nat.le_of_ble_eq_true rfl) (And.intro ⟨55, (Int32.ofInt 1), rfl, by decide, i0⟩ ?_)
        intro v38 s40 h39
        have h39 : Iv s40 ∧ Kp s0 s40 ∧ vk s40 = ((vk s0).1, (vk s0).2) ∧ (v38.toInt = -1) := h39
        have i41 := h39.1
        have k42 : Kp s0 s40 := Kx.tr Kx.rf (h39.2.1)
        have u43 : vk s40 = ((vk s0).1, (vk s0).2) := h39.2.2.1.trans rfl
        have q44 := h39.2.2.2
        show Iv s40 ∧ Kp s0 s40 ∧ vk s40 = ((vk s0).1, (vk s0).2) ∧ (True)
        exact ⟨i41, k42, u43, (trivial)⟩
def o_X11_wrong : List vg_I := [(0, .iload_n 1, 1, 0, 0, 0, 0), (1, .iconst 0, 1, 0, 0, 0, 0), (2, .iconst 1, 1, 0, 0, 0, 0), (3, .invokestatic 76, 3, 0, 1, 3, 1175), (6, .ifCond .ne 10, 3, 0, 0, 0, 0), (9, .aload_n 0, 1, 0, 0, 0, 0), (10, .iconst 1, 1, 0, 0, 0, 0), (11, .invokevirtual 242, 3, 1, 11, 1, 1181), (14, .i2l, 1, 0, 0, 0, 0), (15, .lreturn, 1, 0, 0, 0, 0), (16, .iload_n 1, 1, 0, 0, 0, 0), (17, .ifCond .ne 15, 3, 0, 0, 0, 0), (20, .aload_n 0, 1, 0, 0, 0, 0), (21, .aload_n 0, 1, 0, 0, 0, 0), (22, .getfield 7, 3, 1061, 11, 0, 0), (25, .bipush 14, 2, 0, 0, 0, 0), (27, .laload, 1, 0, 0, 0, 0), (28, .invokevirtual 270, 3, 2, 11, 1, 1393), (31, .lreturn, 1, 0, 0, 0, 0), (32, .aload_n 0, 1, 0, 0, 0, 0), (33, .getfield 7, 3, 1061, 11, 0, 0), (36, .bipush 19, 2, 0, 0, 0, 0), (38, .laload, 1, 0, 0, 0, 0), (39, .lconst 0, 1, 0, 0, 0, 0), (40, .lcmp, 1, 0, 0, 0, 0), (41, .ifCond .ne 12, 3, 0, 0, 0, 0), (44, .aload_n 0, 1, 0, 0, 0, 0), (45, .iconst 5, 1, 0, 0, 0, 0), (46, .invokevirtual 242, 3, 1, 11, 1, 1181), (49, .i2l, 1, 0, 0, 0, 0), (50, .goto 14, 3, 0, 0, 0, 0), (53, .aload_n 0, 1, 0, 0, 0, 0), (54, .aload_n 0, 1, 0, 0, 0, 0), (55, .getfield 7, 3, 1061, 11, 0, 0), (58, .bipush 15, 2, 0, 0, 0, 0), (60, .laload, 1, 0, 0, 0, 0), (61, .invokevirtual 270, 3, 2, 11, 1, 1393), (64, .lreturn, 1, 0, 0, 0, 0)]
set_option maxRecDepth 100000 in
set_option maxHeartbeats 4000000 in
theorem c_X11_wrong (l : Launch) (G : vg_G) (hp : vg_Hp G) : vg_Ct l G vg_sh r_X11_wrong := by
  refine vg_meth hp vg_sh_ok r_X11_wrong k_X11_wrong rfl (fun h => by cases h) o_X11_wrong [r_X11_isFrom, r_X11_refuse, r_X11_givesLong] false (by decide +kernel) (by decide +kernel) ⟨_, _, rfl, rfl⟩ (List.forall_mem_cons.mpr ⟨⟨c_X11_isFrom l G hp, Nat.le_of_ble_eq_true rfl, Nat.le_of_ble_eq_true rfl⟩, List.forall_mem_cons.mpr ⟨⟨c_X11_refuse l G hp, Nat.le_of_ble_eq_true rfl, Nat.le_of_ble_eq_true rfl⟩, List.forall_mem_cons.mpr ⟨⟨c_X11_givesLong l G hp, Nat.le_of_ble_eq_true rfl, Nat.le_of_ble_eq_true rfl⟩, fun _ h => absurd h List.not_mem_nil⟩⟩⟩) (fun h => by cases h) 600 ?_
  intro as s0 hpre
  obtain ⟨r, a1, rfl, hr, i0⟩ := hpre
  simp only [List.mem_cons, List.not_mem_nil, or_false] at hr
  rcases hr with rfl
  ·
    have z0 : (Int32.ofInt 0).toInt = 0 := by decide
    have z1 : (Int32.ofInt 1).toInt = 1 := by decide
    have z5 : (Int32.ofInt 5).toInt = 5 := by decide
    have z14 : (Int32.ofInt 14).toInt = 14 := by decide
    have z15 : (Int32.ofInt 15).toInt = 15 := by decide
    have z19 : (Int32.ofInt 19).toInt = 19 := by decide
    refine ⟨Nat.le_of_ble_eq_true rfl, [], ?_, fun _ h => absurd h List.not_mem_nil⟩
    ·
      refine And.intro (Nat.le_of_ble_eq_true rfl) (And.intro ⟨a1, (Int32.ofInt 0), (Int32.ofInt 1), rfl, trivial⟩ ?_)
      intro v1 s3 h2
      have h2 : s3 = s0 ∧ ((v1.toInt = 1 ∧ (Int32.ofInt 0).toInt ≤ a1.toInt ∧ a1.toInt ≤ (Int32.ofInt 1).toInt) ∨ (v1.toInt = 0 ∧ (a1.toInt < (Int32.ofInt 0).toInt ∨ (Int32.ofInt 1).toInt < a1.toInt))) := h2
      have q6 := h2.1.symm
      subst q6
      have q7 := h2.2
      refine And.intro (fun c8 => ?_) (fun c8 => ?_)
      · have c8 : ¬ v1.toInt = 0 := c8
        refine And.intro (fun c9 => ?_) (fun c9 => ?_)
        · have c9 : ¬ a1.toInt = 0 := c9
          refine And.intro ⟨by omega, by omega⟩ ?_
          intro v10 e11
          intro v12 e13
          refine And.intro (fun c14 => ?_) (fun c14 => ?_)
          · have c14 : ¬ v12.toInt = 0 := c14
            refine And.intro ⟨by omega, by omega⟩ ?_
            intro v15 e16
            refine And.intro (Nat.le_of_ble_eq_true rfl) (And.intro ⟨55, v15, rfl, by decide, i0⟩ ?_)
            intro v17 s19 h18
            have h18 : Iv s19 ∧ Kp s0 s19 ∧ vk s19 = ((vk s0).1, (vk s0).2) ∧ (v17 = v15) := h18
            have i20 := h18.1
            have k21 : Kp s0 s19 := Kx.tr Kx.rf (h18.2.1)
            have u22 : vk s19 = ((vk s0).1, (vk s0).2) := h18.2.2.1.trans rfl
            have q23 := h18.2.2.2
            show Iv s19 ∧ Kp s0 s19 ∧ vk s19 = ((vk s0).1, (vk s0).2) ∧ (True)
            exact ⟨i20, k21, u22, (trivial)⟩
          · have c14 : ¬ (¬ v12.toInt = 0) := c14
            refine And.intro (Nat.le_of_ble_eq_true rfl) (And.intro ⟨55, (Int32.ofInt 5), rfl, by decide, i0⟩ ?_)
            intro v24 s26 h25
            have h25 : Iv s26 ∧ Kp s0 s26 ∧ vk s26 = ((vk s0).1, (vk s0).2) ∧ (v24.toInt = -1) := h25
            have i27 := h25.1
            have k28 : Kp s0 s26 := Kx.tr Kx.rf (h25.2.1)
            have u29 : vk s26 = ((vk s0).1, (vk s0).2) := h25.2.2.1.trans rfl
            have q30 := h25.2.2.2
            intro v31 e32
            show Iv s26 ∧ Kp s0 s26 ∧ vk s26 = ((vk s0).1, (vk s0).2) ∧ (True)
            exact ⟨i27, k28, u29, (trivial)⟩
        · have c9 : ¬ (¬ a1.toInt = 0) := c9
          refine And.intro ⟨by omega, by omega⟩ ?_
          intro v33 e34
          refine And.intro (Nat.le_of_ble_eq_true rfl) (And.intro ⟨55, v33, rfl, by decide, i0⟩ ?_)
          intro v35 s37 h36
          have h36 : Iv s37 ∧ Kp s0 s37 ∧ vk s37 = ((vk s0).1, (vk s0).2) ∧ (v35 = v33) := h36
          have i38 := h36.1
          have k39 : Kp s0 s37 := Kx.tr Kx.rf (h36.2.1)
          have u40 : vk s37 = ((vk s0).1, (vk s0).2) := h36.2.2.1.trans rfl
          have q41 := h36.2.2.2
          show Iv s37 ∧ Kp s0 s37 ∧ vk s37 = ((vk s0).1, (vk s0).2) ∧ (True)
          exact ⟨i38, k39, u40, (trivial)⟩
      · have c8 : ¬ (¬ v1.toInt = 0) := c8
        refine And.intro (Nat.le_of_ble_eq_true rfl) (And.intro ⟨55, (Int32.ofInt 1), rfl, by decide, i0⟩ ?_)
        intro v42 s44 h43
        have h43 : Iv s44 ∧ Kp s0 s44 ∧ vk s44 = ((vk s0).1, (vk s0).2) ∧ (v42.toInt = -1) := h43
        have i45 := h43.1
        have k46 : Kp s0 s44 := Kx.tr Kx.rf (h43.2.1)
        have u47 : vk s44 = ((vk s0).1, (vk s0).2) := h43.2.2.1.trans rfl
        have q48 := h43.2.2.2
        intro v49 e50
        show Iv s44 ∧ Kp s0 s44 ∧ vk s44 = ((vk s0).1, (vk s0).2) ∧ (True)
        exact ⟨i45, k46, u47, (trivial)⟩
def o_X11_next : List vg_I := [(0, .iload_n 1, 1, 0, 0, 0, 0), (1, .iconst 0, 1, 0, 0, 0, 0), (2, .aload_n 0, 1, 0, 0, 0, 0), (3, .invokevirtual 102, 3, 0, 11, 0, 1218), (6, .invokestatic 76, 3, 1, 1, 3, 1175), (9, .ifCond .eq 15, 3, 0, 0, 0, 0), (12, .aload_n 0, 1, 0, 0, 0, 0), (13, .aload_n 0, 1, 0, 0, 0, 0), (14, .iload_n 1, 1, 0, 0, 0, 0), (15, .invokevirtual 178, 3, 2, 11, 1, 1332), (18, .invokevirtual 249, 3, 3, 11, 1, 1206), (21, .goto 8, 3, 0, 0, 0, 0), (24, .aload_n 0, 1, 0, 0, 0, 0), (25, .iconst 1, 1, 0, 0, 0, 0), (26, .invokevirtual 242, 3, 4, 11, 1, 1181), (29, .ireturn, 1, 0, 0, 0, 0)]
set_option maxRecDepth 100000 in
set_option maxHeartbeats 4000000 in
theorem c_X11_next (l : Launch) (G : vg_G) (hp : vg_Hp G) : vg_Ct l G vg_sh r_X11_next := by
  refine vg_meth hp vg_sh_ok r_X11_next k_X11_next rfl (fun h => by cases h) o_X11_next [r_X11_elements, r_X11_isFrom, r_X11_wouldBeOn, r_X11_gives, r_X11_refuse] false (by decide +kernel) (by decide +kernel) ⟨_, _, rfl, rfl⟩ (List.forall_mem_cons.mpr ⟨⟨c_X11_elements l G hp, Nat.le_of_ble_eq_true rfl, Nat.le_of_ble_eq_true rfl⟩, List.forall_mem_cons.mpr ⟨⟨c_X11_isFrom l G hp, Nat.le_of_ble_eq_true rfl, Nat.le_of_ble_eq_true rfl⟩, List.forall_mem_cons.mpr ⟨⟨c_X11_wouldBeOn l G hp, Nat.le_of_ble_eq_true rfl, Nat.le_of_ble_eq_true rfl⟩, List.forall_mem_cons.mpr ⟨⟨c_X11_gives l G hp, Nat.le_of_ble_eq_true rfl, Nat.le_of_ble_eq_true rfl⟩, List.forall_mem_cons.mpr ⟨⟨c_X11_refuse l G hp, Nat.le_of_ble_eq_true rfl, Nat.le_of_ble_eq_true rfl⟩, fun _ h => absurd h List.not_mem_nil⟩⟩⟩⟩⟩) (fun h => by cases h) 600 ?_
  intro as s0 hpre
  obtain ⟨r, a1, rfl, hr, i0⟩ := hpre
  simp only [List.mem_cons, List.not_mem_nil, or_false] at hr
  rcases hr with rfl
  ·
    have z0 : (Int32.ofInt 0).toInt = 0 := by decide
    have z1 : (Int32.ofInt 1).toInt = 1 := by decide
    refine ⟨Nat.le_of_ble_eq_true rfl, [], ?_, fun _ h => absurd h List.not_mem_nil⟩
    ·
      refine And.intro (Nat.le_of_ble_eq_true rfl) (And.intro ⟨55, rfl, by decide, i0⟩ ?_)
      intro v1 s3 h2
      have h2 : s3 = s0 ∧ (v1 = vg_me s0 ∧ 1 ≤ v1.toInt ∧ v1.toInt ≤ 16) := h2
      have q6 := h2.1.symm
      subst q6
      have q7 := h2.2
      refine And.intro (Nat.le_of_ble_eq_true rfl) (And.intro ⟨a1, (Int32.ofInt 0), v1, rfl, trivial⟩ ?_)
      intro v8 s10 h9
      have h9 : s10 = s0 ∧ ((v8.toInt = 1 ∧ (Int32.ofInt 0).toInt ≤ a1.toInt ∧ a1.toInt ≤ v1.toInt) ∨ (v8.toInt = 0 ∧ (a1.toInt < (Int32.ofInt 0).toInt ∨ v1.toInt < a1.toInt))) := h9
      have q13 := h9.1.symm
      subst q13
      have q14 := h9.2
      refine And.intro (fun c15 => ?_) (fun c15 => ?_)
      · have c15 : v8.toInt = 0 := c15
        refine And.intro (Nat.le_of_ble_eq_true rfl) (And.intro ⟨55, (Int32.ofInt 1), rfl, by decide, i0⟩ ?_)
        intro v16 s18 h17
        have h17 : Iv s18 ∧ Kp s0 s18 ∧ vk s18 = ((vk s0).1, (vk s0).2) ∧ (v16.toInt = -1) := h17
        have i19 := h17.1
        have k20 : Kp s0 s18 := Kx.tr Kx.rf (h17.2.1)
        have u21 : vk s18 = ((vk s0).1, (vk s0).2) := h17.2.2.1.trans rfl
        have q22 := h17.2.2.2
        show Iv s18 ∧ Kp s0 s18 ∧ vk s18 = ((vk s0).1, (vk s0).2) ∧ (True)
        exact ⟨i19, k20, u21, (trivial)⟩
      · have c15 : ¬ (v8.toInt = 0) := c15
        refine And.intro (Nat.le_of_ble_eq_true rfl) (And.intro ⟨55, a1, rfl, by decide, i0⟩ ?_)
        intro v23 s25 h24
        have h24 : s25 = s0 ∧ (True) := h24
        have q28 := h24.1.symm
        subst q28
        refine And.intro (Nat.le_of_ble_eq_true rfl) (And.intro ⟨55, v23, rfl, by decide, i0⟩ ?_)
        intro v29 s31 h30
        have h30 : Iv s31 ∧ Kp s0 s31 ∧ vk s31 = ((vk s0).1, (vk s0).2) ∧ (v29 = v23 ∧ v29.toInt = v23.toInt) := h30
        have i32 := h30.1
        have k33 : Kp s0 s31 := Kx.tr Kx.rf (h30.2.1)
        have u34 : vk s31 = ((vk s0).1, (vk s0).2) := h30.2.2.1.trans rfl
        have q35 := h30.2.2.2
        show Iv s31 ∧ Kp s0 s31 ∧ vk s31 = ((vk s0).1, (vk s0).2) ∧ (True)
        exact ⟨i32, k33, u34, (trivial)⟩
def o_X11_loop : List vg_I := [(0, .iload_n 1, 1, 0, 0, 0, 0), (1, .iconst 0, 1, 0, 0, 0, 0), (2, .iconst 2, 1, 0, 0, 0, 0), (3, .invokestatic 76, 3, 0, 1, 3, 1175), (6, .ifCond .eq 49, 3, 0, 0, 0, 0), (9, .iload_n 2, 1, 0, 0, 0, 0), (10, .iconst 1, 1, 0, 0, 0, 0), (11, .iconst 4, 1, 0, 0, 0, 0), (12, .invokestatic 76, 3, 0, 1, 3, 1175), (15, .ifCond .eq 40, 3, 0, 0, 0, 0), (18, .iload_n 3, 1, 0, 0, 0, 0), (19, .iconst 1, 1, 0, 0, 0, 0), (20, .sipush 5000, 3, 0, 0, 0, 0), (23, .invokestatic 76, 3, 0, 1, 3, 1175), (26, .ifCond .eq 29, 3, 0, 0, 0, 0), (29, .iload 4, 2, 0, 0, 0, 0), (31, .iconst 2, 1, 0, 0, 0, 0), (32, .bipush 17, 2, 0, 0, 0, 0), (34, .invokestatic 76, 3, 0, 1, 3, 1175), (37, .ifCond .eq 18, 3, 0, 0, 0, 0), (40, .iload 5, 2, 0, 0, 0, 0), (42, .iconst 1, 1, 0, 0, 0, 0), (43, .ldc 29, 2, 1060, 0, 0, 60000), (45, .invokestatic 76, 3, 0, 1, 3, 1175), (48, .ifCond .eq 7, 3, 0, 0, 0, 0), (51, .iconst 1, 1, 0, 0, 0, 0), (52, .goto 4, 3, 0, 0, 0, 0), (55, .iconst 0, 1, 0, 0, 0, 0), (56, .istore 7, 2, 0, 0, 0, 0), (58, .iload 7, 2, 0, 0, 0, 0), (60, .ifCond .eq 23, 3, 0, 0, 0, 0), (63, .iload_n 1, 1, 0, 0, 0, 0), (64, .iconst 2, 1, 0, 0, 0, 0), (65, .if_icmp .ne 24, 3, 0, 0, 0, 0), (68, .iload 4, 2, 0, 0, 0, 0), (70, .iconst 1, 1, 0, 0, 0, 0), (71, .isub, 1, 0, 0, 0, 0), (72, .iconst 1, 1, 0, 0, 0, 0), (73, .iload_n 2, 1, 0, 0, 0, 0), (74, .ishl, 1, 0, 0, 0, 0), (75, .iconst 1, 1, 0, 0, 0, 0), (76, .isub, 1, 0, 0, 0, 0), (77, .imul, 1, 0, 0, 0, 0), (78, .bipush 16, 2, 0, 0, 0, 0), (80, .if_icmp .le 9, 3, 0, 0, 0, 0), (83, .aload_n 0, 1, 0, 0, 0, 0), (84, .iconst 1, 1, 0, 0, 0, 0), (85, .invokevirtual 242, 3, 1, 11, 1, 1181), (88, .ireturn, 1, 0, 0, 0, 0), (89, .aload_n 0, 1, 0, 0, 0, 0), (90, .iload_n 1, 1, 0, 0, 0, 0), (91, .putfield 99, 3, 1068, 11, 7, 0), (94, .aload_n 0, 1, 0, 0, 0, 0), (95, .iload_n 2, 1, 0, 0, 0, 0), (96, .putfield 20, 3, 1069, 11, 8, 0), (99, .aload_n 0, 1, 0, 0, 0, 0), (100, .iload_n 3, 1, 0, 0, 0, 0), (101, .putfield 23, 3, 1070, 11, 9, 0), (104, .aload_n 0, 1, 0, 0, 0, 0), (105, .iload 4, 2, 0, 0, 0, 0), (107, .putfield 26, 3, 1071, 11, 10, 0), (110, .aload_n 0, 1, 0, 0, 0, 0), (111, .iload 5, 2, 0, 0, 0, 0), (113, .putfield 30, 3, 1072, 11, 11, 0), (116, .aload_n 0, 1, 0, 0, 0, 0), (117, .iload 6, 2, 0, 0, 0, 0), (119, .putfield 154, 3, 1075, 11, 14, 1), (122, .aload_n 0, 1, 0, 0, 0, 0), (123, .iconst 0, 1, 0, 0, 0, 0), (124, .putfield 252, 3, 1094, 11, 33, 0), (127, .aload_n 0, 1, 0, 0, 0, 0), (128, .iconst 1, 1, 0, 0, 0, 0), (129, .invokevirtual 245, 3, 2, 11, 1, 1185), (132, .aload_n 0, 1, 0, 0, 0, 0), (133, .aload_n 0, 1, 0, 0, 0, 0), (134, .invokevirtual 102, 3, 3, 11, 0, 1218), (137, .invokevirtual 249, 3, 4, 11, 1, 1206), (140, .ireturn, 1, 0, 0, 0, 0)]
set_option maxRecDepth 100000 in
set_option maxHeartbeats 4000000 in
theorem c_X11_loop (l : Launch) (G : vg_G) (hp : vg_Hp G) : vg_Ct l G vg_sh r_X11_loop := by
  refine vg_meth hp vg_sh_ok r_X11_loop k_X11_loop rfl (fun h => by cases h) o_X11_loop [r_X11_isFrom, r_X11_refuse, r_X11_begins, r_X11_elements, r_X11_gives] false (by decide +kernel) (by decide +kernel) ⟨_, _, rfl, rfl⟩ (List.forall_mem_cons.mpr ⟨⟨c_X11_isFrom l G hp, Nat.le_of_ble_eq_true rfl, Nat.le_of_ble_eq_true rfl⟩, List.forall_mem_cons.mpr ⟨⟨c_X11_refuse l G hp, Nat.le_of_ble_eq_true rfl, Nat.le_of_ble_eq_true rfl⟩, List.forall_mem_cons.mpr ⟨⟨c_X11_begins l G hp, Nat.le_of_ble_eq_true rfl, Nat.le_of_ble_eq_true rfl⟩, List.forall_mem_cons.mpr ⟨⟨c_X11_elements l G hp, Nat.le_of_ble_eq_true rfl, Nat.le_of_ble_eq_true rfl⟩, List.forall_mem_cons.mpr ⟨⟨c_X11_gives l G hp, Nat.le_of_ble_eq_true rfl, Nat.le_of_ble_eq_true rfl⟩, fun _ h => absurd h List.not_mem_nil⟩⟩⟩⟩⟩) (fun h => by cases h) 600 ?_
  intro as s0 hpre
  obtain ⟨r, a1, a2, a3, a4, a5, a6, rfl, hr, i0, p0⟩ := hpre
  simp only [List.mem_cons, List.not_mem_nil, or_false] at hr
  rcases hr with rfl
  ·
    have z0 : (Int32.ofInt 0).toInt = 0 := by decide
    have z1 : (Int32.ofInt 1).toInt = 1 := by decide
    have z2 : (Int32.ofInt 2).toInt = 2 := by decide
    have z4 : (Int32.ofInt 4).toInt = 4 := by decide
    have z16 : (Int32.ofInt 16).toInt = 16 := by decide
    have z17 : (Int32.ofInt 17).toInt = 17 := by decide
    have z5000 : (Int32.ofInt 5000).toInt = 5000 := by decide
    have z60000 : (Int32.ofInt 60000).toInt = 60000 := by decide
    refine ⟨Nat.le_of_ble_eq_true rfl, [], ?_, fun _ h => absurd h List.not_mem_nil⟩
    ·
      refine And.intro (Nat.le_of_ble_eq_true rfl) (And.intro ⟨a1, (Int32.ofInt 0), (Int32.ofInt 2), rfl, trivial⟩ ?_)
      intro v1 s3 h2
      have h2 : s3 = s0 ∧ ((v1.toInt = 1 ∧ (Int32.ofInt 0).toInt ≤ a1.toInt ∧ a1.toInt ≤ (Int32.ofInt 2).toInt) ∨ (v1.toInt = 0 ∧ (a1.toInt < (Int32.ofInt 0).toInt ∨ (Int32.ofInt 2).toInt < a1.toInt))) := h2
      have q6 := h2.1.symm
      subst q6
      have q7 := h2.2
      refine And.intro (fun c8 => ?_) (fun c8 => ?_)
      · have c8 : v1.toInt = 0 := c8
        refine And.intro (fun c9 => ?_) (fun c9 => ?_)
        · have c9 : (Int32.ofInt 0).toInt = 0 := c9
          refine And.intro (Nat.le_of_ble_eq_true rfl) (And.intro ⟨55, (Int32.ofInt 1), rfl, by decide, i0⟩ ?_)
          intro v10 s12 h11
          have h11 : Iv s12 ∧ Kp s0 s12 ∧ vk s12 = ((vk s0).1, (vk s0).2) ∧ (v10.toInt = -1) := h11
          have i13 := h11.1
          have k14 : K_X11_loop s0 s12 := Kx.tr Kx.rf ((h11.2.1).px)
          have u15 : vk s12 = ((vk s0).1, (vk s0).2) := h11.2.2.1.trans rfl
          have q16 := h11.2.2.2
          show Iv s12 ∧ K_X11_loop s0 s12 ∧ vk s12 = ((vk s0).1, if (0 ≤ a1.toInt ∧ a1.toInt ≤ 2 ∧ 1 ≤ a2.toInt ∧ a2.toInt ≤ 4 ∧ 1 ≤ a3.toInt ∧ a3.toInt ≤ 5000 ∧ 2 ≤ a4.toInt ∧ a4.toInt ≤ 17 ∧ 1 ≤ a5.toInt ∧ a5.toInt ≤ 60000 ∧ (vg_eo a1 a2 a4).toInt ≤ 16) then kb2 (Int64.ofNat 0) 1 3 (vk s0).2 else (vk s0).2) ∧ (((0 ≤ a1.toInt ∧ a1.toInt ≤ 2 ∧ 1 ≤ a2.toInt ∧ a2.toInt ≤ 4 ∧ 1 ≤ a3.toInt ∧ a3.toInt ≤ 5000 ∧ 2 ≤ a4.toInt ∧ a4.toInt ≤ 17 ∧ 1 ≤ a5.toInt ∧ a5.toInt ≤ 60000 ∧ (vg_eo a1 a2 a4).toInt ≤ 16) ∧ v10.toInt = (vg_eo a1 a2 a4).toInt ∧ (vg_me s12).toInt = (vg_eo a1 a2 a4).toInt ∧ (s12.1 55 33).toInt = 0) ∨ (¬ (0 ≤ a1.toInt ∧ a1.toInt ≤ 2 ∧ 1 ≤ a2.toInt ∧ a2.toInt ≤ 4 ∧ 1 ≤ a3.toInt ∧ a3.toInt ≤ 5000 ∧ 2 ≤ a4.toInt ∧ a4.toInt ≤ 17 ∧ 1 ≤ a5.toInt ∧ a5.toInt ≤ 60000 ∧ (vg_eo a1 a2 a4).toInt ≤ 16) ∧ v10.toInt = -1 ∧ (vg_me s12).toInt = (vg_me s0).toInt ∧ (s12.1 55 33).toInt = (s0.1 55 33).toInt))
          exact ⟨i13, k14, (by first | exact vk_rr u15 (by rw [if_pos (by omega), z1]) | exact vk_rr u15 (by rw [if_neg (by omega)])), (by first | exact Or.inl ⟨by omega, by omega, by simp only [vg_me, vg_eo, none, none, none], by rw [none]; exact z0⟩ | exact Or.inr ⟨by omega, by omega, congrArg Int32.toInt (vg_me_eq (h11.2.1.1 55 7 rfl) (h11.2.1.1 55 8 rfl) (h11.2.1.1 55 10 rfl)), congrArg Int32.toInt (h11.2.1.1 55 33 rfl)⟩)⟩
        · have c9 : ¬ ((Int32.ofInt 0).toInt = 0) := c9
          exfalso
          omega
      · have c8 : ¬ (v1.toInt = 0) := c8
        refine And.intro (Nat.le_of_ble_eq_true rfl) (And.intro ⟨a2, (Int32.ofInt 1), (Int32.ofInt 4), rfl, trivial⟩ ?_)
        intro v17 s19 h18
        have h18 : s19 = s0 ∧ ((v17.toInt = 1 ∧ (Int32.ofInt 1).toInt ≤ a2.toInt ∧ a2.toInt ≤ (Int32.ofInt 4).toInt) ∨ (v17.toInt = 0 ∧ (a2.toInt < (Int32.ofInt 1).toInt ∨ (Int32.ofInt 4).toInt < a2.toInt))) := h18
        have q22 := h18.1.symm
        subst q22
        have q23 := h18.2
        refine And.intro (fun c24 => ?_) (fun c24 => ?_)
        · have c24 : v17.toInt = 0 := c24
          refine And.intro (fun c25 => ?_) (fun c25 => ?_)
          · have c25 : (Int32.ofInt 0).toInt = 0 := c25
            refine And.intro (Nat.le_of_ble_eq_true rfl) (And.intro ⟨55, (Int32.ofInt 1), rfl, by decide, i0⟩ ?_)
            intro v26 s28 h27
            have h27 : Iv s28 ∧ Kp s0 s28 ∧ vk s28 = ((vk s0).1, (vk s0).2) ∧ (v26.toInt = -1) := h27
            have i29 := h27.1
            have k30 : K_X11_loop s0 s28 := Kx.tr Kx.rf ((h27.2.1).px)
            have u31 : vk s28 = ((vk s0).1, (vk s0).2) := h27.2.2.1.trans rfl
            have q32 := h27.2.2.2
            show Iv s28 ∧ K_X11_loop s0 s28 ∧ vk s28 = ((vk s0).1, if (0 ≤ a1.toInt ∧ a1.toInt ≤ 2 ∧ 1 ≤ a2.toInt ∧ a2.toInt ≤ 4 ∧ 1 ≤ a3.toInt ∧ a3.toInt ≤ 5000 ∧ 2 ≤ a4.toInt ∧ a4.toInt ≤ 17 ∧ 1 ≤ a5.toInt ∧ a5.toInt ≤ 60000 ∧ (vg_eo a1 a2 a4).toInt ≤ 16) then kb2 (Int64.ofNat 0) 1 3 (vk s0).2 else (vk s0).2) ∧ (((0 ≤ a1.toInt ∧ a1.toInt ≤ 2 ∧ 1 ≤ a2.toInt ∧ a2.toInt ≤ 4 ∧ 1 ≤ a3.toInt ∧ a3.toInt ≤ 5000 ∧ 2 ≤ a4.toInt ∧ a4.toInt ≤ 17 ∧ 1 ≤ a5.toInt ∧ a5.toInt ≤ 60000 ∧ (vg_eo a1 a2 a4).toInt ≤ 16) ∧ v26.toInt = (vg_eo a1 a2 a4).toInt ∧ (vg_me s28).toInt = (vg_eo a1 a2 a4).toInt ∧ (s28.1 55 33).toInt = 0) ∨ (¬ (0 ≤ a1.toInt ∧ a1.toInt ≤ 2 ∧ 1 ≤ a2.toInt ∧ a2.toInt ≤ 4 ∧ 1 ≤ a3.toInt ∧ a3.toInt ≤ 5000 ∧ 2 ≤ a4.toInt ∧ a4.toInt ≤ 17 ∧ 1 ≤ a5.toInt ∧ a5.toInt ≤ 60000 ∧ (vg_eo a1 a2 a4).toInt ≤ 16) ∧ v26.toInt = -1 ∧ (vg_me s28).toInt = (vg_me s0).toInt ∧ (s28.1 55 33).toInt = (s0.1 55 33).toInt))
            exact ⟨i29, k30, (by first | exact vk_rr u31 (by rw [if_pos (by omega), z1]) | exact vk_rr u31 (by rw [if_neg (by omega)])), (by first | exact Or.inl ⟨by omega, by omega, by simp only [vg_me, vg_eo, none, none, none], by rw [none]; exact z0⟩ | exact Or.inr ⟨by omega, by omega, congrArg Int32.toInt (vg_me_eq (h27.2.1.1 55 7 rfl) (h27.2.1.1 55 8 rfl) (h27.2.1.1 55 10 rfl)), congrArg Int32.toInt (h27.2.1.1 55 33 rfl)⟩)⟩
          · have c25 : ¬ ((Int32.ofInt 0).toInt = 0) := c25
            exfalso
            omega
        · have c24 : ¬ (v17.toInt = 0) := c24
          refine And.intro (Nat.le_of_ble_eq_true rfl) (And.intro ⟨a3, (Int32.ofInt 1), (Int32.ofInt 5000), rfl, trivial⟩ ?_)
          intro v33 s35 h34
          have h34 : s35 = s0 ∧ ((v33.toInt = 1 ∧ (Int32.ofInt 1).toInt ≤ a3.toInt ∧ a3.toInt ≤ (Int32.ofInt 5000).toInt) ∨ (v33.toInt = 0 ∧ (a3.toInt < (Int32.ofInt 1).toInt ∨ (Int32.ofInt 5000).toInt < a3.toInt))) := h34
          have q38 := h34.1.symm
          subst q38
          have q39 := h34.2
          refine And.intro (fun c40 => ?_) (fun c40 => ?_)
          · have c40 : v33.toInt = 0 := c40
            refine And.intro (fun c41 => ?_) (fun c41 => ?_)
            · have c41 : (Int32.ofInt 0).toInt = 0 := c41
              refine And.intro (Nat.le_of_ble_eq_true rfl) (And.intro ⟨55, (Int32.ofInt 1), rfl, by decide, i0⟩ ?_)
              intro v42 s44 h43
              have h43 : Iv s44 ∧ Kp s0 s44 ∧ vk s44 = ((vk s0).1, (vk s0).2) ∧ (v42.toInt = -1) := h43
              have i45 := h43.1
              have k46 : K_X11_loop s0 s44 := Kx.tr Kx.rf ((h43.2.1).px)
              have u47 : vk s44 = ((vk s0).1, (vk s0).2) := h43.2.2.1.trans rfl
              have q48 := h43.2.2.2
              show Iv s44 ∧ K_X11_loop s0 s44 ∧ vk s44 = ((vk s0).1, if (0 ≤ a1.toInt ∧ a1.toInt ≤ 2 ∧ 1 ≤ a2.toInt ∧ a2.toInt ≤ 4 ∧ 1 ≤ a3.toInt ∧ a3.toInt ≤ 5000 ∧ 2 ≤ a4.toInt ∧ a4.toInt ≤ 17 ∧ 1 ≤ a5.toInt ∧ a5.toInt ≤ 60000 ∧ (vg_eo a1 a2 a4).toInt ≤ 16) then kb2 (Int64.ofNat 0) 1 3 (vk s0).2 else (vk s0).2) ∧ (((0 ≤ a1.toInt ∧ a1.toInt ≤ 2 ∧ 1 ≤ a2.toInt ∧ a2.toInt ≤ 4 ∧ 1 ≤ a3.toInt ∧ a3.toInt ≤ 5000 ∧ 2 ≤ a4.toInt ∧ a4.toInt ≤ 17 ∧ 1 ≤ a5.toInt ∧ a5.toInt ≤ 60000 ∧ (vg_eo a1 a2 a4).toInt ≤ 16) ∧ v42.toInt = (vg_eo a1 a2 a4).toInt ∧ (vg_me s44).toInt = (vg_eo a1 a2 a4).toInt ∧ (s44.1 55 33).toInt = 0) ∨ (¬ (0 ≤ a1.toInt ∧ a1.toInt ≤ 2 ∧ 1 ≤ a2.toInt ∧ a2.toInt ≤ 4 ∧ 1 ≤ a3.toInt ∧ a3.toInt ≤ 5000 ∧ 2 ≤ a4.toInt ∧ a4.toInt ≤ 17 ∧ 1 ≤ a5.toInt ∧ a5.toInt ≤ 60000 ∧ (vg_eo a1 a2 a4).toInt ≤ 16) ∧ v42.toInt = -1 ∧ (vg_me s44).toInt = (vg_me s0).toInt ∧ (s44.1 55 33).toInt = (s0.1 55 33).toInt))
              exact ⟨i45, k46, (by first | exact vk_rr u47 (by rw [if_pos (by omega), z1]) | exact vk_rr u47 (by rw [if_neg (by omega)])), (by first | exact Or.inl ⟨by omega, by omega, by simp only [vg_me, vg_eo, none, none, none], by rw [none]; exact z0⟩ | exact Or.inr ⟨by omega, by omega, congrArg Int32.toInt (vg_me_eq (h43.2.1.1 55 7 rfl) (h43.2.1.1 55 8 rfl) (h43.2.1.1 55 10 rfl)), congrArg Int32.toInt (h43.2.1.1 55 33 rfl)⟩)⟩
            · have c41 : ¬ ((Int32.ofInt 0).toInt = 0) := c41
              exfalso
              omega
          · have c40 : ¬ (v33.toInt = 0) := c40
            refine And.intro (Nat.le_of_ble_eq_true rfl) (And.intro ⟨a4, (Int32.ofInt 2), (Int32.ofInt 17), rfl, trivial⟩ ?_)
            intro v49 s51 h50
            have h50 : s51 = s0 ∧ ((v49.toInt = 1 ∧ (Int32.ofInt 2).toInt ≤ a4.toInt ∧ a4.toInt ≤ (Int32.ofInt 17).toInt) ∨ (v49.toInt = 0 ∧ (a4.toInt < (Int32.ofInt 2).toInt ∨ (Int32.ofInt 17).toInt < a4.toInt))) := h50
            have q54 := h50.1.symm
            subst q54
            have q55 := h50.2
            refine And.intro (fun c56 => ?_) (fun c56 => ?_)
            · have c56 : v49.toInt = 0 := c56
              refine And.intro (fun c57 => ?_) (fun c57 => ?_)
              · have c57 : (Int32.ofInt 0).toInt = 0 := c57
                refine And.intro (Nat.le_of_ble_eq_true rfl) (And.intro ⟨55, (Int32.ofInt 1), rfl, by decide, i0⟩ ?_)
                intro v58 s60 h59
                have h59 : Iv s60 ∧ Kp s0 s60 ∧ vk s60 = ((vk s0).1, (vk s0).2) ∧ (v58.toInt = -1) := h59
                have i61 := h59.1
                have k62 : K_X11_loop s0 s60 := Kx.tr Kx.rf ((h59.2.1).px)
                have u63 : vk s60 = ((vk s0).1, (vk s0).2) := h59.2.2.1.trans rfl
                have q64 := h59.2.2.2
                show Iv s60 ∧ K_X11_loop s0 s60 ∧ vk s60 = ((vk s0).1, if (0 ≤ a1.toInt ∧ a1.toInt ≤ 2 ∧ 1 ≤ a2.toInt ∧ a2.toInt ≤ 4 ∧ 1 ≤ a3.toInt ∧ a3.toInt ≤ 5000 ∧ 2 ≤ a4.toInt ∧ a4.toInt ≤ 17 ∧ 1 ≤ a5.toInt ∧ a5.toInt ≤ 60000 ∧ (vg_eo a1 a2 a4).toInt ≤ 16) then kb2 (Int64.ofNat 0) 1 3 (vk s0).2 else (vk s0).2) ∧ (((0 ≤ a1.toInt ∧ a1.toInt ≤ 2 ∧ 1 ≤ a2.toInt ∧ a2.toInt ≤ 4 ∧ 1 ≤ a3.toInt ∧ a3.toInt ≤ 5000 ∧ 2 ≤ a4.toInt ∧ a4.toInt ≤ 17 ∧ 1 ≤ a5.toInt ∧ a5.toInt ≤ 60000 ∧ (vg_eo a1 a2 a4).toInt ≤ 16) ∧ v58.toInt = (vg_eo a1 a2 a4).toInt ∧ (vg_me s60).toInt = (vg_eo a1 a2 a4).toInt ∧ (s60.1 55 33).toInt = 0) ∨ (¬ (0 ≤ a1.toInt ∧ a1.toInt ≤ 2 ∧ 1 ≤ a2.toInt ∧ a2.toInt ≤ 4 ∧ 1 ≤ a3.toInt ∧ a3.toInt ≤ 5000 ∧ 2 ≤ a4.toInt ∧ a4.toInt ≤ 17 ∧ 1 ≤ a5.toInt ∧ a5.toInt ≤ 60000 ∧ (vg_eo a1 a2 a4).toInt ≤ 16) ∧ v58.toInt = -1 ∧ (vg_me s60).toInt = (vg_me s0).toInt ∧ (s60.1 55 33).toInt = (s0.1 55 33).toInt))
                exact ⟨i61, k62, (by first | exact vk_rr u63 (by rw [if_pos (by omega), z1]) | exact vk_rr u63 (by rw [if_neg (by omega)])), (by first | exact Or.inl ⟨by omega, by omega, by simp only [vg_me, vg_eo, none, none, none], by rw [none]; exact z0⟩ | exact Or.inr ⟨by omega, by omega, congrArg Int32.toInt (vg_me_eq (h59.2.1.1 55 7 rfl) (h59.2.1.1 55 8 rfl) (h59.2.1.1 55 10 rfl)), congrArg Int32.toInt (h59.2.1.1 55 33 rfl)⟩)⟩
              · have c57 : ¬ ((Int32.ofInt 0).toInt = 0) := c57
                exfalso
                omega
            · have c56 : ¬ (v49.toInt = 0) := c56
              refine And.intro (Nat.le_of_ble_eq_true rfl) (And.intro ⟨a5, (Int32.ofInt 1), (Int32.ofInt 60000), rfl, trivial⟩ ?_)
              intro v65 s67 h66
              have h66 : s67 = s0 ∧ ((v65.toInt = 1 ∧ (Int32.ofInt 1).toInt ≤ a5.toInt ∧ a5.toInt ≤ (Int32.ofInt 60000).toInt) ∨ (v65.toInt = 0 ∧ (a5.toInt < (Int32.ofInt 1).toInt ∨ (Int32.ofInt 60000).toInt < a5.toInt))) := h66
              have q70 := h66.1.symm
              subst q70
              have q71 := h66.2
              refine And.intro (fun c72 => ?_) (fun c72 => ?_)
              · have c72 : v65.toInt = 0 := c72
                refine And.intro (fun c73 => ?_) (fun c73 => ?_)
                · have c73 : (Int32.ofInt 0).toInt = 0 := c73
                  refine And.intro (Nat.le_of_ble_eq_true rfl) (And.intro ⟨55, (Int32.ofInt 1), rfl, by decide, i0⟩ ?_)
                  intro v74 s76 h75
                  have h75 : Iv s76 ∧ Kp s0 s76 ∧ vk s76 = ((vk s0).1, (vk s0).2) ∧ (v74.toInt = -1) := h75
                  have i77 := h75.1
                  have k78 : K_X11_loop s0 s76 := Kx.tr Kx.rf ((h75.2.1).px)
                  have u79 : vk s76 = ((vk s0).1, (vk s0).2) := h75.2.2.1.trans rfl
                  have q80 := h75.2.2.2
                  show Iv s76 ∧ K_X11_loop s0 s76 ∧ vk s76 = ((vk s0).1, if (0 ≤ a1.toInt ∧ a1.toInt ≤ 2 ∧ 1 ≤ a2.toInt ∧ a2.toInt ≤ 4 ∧ 1 ≤ a3.toInt ∧ a3.toInt ≤ 5000 ∧ 2 ≤ a4.toInt ∧ a4.toInt ≤ 17 ∧ 1 ≤ a5.toInt ∧ a5.toInt ≤ 60000 ∧ (vg_eo a1 a2 a4).toInt ≤ 16) then kb2 (Int64.ofNat 0) 1 3 (vk s0).2 else (vk s0).2) ∧ (((0 ≤ a1.toInt ∧ a1.toInt ≤ 2 ∧ 1 ≤ a2.toInt ∧ a2.toInt ≤ 4 ∧ 1 ≤ a3.toInt ∧ a3.toInt ≤ 5000 ∧ 2 ≤ a4.toInt ∧ a4.toInt ≤ 17 ∧ 1 ≤ a5.toInt ∧ a5.toInt ≤ 60000 ∧ (vg_eo a1 a2 a4).toInt ≤ 16) ∧ v74.toInt = (vg_eo a1 a2 a4).toInt ∧ (vg_me s76).toInt = (vg_eo a1 a2 a4).toInt ∧ (s76.1 55 33).toInt = 0) ∨ (¬ (0 ≤ a1.toInt ∧ a1.toInt ≤ 2 ∧ 1 ≤ a2.toInt ∧ a2.toInt ≤ 4 ∧ 1 ≤ a3.toInt ∧ a3.toInt ≤ 5000 ∧ 2 ≤ a4.toInt ∧ a4.toInt ≤ 17 ∧ 1 ≤ a5.toInt ∧ a5.toInt ≤ 60000 ∧ (vg_eo a1 a2 a4).toInt ≤ 16) ∧ v74.toInt = -1 ∧ (vg_me s76).toInt = (vg_me s0).toInt ∧ (s76.1 55 33).toInt = (s0.1 55 33).toInt))
                  exact ⟨i77, k78, (by first | exact vk_rr u79 (by rw [if_pos (by omega), z1]) | exact vk_rr u79 (by rw [if_neg (by omega)])), (by first | exact Or.inl ⟨by omega, by omega, by simp only [vg_me, vg_eo, none, none, none], by rw [none]; exact z0⟩ | exact Or.inr ⟨by omega, by omega, congrArg Int32.toInt (vg_me_eq (h75.2.1.1 55 7 rfl) (h75.2.1.1 55 8 rfl) (h75.2.1.1 55 10 rfl)), congrArg Int32.toInt (h75.2.1.1 55 33 rfl)⟩)⟩
                · have c73 : ¬ ((Int32.ofInt 0).toInt = 0) := c73
                  exfalso
                  omega
              · have c72 : ¬ (v65.toInt = 0) := c72
                refine And.intro (fun c81 => ?_) (fun c81 => ?_)
                · have c81 : (Int32.ofInt 1).toInt = 0 := c81
                  exfalso
                  omega
                · have c81 : ¬ ((Int32.ofInt 1).toInt = 0) := c81
                  refine And.intro (fun c82 => ?_) (fun c82 => ?_)
                  · have c82 : ¬ a1.toInt = (Int32.ofInt 2).toInt := c82
                    have y2 : 1 ≤ (vg_eo a1 a2 a4).toInt ∧ (vg_eo a1 a2 a4).toInt ≤ 16 := by first | omega | (simp only [vg_eo]; rw [if_neg (by omega)]; have h9 := vg_sub (x := a4) (y := Int32.ofInt 1) rfl (by omega) (by omega); omega)
                    intro s83 e84
                    have k86 : K_X11_loop s0 s83 := Kx.u1 Kx.rf e84 rfl
                    have u87 : vk s83 = ((vk s0).1, (vk s0).2) := vk_k1 rfl e84 rfl
                    have g88 : s83.1 55 7 = a1 := by rw [e84]; exact vg_u1_self
                    intro s89 e90
                    have k92 : K_X11_loop s0 s89 := Kx.u1 k86 e90 rfl
                    have u93 : vk s89 = ((vk s0).1, (vk s0).2) := vk_k1 u87 e90 rfl
                    have g94 : s89.1 55 7 = a1 := by rw [e90, vg_u1_at (a := 55) (b := 7) (k := 55) (i := 8) (by decide)]; exact g88
                    have g95 : s89.1 55 8 = a2 := by rw [e90]; exact vg_u1_self
                    intro s96 e97
                    have k99 : K_X11_loop s0 s96 := Kx.u1 k92 e97 rfl
                    have u100 : vk s96 = ((vk s0).1, (vk s0).2) := vk_k1 u93 e97 rfl
                    have g101 : s96.1 55 7 = a1 := by rw [e97, vg_u1_at (a := 55) (b := 7) (k := 55) (i := 9) (by decide)]; exact g94
                    have g102 : s96.1 55 8 = a2 := by rw [e97, vg_u1_at (a := 55) (b := 8) (k := 55) (i := 9) (by decide)]; exact g95
                    intro s103 e104
                    have k106 : K_X11_loop s0 s103 := Kx.u1 k99 e104 rfl
                    have u107 : vk s103 = ((vk s0).1, (vk s0).2) := vk_k1 u100 e104 rfl
                    have g108 : s103.1 55 7 = a1 := by rw [e104, vg_u1_at (a := 55) (b := 7) (k := 55) (i := 10) (by decide)]; exact g101
                    have g109 : s103.1 55 8 = a2 := by rw [e104, vg_u1_at (a := 55) (b := 8) (k := 55) (i := 10) (by decide)]; exact g102
                    have g110 : s103.1 55 10 = a4 := by rw [e104]; exact vg_u1_self
                    intro s111 e112
                    have k114 : K_X11_loop s0 s111 := Kx.u1 k106 e112 rfl
                    have u115 : vk s111 = ((vk s0).1, (vk s0).2) := vk_k1 u107 e112 rfl
                    have g116 : s111.1 55 7 = a1 := by rw [e112, vg_u1_at (a := 55) (b := 7) (k := 55) (i := 11) (by decide)]; exact g108
                    have g117 : s111.1 55 8 = a2 := by rw [e112, vg_u1_at (a := 55) (b := 8) (k := 55) (i := 11) (by decide)]; exact g109
                    have g118 : s111.1 55 10 = a4 := by rw [e112, vg_u1_at (a := 55) (b := 10) (k := 55) (i := 11) (by decide)]; exact g110
                    refine And.intro (by first | exact Or.inl rfl | exact Or.inr rfl | exact vg_01 (by omega) (by omega)) ?_
                    intro s119 e120
                    have k122 : K_X11_loop s0 s119 := Kx.u1 k114 e120 rfl
                    have u123 : vk s119 = ((vk s0).1, (vk s0).2) := vk_k1 u115 e120 rfl
                    have g124 : s119.1 55 7 = a1 := by rw [e120, vg_u1_at (a := 55) (b := 7) (k := 55) (i := 14) (by decide)]; exact g116
                    have g125 : s119.1 55 8 = a2 := by rw [e120, vg_u1_at (a := 55) (b := 8) (k := 55) (i := 14) (by decide)]; exact g117
                    have g126 : s119.1 55 10 = a4 := by rw [e120, vg_u1_at (a := 55) (b := 10) (k := 55) (i := 14) (by decide)]; exact g118
                    intro s127 e128
                    have k130 : K_X11_loop s0 s127 := Kx.u1 k122 e128 rfl
                    have u131 : vk s127 = ((vk s0).1, (vk s0).2) := vk_k1 u123 e128 rfl
                    have g132 : s127.1 55 7 = a1 := by rw [e128, vg_u1_at (a := 55) (b := 7) (k := 55) (i := 33) (by decide)]; exact g124
                    have g133 : s127.1 55 8 = a2 := by rw [e128, vg_u1_at (a := 55) (b := 8) (k := 55) (i := 33) (by decide)]; exact g125
                    have g134 : s127.1 55 10 = a4 := by rw [e128, vg_u1_at (a := 55) (b := 10) (k := 55) (i := 33) (by decide)]; exact g126
                    have g135 : s127.1 55 33 = (Int32.ofInt 0) := by rw [e128]; exact vg_u1_self
                    have i136 : Iv s127 := vg_ivloop i0 e84 e90 e97 e104 e112 e120 e128 (by omega) (by omega) (by omega) y2
                    refine And.intro (Nat.le_of_ble_eq_true rfl) (And.intro ⟨55, (Int32.ofInt 1), rfl, by decide, i136, by omega⟩ ?_)
                    intro s138 h137
                    have h137 : Iv s138 ∧ Kp s127 s138 ∧ vk s138 = ((vk s127).1, kb2 (Int64.ofNat 0) (Int32.ofInt 1).toInt 3 (vk s127).2) ∧ (True) := h137
                    have i139 := h137.1
                    have k140 : K_X11_loop s0 s138 := Kx.tr k130 ((h137.2.1).px)
                    have u141 : vk s138 = ((vk s0).1, (kb2 (Int64.ofNat 0) (Int32.ofInt 1).toInt 3 (vk s0).2)) := (by rw [h137.2.2.1, u131])
                    have g142 : s138.1 55 7 = a1 := by rw [h137.2.1.1 55 7 rfl]; exact g132
                    have g143 : s138.1 55 8 = a2 := by rw [h137.2.1.1 55 8 rfl]; exact g133
                    have g144 : s138.1 55 10 = a4 := by rw [h137.2.1.1 55 10 rfl]; exact g134
                    have g145 : s138.1 55 33 = (Int32.ofInt 0) := by rw [h137.2.1.1 55 33 rfl]; exact g135
                    refine And.intro (Nat.le_of_ble_eq_true rfl) (And.intro ⟨55, rfl, by decide, i139⟩ ?_)
                    intro v146 s148 h147
                    have h147 : s148 = s138 ∧ (v146 = vg_me s138 ∧ 1 ≤ v146.toInt ∧ v146.toInt ≤ 16) := h147
                    have q151 := h147.1.symm
                    subst q151
                    have q152 := h147.2
                    have y3 : v146.toInt = (vg_eo a1 a2 a4).toInt := by rw [q152.1]; simp only [vg_me, vg_eo, g142, g143, g144]
                    refine And.intro (Nat.le_of_ble_eq_true rfl) (And.intro ⟨55, v146, rfl, by decide, i139⟩ ?_)
                    intro v153 s155 h154
                    have h154 : Iv s155 ∧ Kp s138 s155 ∧ vk s155 = ((vk s138).1, (vk s138).2) ∧ (v153 = v146 ∧ v153.toInt = v146.toInt) := h154
                    have i156 := h154.1
                    have k157 : K_X11_loop s0 s155 := Kx.tr k140 ((h154.2.1).px)
                    have u158 : vk s155 = ((vk s0).1, (kb2 (Int64.ofNat 0) (Int32.ofInt 1).toInt 3 (vk s0).2)) := h154.2.2.1.trans u141
                    have q159 := h154.2.2.2
                    have g160 : s155.1 55 7 = a1 := by rw [h154.2.1.1 55 7 rfl]; exact g142
                    have g161 : s155.1 55 8 = a2 := by rw [h154.2.1.1 55 8 rfl]; exact g143
                    have g162 : s155.1 55 10 = a4 := by rw [h154.2.1.1 55 10 rfl]; exact g144
                    have g163 : s155.1 55 33 = (Int32.ofInt 0) := by rw [h154.2.1.1 55 33 rfl]; exact g145
                    show Iv s155 ∧ K_X11_loop s0 s155 ∧ vk s155 = ((vk s0).1, if (0 ≤ a1.toInt ∧ a1.toInt ≤ 2 ∧ 1 ≤ a2.toInt ∧ a2.toInt ≤ 4 ∧ 1 ≤ a3.toInt ∧ a3.toInt ≤ 5000 ∧ 2 ≤ a4.toInt ∧ a4.toInt ≤ 17 ∧ 1 ≤ a5.toInt ∧ a5.toInt ≤ 60000 ∧ (vg_eo a1 a2 a4).toInt ≤ 16) then kb2 (Int64.ofNat 0) 1 3 (vk s0).2 else (vk s0).2) ∧ (((0 ≤ a1.toInt ∧ a1.toInt ≤ 2 ∧ 1 ≤ a2.toInt ∧ a2.toInt ≤ 4 ∧ 1 ≤ a3.toInt ∧ a3.toInt ≤ 5000 ∧ 2 ≤ a4.toInt ∧ a4.toInt ≤ 17 ∧ 1 ≤ a5.toInt ∧ a5.toInt ≤ 60000 ∧ (vg_eo a1 a2 a4).toInt ≤ 16) ∧ v153.toInt = (vg_eo a1 a2 a4).toInt ∧ (vg_me s155).toInt = (vg_eo a1 a2 a4).toInt ∧ (s155.1 55 33).toInt = 0) ∨ (¬ (0 ≤ a1.toInt ∧ a1.toInt ≤ 2 ∧ 1 ≤ a2.toInt ∧ a2.toInt ≤ 4 ∧ 1 ≤ a3.toInt ∧ a3.toInt ≤ 5000 ∧ 2 ≤ a4.toInt ∧ a4.toInt ≤ 17 ∧ 1 ≤ a5.toInt ∧ a5.toInt ≤ 60000 ∧ (vg_eo a1 a2 a4).toInt ≤ 16) ∧ v153.toInt = -1 ∧ (vg_me s155).toInt = (vg_me s0).toInt ∧ (s155.1 55 33).toInt = (s0.1 55 33).toInt))
                    exact ⟨i156, k157, (by first | exact vk_rr u158 (by rw [if_pos (by omega), z1]) | exact vk_rr u158 (by rw [if_neg (by omega)])), (by first | exact Or.inl ⟨by omega, by omega, by simp only [vg_me, vg_eo, g160, g161, g162], by rw [g163]; exact z0⟩ | exact Or.inr ⟨by omega, by omega, congrArg Int32.toInt (vg_me_eq (h154.2.1.1 55 7 rfl) (h154.2.1.1 55 8 rfl) (h154.2.1.1 55 10 rfl)), congrArg Int32.toInt (h154.2.1.1 55 33 rfl)⟩)⟩
                  · have c82 : ¬ (¬ a1.toInt = (Int32.ofInt 2).toInt) := c82
                    intro v164 e165
                    have b166 := vg_sub e165 (by omega) (by omega)
                    intro v167 e168
                    have b169 := vg_shl1 e168 (by omega) (by omega) (by omega)
                    intro v170 e171
                    have b172 := vg_sub e171 (by omega) (by omega)
                    intro v173 e174
                    have b175 := (vg_mulr e174 (by omega) (by omega) (by omega) (by omega)).2
                    have y1 : v173.toInt = (vg_eo a1 a2 a4).toInt := by simp only [vg_eo]; rw [if_pos (by omega)]; subst_vars; rfl
                    refine And.intro (fun c176 => ?_) (fun c176 => ?_)
                    · have c176 : v173.toInt ≤ (Int32.ofInt 16).toInt := c176
                      have y2 : 1 ≤ (vg_eo a1 a2 a4).toInt ∧ (vg_eo a1 a2 a4).toInt ≤ 16 := by first | omega | (simp only [vg_eo]; rw [if_neg (by omega)]; have h9 := vg_sub (x := a4) (y := Int32.ofInt 1) rfl (by omega) (by omega); omega)
                      intro s177 e178
                      have k180 : K_X11_loop s0 s177 := Kx.u1 Kx.rf e178 rfl
                      have u181 : vk s177 = ((vk s0).1, (vk s0).2) := vk_k1 rfl e178 rfl
                      have g182 : s177.1 55 7 = a1 := by rw [e178]; exact vg_u1_self
                      intro s183 e184
                      have k186 : K_X11_loop s0 s183 := Kx.u1 k180 e184 rfl
                      have u187 : vk s183 = ((vk s0).1, (vk s0).2) := vk_k1 u181 e184 rfl
                      have g188 : s183.1 55 7 = a1 := by rw [e184, vg_u1_at (a := 55) (b := 7) (k := 55) (i := 8) (by decide)]; exact g182
                      have g189 : s183.1 55 8 = a2 := by rw [e184]; exact vg_u1_self
                      intro s190 e191
                      have k193 : K_X11_loop s0 s190 := Kx.u1 k186 e191 rfl
                      have u194 : vk s190 = ((vk s0).1, (vk s0).2) := vk_k1 u187 e191 rfl
                      have g195 : s190.1 55 7 = a1 := by rw [e191, vg_u1_at (a := 55) (b := 7) (k := 55) (i := 9) (by decide)]; exact g188
                      have g196 : s190.1 55 8 = a2 := by rw [e191, vg_u1_at (a := 55) (b := 8) (k := 55) (i := 9) (by decide)]; exact g189
                      intro s197 e198
                      have k200 : K_X11_loop s0 s197 := Kx.u1 k193 e198 rfl
                      have u201 : vk s197 = ((vk s0).1, (vk s0).2) := vk_k1 u194 e198 rfl
                      have g202 : s197.1 55 7 = a1 := by rw [e198, vg_u1_at (a := 55) (b := 7) (k := 55) (i := 10) (by decide)]; exact g195
                      have g203 : s197.1 55 8 = a2 := by rw [e198, vg_u1_at (a := 55) (b := 8) (k := 55) (i := 10) (by decide)]; exact g196
                      have g204 : s197.1 55 10 = a4 := by rw [e198]; exact vg_u1_self
                      intro s205 e206
                      have k208 : K_X11_loop s0 s205 := Kx.u1 k200 e206 rfl
                      have u209 : vk s205 = ((vk s0).1, (vk s0).2) := vk_k1 u201 e206 rfl
                      have g210 : s205.1 55 7 = a1 := by rw [e206, vg_u1_at (a := 55) (b := 7) (k := 55) (i := 11) (by decide)]; exact g202
                      have g211 : s205.1 55 8 = a2 := by rw [e206, vg_u1_at (a := 55) (b := 8) (k := 55) (i := 11) (by decide)]; exact g203
                      have g212 : s205.1 55 10 = a4 := by rw [e206, vg_u1_at (a := 55) (b := 10) (k := 55) (i := 11) (by decide)]; exact g204
                      refine And.intro (by first | exact Or.inl rfl | exact Or.inr rfl | exact vg_01 (by omega) (by omega)) ?_
                      intro s213 e214
                      have k216 : K_X11_loop s0 s213 := Kx.u1 k208 e214 rfl
                      have u217 : vk s213 = ((vk s0).1, (vk s0).2) := vk_k1 u209 e214 rfl
                      have g218 : s213.1 55 7 = a1 := by rw [e214, vg_u1_at (a := 55) (b := 7) (k := 55) (i := 14) (by decide)]; exact g210
                      have g219 : s213.1 55 8 = a2 := by rw [e214, vg_u1_at (a := 55) (b := 8) (k := 55) (i := 14) (by decide)]; exact g211
                      have g220 : s213.1 55 10 = a4 := by rw [e214, vg_u1_at (a := 55) (b := 10) (k := 55) (i := 14) (by decide)]; exact g212
                      intro s221 e222
                      have k224 : K_X11_loop s0 s221 := Kx.u1 k216 e222 rfl
                      have u225 : vk s221 = ((vk s0).1, (vk s0).2) := vk_k1 u217 e222 rfl
                      have g226 : s221.1 55 7 = a1 := by rw [e222, vg_u1_at (a := 55) (b := 7) (k := 55) (i := 33) (by decide)]; exact g218
                      have g227 : s221.1 55 8 = a2 := by rw [e222, vg_u1_at (a := 55) (b := 8) (k := 55) (i := 33) (by decide)]; exact g219
                      have g228 : s221.1 55 10 = a4 := by rw [e222, vg_u1_at (a := 55) (b := 10) (k := 55) (i := 33) (by decide)]; exact g220
                      have g229 : s221.1 55 33 = (Int32.ofInt 0) := by rw [e222]; exact vg_u1_self
                      have i230 : Iv s221 := vg_ivloop i0 e178 e184 e191 e198 e206 e214 e222 (by omega) (by omega) (by omega) y2
                      refine And.intro (Nat.le_of_ble_eq_true rfl) (And.intro ⟨55, (Int32.ofInt 1), rfl, by decide, i230, by omega⟩ ?_)
                      intro s232 h231
                      have h231 : Iv s232 ∧ Kp s221 s232 ∧ vk s232 = ((vk s221).1, kb2 (Int64.ofNat 0) (Int32.ofInt 1).toInt 3 (vk s221).2) ∧ (True) := h231
                      have i233 := h231.1
                      have k234 : K_X11_loop s0 s232 := Kx.tr k224 ((h231.2.1).px)
                      have u235 : vk s232 = ((vk s0).1, (kb2 (Int64.ofNat 0) (Int32.ofInt 1).toInt 3 (vk s0).2)) := (by rw [h231.2.2.1, u225])
                      have g236 : s232.1 55 7 = a1 := by rw [h231.2.1.1 55 7 rfl]; exact g226
                      have g237 : s232.1 55 8 = a2 := by rw [h231.2.1.1 55 8 rfl]; exact g227
                      have g238 : s232.1 55 10 = a4 := by rw [h231.2.1.1 55 10 rfl]; exact g228
                      have g239 : s232.1 55 33 = (Int32.ofInt 0) := by rw [h231.2.1.1 55 33 rfl]; exact g229
                      refine And.intro (Nat.le_of_ble_eq_true rfl) (And.intro ⟨55, rfl, by decide, i233⟩ ?_)
                      intro v240 s242 h241
                      have h241 : s242 = s232 ∧ (v240 = vg_me s232 ∧ 1 ≤ v240.toInt ∧ v240.toInt ≤ 16) := h241
                      have q245 := h241.1.symm
                      subst q245
                      have q246 := h241.2
                      have y3 : v240.toInt = (vg_eo a1 a2 a4).toInt := by rw [q246.1]; simp only [vg_me, vg_eo, g236, g237, g238]
                      refine And.intro (Nat.le_of_ble_eq_true rfl) (And.intro ⟨55, v240, rfl, by decide, i233⟩ ?_)
                      intro v247 s249 h248
                      have h248 : Iv s249 ∧ Kp s232 s249 ∧ vk s249 = ((vk s232).1, (vk s232).2) ∧ (v247 = v240 ∧ v247.toInt = v240.toInt) := h248
                      have i250 := h248.1
                      have k251 : K_X11_loop s0 s249 := Kx.tr k234 ((h248.2.1).px)
                      have u252 : vk s249 = ((vk s0).1, (kb2 (Int64.ofNat 0) (Int32.ofInt 1).toInt 3 (vk s0).2)) := h248.2.2.1.trans u235
                      have q253 := h248.2.2.2
                      have g254 : s249.1 55 7 = a1 := by rw [h248.2.1.1 55 7 rfl]; exact g236
                      have g255 : s249.1 55 8 = a2 := by rw [h248.2.1.1 55 8 rfl]; exact g237
                      have g256 : s249.1 55 10 = a4 := by rw [h248.2.1.1 55 10 rfl]; exact g238
                      have g257 : s249.1 55 33 = (Int32.ofInt 0) := by rw [h248.2.1.1 55 33 rfl]; exact g239
                      show Iv s249 ∧ K_X11_loop s0 s249 ∧ vk s249 = ((vk s0).1, if (0 ≤ a1.toInt ∧ a1.toInt ≤ 2 ∧ 1 ≤ a2.toInt ∧ a2.toInt ≤ 4 ∧ 1 ≤ a3.toInt ∧ a3.toInt ≤ 5000 ∧ 2 ≤ a4.toInt ∧ a4.toInt ≤ 17 ∧ 1 ≤ a5.toInt ∧ a5.toInt ≤ 60000 ∧ (vg_eo a1 a2 a4).toInt ≤ 16) then kb2 (Int64.ofNat 0) 1 3 (vk s0).2 else (vk s0).2) ∧ (((0 ≤ a1.toInt ∧ a1.toInt ≤ 2 ∧ 1 ≤ a2.toInt ∧ a2.toInt ≤ 4 ∧ 1 ≤ a3.toInt ∧ a3.toInt ≤ 5000 ∧ 2 ≤ a4.toInt ∧ a4.toInt ≤ 17 ∧ 1 ≤ a5.toInt ∧ a5.toInt ≤ 60000 ∧ (vg_eo a1 a2 a4).toInt ≤ 16) ∧ v247.toInt = (vg_eo a1 a2 a4).toInt ∧ (vg_me s249).toInt = (vg_eo a1 a2 a4).toInt ∧ (s249.1 55 33).toInt = 0) ∨ (¬ (0 ≤ a1.toInt ∧ a1.toInt ≤ 2 ∧ 1 ≤ a2.toInt ∧ a2.toInt ≤ 4 ∧ 1 ≤ a3.toInt ∧ a3.toInt ≤ 5000 ∧ 2 ≤ a4.toInt ∧ a4.toInt ≤ 17 ∧ 1 ≤ a5.toInt ∧ a5.toInt ≤ 60000 ∧ (vg_eo a1 a2 a4).toInt ≤ 16) ∧ v247.toInt = -1 ∧ (vg_me s249).toInt = (vg_me s0).toInt ∧ (s249.1 55 33).toInt = (s0.1 55 33).toInt))
                      exact ⟨i250, k251, (by first | exact vk_rr u252 (by rw [if_pos (by omega), z1]) | exact vk_rr u252 (by rw [if_neg (by omega)])), (by first | exact Or.inl ⟨by omega, by omega, by simp only [vg_me, vg_eo, g254, g255, g256], by rw [g257]; exact z0⟩ | exact Or.inr ⟨by omega, by omega, congrArg Int32.toInt (vg_me_eq (h248.2.1.1 55 7 rfl) (h248.2.1.1 55 8 rfl) (h248.2.1.1 55 10 rfl)), congrArg Int32.toInt (h248.2.1.1 55 33 rfl)⟩)⟩
                    · have c176 : ¬ (v173.toInt ≤ (Int32.ofInt 16).toInt) := c176
                      refine And.intro (Nat.le_of_ble_eq_true rfl) (And.intro ⟨55, (Int32.ofInt 1), rfl, by decide, i0⟩ ?_)
                      intro v258 s260 h259
                      have h259 : Iv s260 ∧ Kp s0 s260 ∧ vk s260 = ((vk s0).1, (vk s0).2) ∧ (v258.toInt = -1) := h259
                      have i261 := h259.1
                      have k262 : K_X11_loop s0 s260 := Kx.tr Kx.rf ((h259.2.1).px)
                      have u263 : vk s260 = ((vk s0).1, (vk s0).2) := h259.2.2.1.trans rfl
                      have q264 := h259.2.2.2
                      show Iv s260 ∧ K_X11_loop s0 s260 ∧ vk s260 = ((vk s0).1, if (0 ≤ a1.toInt ∧ a1.toInt ≤ 2 ∧ 1 ≤ a2.toInt ∧ a2.toInt ≤ 4 ∧ 1 ≤ a3.toInt ∧ a3.toInt ≤ 5000 ∧ 2 ≤ a4.toInt ∧ a4.toInt ≤ 17 ∧ 1 ≤ a5.toInt ∧ a5.toInt ≤ 60000 ∧ (vg_eo a1 a2 a4).toInt ≤ 16) then kb2 (Int64.ofNat 0) 1 3 (vk s0).2 else (vk s0).2) ∧ (((0 ≤ a1.toInt ∧ a1.toInt ≤ 2 ∧ 1 ≤ a2.toInt ∧ a2.toInt ≤ 4 ∧ 1 ≤ a3.toInt ∧ a3.toInt ≤ 5000 ∧ 2 ≤ a4.toInt ∧ a4.toInt ≤ 17 ∧ 1 ≤ a5.toInt ∧ a5.toInt ≤ 60000 ∧ (vg_eo a1 a2 a4).toInt ≤ 16) ∧ v258.toInt = (vg_eo a1 a2 a4).toInt ∧ (vg_me s260).toInt = (vg_eo a1 a2 a4).toInt ∧ (s260.1 55 33).toInt = 0) ∨ (¬ (0 ≤ a1.toInt ∧ a1.toInt ≤ 2 ∧ 1 ≤ a2.toInt ∧ a2.toInt ≤ 4 ∧ 1 ≤ a3.toInt ∧ a3.toInt ≤ 5000 ∧ 2 ≤ a4.toInt ∧ a4.toInt ≤ 17 ∧ 1 ≤ a5.toInt ∧ a5.toInt ≤ 60000 ∧ (vg_eo a1 a2 a4).toInt ≤ 16) ∧ v258.toInt = -1 ∧ (vg_me s260).toInt = (vg_me s0).toInt ∧ (s260.1 55 33).toInt = (s0.1 55 33).toInt))
                      exact ⟨i261, k262, (by first | exact vk_rr u263 (by rw [if_pos (by omega), z1]) | exact vk_rr u263 (by rw [if_neg (by omega)])), (by first | exact Or.inl ⟨by omega, by omega, by simp only [vg_me, vg_eo, none, none, none], by rw [none]; exact z0⟩ | exact Or.inr ⟨by omega, by omega, congrArg Int32.toInt (vg_me_eq (h259.2.1.1 55 7 rfl) (h259.2.1.1 55 8 rfl) (h259.2.1.1 55 10 rfl)), congrArg Int32.toInt (h259.2.1.1 55 33 rfl)⟩)⟩
def o_X11_dither : List vg_I := [(0, .iload_n 1, 1, 0, 0, 0, 0), (1, .iconst 0, 1, 0, 0, 0, 0), (2, .sipush 5000, 3, 0, 0, 0, 0), (5, .invokestatic 76, 3, 0, 1, 3, 1175), (8, .ifCond .eq 7, 3, 0, 0, 0, 0), (11, .iload_n 2, 1, 0, 0, 0, 0), (12, .ifCond .ge 9, 3, 0, 0, 0, 0), (15, .aload_n 0, 1, 0, 0, 0, 0), (16, .iconst 1, 1, 0, 0, 0, 0), (17, .invokevirtual 242, 3, 1, 11, 1, 1181), (20, .ireturn, 1, 0, 0, 0, 0), (21, .aload_n 0, 1, 0, 0, 0, 0), (22, .iload_n 1, 1, 0, 0, 0, 0), (23, .putfield 131, 3, 1073, 11, 12, 0), (26, .aload_n 0, 1, 0, 0, 0, 0), (27, .iload_n 2, 1, 0, 0, 0, 0), (28, .putfield 96, 3, 1074, 11, 13, 0), (31, .aload_n 0, 1, 0, 0, 0, 0), (32, .iconst 1, 1, 0, 0, 0, 0), (33, .invokevirtual 245, 3, 2, 11, 1, 1185), (36, .aload_n 0, 1, 0, 0, 0, 0), (37, .aload_n 0, 1, 0, 0, 0, 0), (38, .iconst 0, 1, 0, 0, 0, 0), (39, .invokevirtual 110, 3, 3, 11, 1, 1202), (42, .invokevirtual 249, 3, 4, 11, 1, 1206), (45, .ireturn, 1, 0, 0, 0, 0)]
set_option maxRecDepth 100000 in
set_option maxHeartbeats 4000000 in
theorem c_X11_dither (l : Launch) (G : vg_G) (hp : vg_Hp G) : vg_Ct l G vg_sh r_X11_dither := by
  refine vg_meth hp vg_sh_ok r_X11_dither k_X11_dither rfl (fun h => by cases h) o_X11_dither [r_X11_isFrom, r_X11_refuse, r_X11_begins, r_X11_get, r_X11_gives] false (by decide +kernel) (by decide +kernel) ⟨_, _, rfl, rfl⟩ (List.forall_mem_cons.mpr ⟨⟨c_X11_isFrom l G hp, Nat.le_of_ble_eq_true rfl, Nat.le_of_ble_eq_true rfl⟩, List.forall_mem_cons.mpr ⟨⟨c_X11_refuse l G hp, Nat.le_of_ble_eq_true rfl, Nat.le_of_ble_eq_true rfl⟩, List.forall_mem_cons.mpr ⟨⟨c_X11_begins l G hp, Nat.le_of_ble_eq_true rfl, Nat.le_of_ble_eq_true rfl⟩, List.forall_mem_cons.mpr ⟨⟨c_X11_get l G hp, Nat.le_of_ble_eq_true rfl, Nat.le_of_ble_eq_true rfl⟩, List.forall_mem_cons.mpr ⟨⟨c_X11_gives l G hp, Nat.le_of_ble_eq_true rfl, Nat.le_of_ble_eq_true rfl⟩, fun _ h => absurd h List.not_mem_nil⟩⟩⟩⟩⟩) (fun h => by cases h) 600 ?_
  intro as s0 hpre
  obtain ⟨r, a1, a2, rfl, hr, i0, p0⟩ := hpre
  simp only [List.mem_cons, List.not_mem_nil, or_false] at hr
  rcases hr with rfl
  ·
    have z0 : (Int32.ofInt 0).toInt = 0 := by decide
    have z1 : (Int32.ofInt 1).toInt = 1 := by decide
    have z5000 : (Int32.ofInt 5000).toInt = 5000 := by decide
    refine ⟨Nat.le_of_ble_eq_true rfl, [], ?_, fun _ h => absurd h List.not_mem_nil⟩
    ·
      refine And.intro (Nat.le_of_ble_eq_true rfl) (And.intro ⟨a1, (Int32.ofInt 0), (Int32.ofInt 5000), rfl, trivial⟩ ?_)
      intro v1 s3 h2
      have h2 : s3 = s0 ∧ ((v1.toInt = 1 ∧ (Int32.ofInt 0).toInt ≤ a1.toInt ∧ a1.toInt ≤ (Int32.ofInt 5000).toInt) ∨ (v1.toInt = 0 ∧ (a1.toInt < (Int32.ofInt 0).toInt ∨ (Int32.ofInt 5000).toInt < a1.toInt))) := h2
      have q6 := h2.1.symm
      subst q6
      have q7 := h2.2
      refine And.intro (fun c8 => ?_) (fun c8 => ?_)
      · have c8 : v1.toInt = 0 := c8
        refine And.intro (Nat.le_of_ble_eq_true rfl) (And.intro ⟨55, (Int32.ofInt 1), rfl, by decide, i0⟩ ?_)
        intro v9 s11 h10
        have h10 : Iv s11 ∧ Kp s0 s11 ∧ vk s11 = ((vk s0).1, (vk s0).2) ∧ (v9.toInt = -1) := h10
        have i12 := h10.1
        have k13 : K_X11_dither s0 s11 := Kx.tr Kx.rf ((h10.2.1).px)
        have u14 : vk s11 = ((vk s0).1, (vk s0).2) := h10.2.2.1.trans rfl
        have q15 := h10.2.2.2
        show Iv s11 ∧ K_X11_dither s0 s11 ∧ vk s11 = ((vk s0).1, if (0 ≤ a1.toInt ∧ a1.toInt ≤ 5000 ∧ 0 ≤ a2.toInt) then kb2 (Int64.ofNat 0) 1 3 (vk s0).2 else (vk s0).2) ∧ (((0 ≤ a1.toInt ∧ a1.toInt ≤ 5000 ∧ 0 ≤ a2.toInt) ∧ v9.toInt = (s0.2 56 0).toInt) ∨ (¬ (0 ≤ a1.toInt ∧ a1.toInt ≤ 5000 ∧ 0 ≤ a2.toInt) ∧ v9.toInt = -1))
        exact ⟨i12, k13, (by first | exact vk_rr u14 (by rw [if_pos (by omega), z1]) | exact vk_rr u14 (by rw [if_neg (by omega)])), (by have h9 := congrArg Int64.toInt (k13.2 56 0 rfl); have h8 := congrArg Int64.toInt (h10.2.1.2 56 0 rfl); omega)⟩
      · have c8 : ¬ (v1.toInt = 0) := c8
        refine And.intro (fun c16 => ?_) (fun c16 => ?_)
        · have c16 : 0 ≤ a2.toInt := c16
          intro s17 e18
          have i19 : Iv s17 := Iv.c1 (lo := 0) (hi := 5000) i0 e18 rfl (by omega) (by omega)
          have k20 : K_X11_dither s0 s17 := Kx.u1 Kx.rf e18 rfl
          have u21 : vk s17 = ((vk s0).1, (vk s0).2) := vk_k1 rfl e18 rfl
          intro s22 e23
          have i24 : Iv s22 := Iv.u1 i19 e23 rfl
          have k25 : K_X11_dither s0 s22 := Kx.u1 k20 e23 rfl
          have u26 : vk s22 = ((vk s0).1, (vk s0).2) := vk_k1 u21 e23 rfl
          refine And.intro (Nat.le_of_ble_eq_true rfl) (And.intro ⟨55, (Int32.ofInt 1), rfl, by decide, i24, by omega⟩ ?_)
          intro s28 h27
          have h27 : Iv s28 ∧ Kp s22 s28 ∧ vk s28 = ((vk s22).1, kb2 (Int64.ofNat 0) (Int32.ofInt 1).toInt 3 (vk s22).2) ∧ (True) := h27
          have i29 := h27.1
          have k30 : K_X11_dither s0 s28 := Kx.tr k25 ((h27.2.1).px)
          have u31 : vk s28 = ((vk s0).1, (kb2 (Int64.ofNat 0) (Int32.ofInt 1).toInt 3 (vk s0).2)) := (by rw [h27.2.2.1, u26])
          refine And.intro (Nat.le_of_ble_eq_true rfl) (And.intro ⟨55, (Int32.ofInt 0), rfl, by decide, i29, by omega⟩ ?_)
          intro v32 s34 h33
          have h33 : s34 = s28 ∧ (v32 = (s28.2 56 (Int32.ofInt 0).toNatClampNeg).toInt32) := h33
          have q37 := h33.1.symm
          subst q37
          have q38 := h33.2
          have y0 := congrArg Int64.toInt (k30.2 56 0 rfl)
          have y1 : v32.toInt = (s28.2 56 0).toInt := vg_l2i (x := s28.2 56 0) q38 (by omega) (by omega)
          refine And.intro (Nat.le_of_ble_eq_true rfl) (And.intro ⟨55, v32, rfl, by decide, i29⟩ ?_)
          intro v39 s41 h40
          have h40 : Iv s41 ∧ Kp s28 s41 ∧ vk s41 = ((vk s28).1, (vk s28).2) ∧ (v39 = v32 ∧ v39.toInt = v32.toInt) := h40
          have i42 := h40.1
          have k43 : K_X11_dither s0 s41 := Kx.tr k30 ((h40.2.1).px)
          have u44 : vk s41 = ((vk s0).1, (kb2 (Int64.ofNat 0) (Int32.ofInt 1).toInt 3 (vk s0).2)) := h40.2.2.1.trans u31
          have q45 := h40.2.2.2
          show Iv s41 ∧ K_X11_dither s0 s41 ∧ vk s41 = ((vk s0).1, if (0 ≤ a1.toInt ∧ a1.toInt ≤ 5000 ∧ 0 ≤ a2.toInt) then kb2 (Int64.ofNat 0) 1 3 (vk s0).2 else (vk s0).2) ∧ (((0 ≤ a1.toInt ∧ a1.toInt ≤ 5000 ∧ 0 ≤ a2.toInt) ∧ v39.toInt = (s0.2 56 0).toInt) ∨ (¬ (0 ≤ a1.toInt ∧ a1.toInt ≤ 5000 ∧ 0 ≤ a2.toInt) ∧ v39.toInt = -1))
          exact ⟨i42, k43, (by first | exact vk_rr u44 (by rw [if_pos (by omega), z1]) | exact vk_rr u44 (by rw [if_neg (by omega)])), (by have h9 := congrArg Int64.toInt (k43.2 56 0 rfl); have h8 := congrArg Int64.toInt (h40.2.1.2 56 0 rfl); omega)⟩
        · have c16 : ¬ (0 ≤ a2.toInt) := c16
          refine And.intro (Nat.le_of_ble_eq_true rfl) (And.intro ⟨55, (Int32.ofInt 1), rfl, by decide, i0⟩ ?_)
          intro v46 s48 h47
          have h47 : Iv s48 ∧ Kp s0 s48 ∧ vk s48 = ((vk s0).1, (vk s0).2) ∧ (v46.toInt = -1) := h47
          have i49 := h47.1
          have k50 : K_X11_dither s0 s48 := Kx.tr Kx.rf ((h47.2.1).px)
          have u51 : vk s48 = ((vk s0).1, (vk s0).2) := h47.2.2.1.trans rfl
          have q52 := h47.2.2.2
          show Iv s48 ∧ K_X11_dither s0 s48 ∧ vk s48 = ((vk s0).1, if (0 ≤ a1.toInt ∧ a1.toInt ≤ 5000 ∧ 0 ≤ a2.toInt) then kb2 (Int64.ofNat 0) 1 3 (vk s0).2 else (vk s0).2) ∧ (((0 ≤ a1.toInt ∧ a1.toInt ≤ 5000 ∧ 0 ≤ a2.toInt) ∧ v46.toInt = (s0.2 56 0).toInt) ∨ (¬ (0 ≤ a1.toInt ∧ a1.toInt ≤ 5000 ∧ 0 ≤ a2.toInt) ∧ v46.toInt = -1))
          exact ⟨i49, k50, (by first | exact vk_rr u51 (by rw [if_pos (by omega), z1]) | exact vk_rr u51 (by rw [if_neg (by omega)])), (by have h9 := congrArg Int64.toInt (k50.2 56 0 rfl); have h8 := congrArg Int64.toInt (h47.2.1.2 56 0 rfl); omega)⟩
def o_X11_way : List vg_I := [(0, .iload_n 1, 1, 0, 0, 0, 0), (1, .iconst 0, 1, 0, 0, 0, 0), (2, .iconst 2, 1, 0, 0, 0, 0), (3, .invokestatic 76, 3, 0, 1, 3, 1175), (6, .ifCond .ne 9, 3, 0, 0, 0, 0), (9, .aload_n 0, 1, 0, 0, 0, 0), (10, .iconst 1, 1, 0, 0, 0, 0), (11, .invokevirtual 242, 3, 1, 11, 1, 1181), (14, .ireturn, 1, 0, 0, 0, 0), (15, .aload_n 0, 1, 0, 0, 0, 0), (16, .getfield 164, 3, 1076, 11, 15, 0), (19, .istore_n 2, 1, 0, 0, 0, 0), (20, .aload_n 0, 1, 0, 0, 0, 0), (21, .iload_n 1, 1, 0, 0, 0, 0), (22, .putfield 164, 3, 1076, 11, 15, 0), (25, .aload_n 0, 1, 0, 0, 0, 0), (26, .iconst 2, 1, 0, 0, 0, 0), (27, .invokevirtual 245, 3, 2, 11, 1, 1185), (30, .aload_n 0, 1, 0, 0, 0, 0), (31, .iload_n 2, 1, 0, 0, 0, 0), (32, .invokevirtual 249, 3, 3, 11, 1, 1206), (35, .ireturn, 1, 0, 0, 0, 0)]
set_option maxRecDepth 100000 in
set_option maxHeartbeats 4000000 in
theorem c_X11_way (l : Launch) (G : vg_G) (hp : vg_Hp G) : vg_Ct l G vg_sh r_X11_way := by
  refine vg_meth hp vg_sh_ok r_X11_way k_X11_way rfl (fun h => by cases h) o_X11_way [r_X11_isFrom, r_X11_refuse, r_X11_begins, r_X11_gives] false (by decide +kernel) (by decide +kernel) ⟨_, _, rfl, rfl⟩ (List.forall_mem_cons.mpr ⟨⟨c_X11_isFrom l G hp, Nat.le_of_ble_eq_true rfl, Nat.le_of_ble_eq_true rfl⟩, List.forall_mem_cons.mpr ⟨⟨c_X11_refuse l G hp, Nat.le_of_ble_eq_true rfl, Nat.le_of_ble_eq_true rfl⟩, List.forall_mem_cons.mpr ⟨⟨c_X11_begins l G hp, Nat.le_of_ble_eq_true rfl, Nat.le_of_ble_eq_true rfl⟩, List.forall_mem_cons.mpr ⟨⟨c_X11_gives l G hp, Nat.le_of_ble_eq_true rfl, Nat.le_of_ble_eq_true rfl⟩, fun _ h => absurd h List.not_mem_nil⟩⟩⟩⟩) (fun h => by cases h) 600 ?_
  intro as s0 hpre
  obtain ⟨r, a1, rfl, hr, i0⟩ := hpre
  simp only [List.mem_cons, List.not_mem_nil, or_false] at hr
  rcases hr with rfl
  ·
    have z0 : (Int32.ofInt 0).toInt = 0 := by decide
    have z1 : (Int32.ofInt 1).toInt = 1 := by decide
    have z2 : (Int32.ofInt 2).toInt = 2 := by decide
    refine ⟨Nat.le_of_ble_eq_true rfl, [], ?_, fun _ h => absurd h List.not_mem_nil⟩
    ·
      refine And.intro (Nat.le_of_ble_eq_true rfl) (And.intro ⟨a1, (Int32.ofInt 0), (Int32.ofInt 2), rfl, trivial⟩ ?_)
      intro v1 s3 h2
      have h2 : s3 = s0 ∧ ((v1.toInt = 1 ∧ (Int32.ofInt 0).toInt ≤ a1.toInt ∧ a1.toInt ≤ (Int32.ofInt 2).toInt) ∨ (v1.toInt = 0 ∧ (a1.toInt < (Int32.ofInt 0).toInt ∨ (Int32.ofInt 2).toInt < a1.toInt))) := h2
      have q6 := h2.1.symm
      subst q6
      have q7 := h2.2
      refine And.intro (fun c8 => ?_) (fun c8 => ?_)
      · have c8 : ¬ v1.toInt = 0 := c8
        intro v9 e10
        have g11 : s0.1 55 15 = v9 := by rw [e10]
        have g12 : s0.1 55 15 = v9 := e10.symm
        have b13 : v9.toInt = (s0.1 55 15).toInt := congrArg Int32.toInt e10
        intro s14 e15
        have i16 : Iv s14 := Iv.u1 i0 e15 rfl
        have k17 : K_X11_way s0 s14 := Kx.u1 Kx.rf e15 rfl
        have u18 : vk s14 = ((vk s0).1, (vk s0).2) := vk_k1 rfl e15 rfl
        have g19 : s14.1 55 15 = a1 := by rw [e15]; exact vg_u1_self
        refine And.intro (Nat.le_of_ble_eq_true rfl) (And.intro ⟨55, (Int32.ofInt 2), rfl, by decide, i16, by omega⟩ ?_)
        intro s21 h20
        have h20 : Iv s21 ∧ Kp s14 s21 ∧ vk s21 = ((vk s14).1, kb2 (Int64.ofNat 0) (Int32.ofInt 2).toInt 3 (vk s14).2) ∧ (True) := h20
        have i22 := h20.1
        have k23 : K_X11_way s0 s21 := Kx.tr k17 ((h20.2.1).px)
        have u24 : vk s21 = ((vk s0).1, (kb2 (Int64.ofNat 0) (Int32.ofInt 2).toInt 3 (vk s0).2)) := (by rw [h20.2.2.1, u18])
        have g25 : s21.1 55 15 = a1 := by rw [h20.2.1.1 55 15 rfl]; exact g19
        refine And.intro (Nat.le_of_ble_eq_true rfl) (And.intro ⟨55, v9, rfl, by decide, i22⟩ ?_)
        intro v26 s28 h27
        have h27 : Iv s28 ∧ Kp s21 s28 ∧ vk s28 = ((vk s21).1, (vk s21).2) ∧ (v26 = v9 ∧ v26.toInt = v9.toInt) := h27
        have i29 := h27.1
        have k30 : K_X11_way s0 s28 := Kx.tr k23 ((h27.2.1).px)
        have u31 : vk s28 = ((vk s0).1, (kb2 (Int64.ofNat 0) (Int32.ofInt 2).toInt 3 (vk s0).2)) := h27.2.2.1.trans u24
        have q32 := h27.2.2.2
        have g33 : s28.1 55 15 = a1 := by rw [h27.2.1.1 55 15 rfl]; exact g25
        show Iv s28 ∧ K_X11_way s0 s28 ∧ vk s28 = ((vk s0).1, if (0 ≤ a1.toInt ∧ a1.toInt ≤ 2) then kb2 (Int64.ofNat 0) 2 3 (vk s0).2 else (vk s0).2) ∧ (((0 ≤ a1.toInt ∧ a1.toInt ≤ 2) ∧ v26.toInt = (s0.1 55 15).toInt ∧ (s28.1 55 15).toInt = a1.toInt) ∨ (¬ (0 ≤ a1.toInt ∧ a1.toInt ≤ 2) ∧ v26.toInt = -1 ∧ (s28.1 55 15).toInt = (s0.1 55 15).toInt))
        exact ⟨i29, k30, (by first | exact vk_rr u31 (by rw [if_pos (by omega), z2]) | exact vk_rr u31 (by rw [if_neg (by omega)])), (by first | exact Or.inl ⟨by omega, by omega, by rw [g33]⟩ | exact Or.inr ⟨by omega, by omega, congrArg Int32.toInt (h27.2.1.1 55 15 rfl)⟩)⟩
      · have c8 : ¬ (¬ v1.toInt = 0) := c8
        refine And.intro (Nat.le_of_ble_eq_true rfl) (And.intro ⟨55, (Int32.ofInt 1), rfl, by decide, i0⟩ ?_)
        intro v34 s36 h35
        have h35 : Iv s36 ∧ Kp s0 s36 ∧ vk s36 = ((vk s0).1, (vk s0).2) ∧ (v34.toInt = -1) := h35
        have i37 := h35.1
        have k38 : K_X11_way s0 s36 := Kx.tr Kx.rf ((h35.2.1).px)
        have u39 : vk s36 = ((vk s0).1, (vk s0).2) := h35.2.2.1.trans rfl
        have q40 := h35.2.2.2
        show Iv s36 ∧ K_X11_way s0 s36 ∧ vk s36 = ((vk s0).1, if (0 ≤ a1.toInt ∧ a1.toInt ≤ 2) then kb2 (Int64.ofNat 0) 2 3 (vk s0).2 else (vk s0).2) ∧ (((0 ≤ a1.toInt ∧ a1.toInt ≤ 2) ∧ v34.toInt = (s0.1 55 15).toInt ∧ (s36.1 55 15).toInt = a1.toInt) ∨ (¬ (0 ≤ a1.toInt ∧ a1.toInt ≤ 2) ∧ v34.toInt = -1 ∧ (s36.1 55 15).toInt = (s0.1 55 15).toInt))
        exact ⟨i37, k38, (by first | exact vk_rr u39 (by rw [if_pos (by omega), z2]) | exact vk_rr u39 (by rw [if_neg (by omega)])), (by first | exact Or.inl ⟨by omega, by omega, by rw [none]⟩ | exact Or.inr ⟨by omega, by omega, congrArg Int32.toInt (h35.2.1.1 55 15 rfl)⟩)⟩
def o_X11_deviation : List vg_I := [(0, .iload_n 2, 1, 0, 0, 0, 0), (1, .bipush (-99), 2, 0, 0, 0, 0), (3, .bipush 99, 2, 0, 0, 0, 0), (5, .invokestatic 76, 3, 0, 1, 3, 1175), (8, .ifCond .ne 9, 3, 0, 0, 0, 0), (11, .aload_n 0, 1, 0, 0, 0, 0), (12, .iconst 1, 1, 0, 0, 0, 0), (13, .invokevirtual 242, 3, 1, 11, 1, 1181), (16, .ireturn, 1, 0, 0, 0, 0), (17, .iload_n 1, 1, 0, 0, 0, 0), (18, .iconst 0, 1, 0, 0, 0, 0), (19, .bipush 15, 2, 0, 0, 0, 0), (21, .invokestatic 76, 3, 0, 1, 3, 1175), (24, .ifCond .ne 9, 3, 0, 0, 0, 0), (27, .aload_n 0, 1, 0, 0, 0, 0), (28, .iconst 2, 1, 0, 0, 0, 0), (29, .invokevirtual 242, 3, 1, 11, 1, 1181), (32, .ireturn, 1, 0, 0, 0, 0), (33, .aload_n 0, 1, 0, 0, 0, 0), (34, .getfield 46, 3, 1084, 11, 23, 0), (37, .iload_n 1, 1, 0, 0, 0, 0), (38, .iaload, 1, 0, 0, 0, 0), (39, .istore_n 3, 1, 0, 0, 0, 0), (40, .aload_n 0, 1, 0, 0, 0, 0), (41, .getfield 46, 3, 1084, 11, 23, 0), (44, .iload_n 1, 1, 0, 0, 0, 0), (45, .iload_n 2, 1, 0, 0, 0, 0), (46, .iastore, 1, 0, 0, 0, 0), (47, .aload_n 0, 1, 0, 0, 0, 0), (48, .iconst 2, 1, 0, 0, 0, 0), (49, .invokevirtual 245, 3, 2, 11, 1, 1185), (52, .aload_n 0, 1, 0, 0, 0, 0), (53, .iload_n 3, 1, 0, 0, 0, 0), (54, .invokevirtual 249, 3, 3, 11, 1, 1206), (57, .ireturn, 1, 0, 0, 0, 0)]
set_option maxRecDepth 100000 in
set_option maxHeartbeats 4000000 in
theorem c_X11_deviation (l : Launch) (G : vg_G) (hp : vg_Hp G) : vg_Ct l G vg_sh r_X11_deviation := by
  refine vg_meth hp vg_sh_ok r_X11_deviation k_X11_deviation rfl (fun h => by cases h) o_X11_deviation [r_X11_isFrom, r_X11_refuse, r_X11_begins, r_X11_gives] false (by decide +kernel) (by decide +kernel) ⟨_, _, rfl, rfl⟩ (List.forall_mem_cons.mpr ⟨⟨c_X11_isFrom l G hp, Nat.le_of_ble_eq_true rfl, Nat.le_of_ble_eq_true rfl⟩, List.forall_mem_cons.mpr ⟨⟨c_X11_refuse l G hp, Nat.le_of_ble_eq_true rfl, Nat.le_of_ble_eq_true rfl⟩, List.forall_mem_cons.mpr ⟨⟨c_X11_begins l G hp, Nat.le_of_ble_eq_true rfl, Nat.le_of_ble_eq_true rfl⟩, List.forall_mem_cons.mpr ⟨⟨c_X11_gives l G hp, Nat.le_of_ble_eq_true rfl, Nat.le_of_ble_eq_true rfl⟩, fun _ h => absurd h List.not_mem_nil⟩⟩⟩⟩) (fun h => by cases h) 600 ?_
  intro as s0 hpre
  obtain ⟨r, a1, a2, rfl, hr, i0⟩ := hpre
  simp only [List.mem_cons, List.not_mem_nil, or_false] at hr
  rcases hr with rfl
  ·
    have zm99 : (Int32.ofInt (-99)).toInt = -99 := by decide
    have z0 : (Int32.ofInt 0).toInt = 0 := by decide
    have z1 : (Int32.ofInt 1).toInt = 1 := by decide
    have z2 : (Int32.ofInt 2).toInt = 2 := by decide
    have z15 : (Int32.ofInt 15).toInt = 15 := by decide
    have z99 : (Int32.ofInt 99).toInt = 99 := by decide
    refine ⟨Nat.le_of_ble_eq_true rfl, [], ?_, fun _ h => absurd h List.not_mem_nil⟩
    ·
      refine And.intro (Nat.le_of_ble_eq_true rfl) (And.intro ⟨a2, (Int32.ofInt (-99)), (Int32.ofInt 99), rfl, trivial⟩ ?_)
      intro v1 s3 h2
      have h2 : s3 = s0 ∧ ((v1.toInt = 1 ∧ (Int32.ofInt (-99)).toInt ≤ a2.toInt ∧ a2.toInt ≤ (Int32.ofInt 99).toInt) ∨ (v1.toInt = 0 ∧ (a2.toInt < (Int32.ofInt (-99)).toInt ∨ (Int32.ofInt 99).toInt < a2.toInt))) := h2
      have q6 := h2.1.symm
      subst q6
      have q7 := h2.2
      refine And.intro (fun c8 => ?_) (fun c8 => ?_)
      · have c8 : ¬ v1.toInt = 0 := c8
        refine And.intro (Nat.le_of_ble_eq_true rfl) (And.intro ⟨a1, (Int32.ofInt 0), (Int32.ofInt 15), rfl, trivial⟩ ?_)
        intro v9 s11 h10
        have h10 : s11 = s0 ∧ ((v9.toInt = 1 ∧ (Int32.ofInt 0).toInt ≤ a1.toInt ∧ a1.toInt ≤ (Int32.ofInt 15).toInt) ∨ (v9.toInt = 0 ∧ (a1.toInt < (Int32.ofInt 0).toInt ∨ (Int32.ofInt 15).toInt < a1.toInt))) := h10
        have q14 := h10.1.symm
        subst q14
        have q15 := h10.2
        refine And.intro (fun c16 => ?_) (fun c16 => ?_)
        · have c16 : ¬ v9.toInt = 0 := c16
          refine And.intro ⟨by omega, by omega⟩ ?_
          intro v17 e18
          refine And.intro ⟨by omega, by omega⟩ ?_
          intro s19 e20
          have i21 : Iv s19 := Iv.a1 i0 e20 rfl
          have k22 : K_X11_deviation s0 s19 := Kx.u1 Kx.rf e20 rfl
          have u23 : vk s19 = ((vk s0).1, (vk s0).2) := vk_k1 rfl e20 rfl
          have y0 : ∀ j : Nat, s19.1 59 j = if j = a1.toNatClampNeg then a2 else s0.1 59 j := fun j => by rw [e20]; exact vg_u1_if
          refine And.intro (Nat.le_of_ble_eq_true rfl) (And.intro ⟨55, (Int32.ofInt 2), rfl, by decide, i21, by omega⟩ ?_)
          intro s25 h24
          have h24 : Iv s25 ∧ Kp s19 s25 ∧ vk s25 = ((vk s19).1, kb2 (Int64.ofNat 0) (Int32.ofInt 2).toInt 3 (vk s19).2) ∧ (True) := h24
          have i26 := h24.1
          have k27 : K_X11_deviation s0 s25 := Kx.tr k22 ((h24.2.1).px)
          have u28 : vk s25 = ((vk s0).1, (kb2 (Int64.ofNat 0) (Int32.ofInt 2).toInt 3 (vk s0).2)) := (by rw [h24.2.2.1, u23])
          have y1 : ∀ j : Nat, s25.1 59 j = if j = a1.toNatClampNeg then a2 else s0.1 59 j := fun j => by rw [h24.2.1.1 59 j rfl]; exact y0 j
          refine And.intro (Nat.le_of_ble_eq_true rfl) (And.intro ⟨55, v17, rfl, by decide, i26⟩ ?_)
          intro v29 s31 h30
          have h30 : Iv s31 ∧ Kp s25 s31 ∧ vk s31 = ((vk s25).1, (vk s25).2) ∧ (v29 = v17 ∧ v29.toInt = v17.toInt) := h30
          have i32 := h30.1
          have k33 : K_X11_deviation s0 s31 := Kx.tr k27 ((h30.2.1).px)
          have u34 : vk s31 = ((vk s0).1, (kb2 (Int64.ofNat 0) (Int32.ofInt 2).toInt 3 (vk s0).2)) := h30.2.2.1.trans u28
          have q35 := h30.2.2.2
          show Iv s31 ∧ K_X11_deviation s0 s31 ∧ vk s31 = ((vk s0).1, if (-99 ≤ a2.toInt ∧ a2.toInt ≤ 99 ∧ 0 ≤ a1.toInt ∧ a1.toInt ≤ 15) then kb2 (Int64.ofNat 0) 2 3 (vk s0).2 else (vk s0).2) ∧ (((-99 ≤ a2.toInt ∧ a2.toInt ≤ 99 ∧ 0 ≤ a1.toInt ∧ a1.toInt ≤ 15) ∧ v29 = s0.1 59 a1.toNatClampNeg ∧ ∀ j : Nat, s31.1 59 j = if j = a1.toNatClampNeg then a2 else s0.1 59 j) ∨ (¬ (-99 ≤ a2.toInt ∧ a2.toInt ≤ 99 ∧ 0 ≤ a1.toInt ∧ a1.toInt ≤ 15) ∧ v29.toInt = -1 ∧ ∀ j : Nat, s31.1 59 j = s0.1 59 j))
          exact ⟨i32, k33, (by first | exact vk_rr u34 (by rw [if_pos (by omega), z2]) | exact vk_rr u34 (by rw [if_neg (by omega)])), (by first | exact Or.inl ⟨by omega, by (rw [q35.1]; assumption), fun j => by rw [h30.2.1.1 59 j rfl]; exact y1 j⟩ | exact Or.inr ⟨by omega, by omega, fun j => h30.2.1.1 59 j rfl⟩)⟩
        · have c16 : ¬ (¬ v9.toInt = 0) := c16
          refine And.intro (Nat.le_of_ble_eq_true rfl) (And.intro ⟨55, (Int32.ofInt 2), rfl, by decide, i0⟩ ?_)
          intro v36 s38 h37
          have h37 : Iv s38 ∧ Kp s0 s38 ∧ vk s38 = ((vk s0).1, (vk s0).2) ∧ (v36.toInt = -1) := h37
          have i39 := h37.1
          have k40 : K_X11_deviation s0 s38 := Kx.tr Kx.rf ((h37.2.1).px)
          have u41 : vk s38 = ((vk s0).1, (vk s0).2) := h37.2.2.1.trans rfl
          have q42 := h37.2.2.2
          show Iv s38 ∧ K_X11_deviation s0 s38 ∧ vk s38 = ((vk s0).1, if (-99 ≤ a2.toInt ∧ a2.toInt ≤ 99 ∧ 0 ≤ a1.toInt ∧ a1.toInt ≤ 15) then kb2 (Int64.ofNat 0) 2 3 (vk s0).2 else (vk s0).2) ∧ (((-99 ≤ a2.toInt ∧ a2.toInt ≤ 99 ∧ 0 ≤ a1.toInt ∧ a1.toInt ≤ 15) ∧ v36 = s0.1 59 a1.toNatClampNeg ∧ ∀ j : Nat, s38.1 59 j = if j = a1.toNatClampNeg then a2 else s0.1 59 j) ∨ (¬ (-99 ≤ a2.toInt ∧ a2.toInt ≤ 99 ∧ 0 ≤ a1.toInt ∧ a1.toInt ≤ 15) ∧ v36.toInt = -1 ∧ ∀ j : Nat, s38.1 59 j = s0.1 59 j))
          exact ⟨i39, k40, (by first | exact vk_rr u41 (by rw [if_pos (by omega), z2]) | exact vk_rr u41 (by rw [if_neg (by omega)])), (by first | exact Or.inl ⟨by omega, by (rw [q42.1]; assumption), fun j => by rw [h37.2.1.1 59 j rfl]; exact y1 j⟩ | exact Or.inr ⟨by omega, by omega, fun j => h37.2.1.1 59 j rfl⟩)⟩
      · have c8 : ¬ (¬ v1.toInt = 0) := c8
        refine And.intro (Nat.le_of_ble_eq_true rfl) (And.intro ⟨55, (Int32.ofInt 1), rfl, by decide, i0⟩ ?_)
        intro v43 s45 h44
        have h44 : Iv s45 ∧ Kp s0 s45 ∧ vk s45 = ((vk s0).1, (vk s0).2) ∧ (v43.toInt = -1) := h44
        have i46 := h44.1
        have k47 : K_X11_deviation s0 s45 := Kx.tr Kx.rf ((h44.2.1).px)
        have u48 : vk s45 = ((vk s0).1, (vk s0).2) := h44.2.2.1.trans rfl
        have q49 := h44.2.2.2
        show Iv s45 ∧ K_X11_deviation s0 s45 ∧ vk s45 = ((vk s0).1, if (-99 ≤ a2.toInt ∧ a2.toInt ≤ 99 ∧ 0 ≤ a1.toInt ∧ a1.toInt ≤ 15) then kb2 (Int64.ofNat 0) 2 3 (vk s0).2 else (vk s0).2) ∧ (((-99 ≤ a2.toInt ∧ a2.toInt ≤ 99 ∧ 0 ≤ a1.toInt ∧ a1.toInt ≤ 15) ∧ v43 = s0.1 59 a1.toNatClampNeg ∧ ∀ j : Nat, s45.1 59 j = if j = a1.toNatClampNeg then a2 else s0.1 59 j) ∨ (¬ (-99 ≤ a2.toInt ∧ a2.toInt ≤ 99 ∧ 0 ≤ a1.toInt ∧ a1.toInt ≤ 15) ∧ v43.toInt = -1 ∧ ∀ j : Nat, s45.1 59 j = s0.1 59 j))
        exact ⟨i46, k47, (by first | exact vk_rr u48 (by rw [if_pos (by omega), z2]) | exact vk_rr u48 (by rw [if_neg (by omega)])), (by first | exact Or.inl ⟨by omega, by (rw [q49.1]; assumption), fun j => by rw [h44.2.1.1 59 j rfl]; exact y1 j⟩ | exact Or.inr ⟨by omega, by omega, fun j => h44.2.1.1 59 j rfl⟩)⟩
def o_X11_needFor : List vg_I := [(0, .iload_n 1, 1, 0, 0, 0, 0), (1, .i2l, 1, 0, 0, 0, 0), (2, .lstore_n 2, 1, 0, 0, 0, 0), (3, .iconst 0, 1, 0, 0, 0, 0), (4, .istore 4, 2, 0, 0, 0, 0), (6, .iload 4, 2, 0, 0, 0, 0), (8, .aload_n 0, 1, 0, 0, 0, 0), (9, .getfield 33, 3, 1077, 11, 16, 0), (12, .if_icmp .ge 17, 3, 0, 0, 0, 0), (15, .lload_n 2, 1, 0, 0, 0, 0), (16, .aload_n 0, 1, 0, 0, 0, 0), (17, .getfield 36, 3, 1078, 11, 17, 0), (20, .i2l, 1, 0, 0, 0, 0), (21, .lmul, 1, 0, 0, 0, 0), (22, .lstore_n 2, 1, 0, 0, 0, 0), (23, .iinc 4 1, 3, 0, 0, 0, 0), (26, .goto (-20), 3, 0, 0, 0, 0), (29, .bipush 8, 2, 0, 0, 0, 0), (31, .istore 4, 2, 0, 0, 0, 0), (33, .iload 4, 2, 0, 0, 0, 0), (35, .bipush 32, 2, 0, 0, 0, 0), (37, .if_icmp .gt 23, 3, 0, 0, 0, 0), (40, .lload_n 2, 1, 0, 0, 0, 0), (41, .lconst 1, 1, 0, 0, 0, 0), (42, .iload 4, 2, 0, 0, 0, 0), (44, .iconst 1, 1, 0, 0, 0, 0), (45, .isub, 1, 0, 0, 0, 0), (46, .lshl, 1, 0, 0, 0, 0), (47, .lcmp, 1, 0, 0, 0, 0), (48, .ifCond .ge 6, 3, 0, 0, 0, 0), (51, .iload 4, 2, 0, 0, 0, 0), (53, .ireturn, 1, 0, 0, 0, 0), (54, .iinc 4 1, 3, 0, 0, 0, 0), (57, .goto (-24), 3, 0, 0, 0, 0), (60, .iconst (-1), 1, 0, 0, 0, 0), (61, .ireturn, 1, 0, 0, 0, 0)]
set_option maxRecDepth 100000 in
set_option maxHeartbeats 4000000 in
theorem c_X11_needFor (l : Launch) (G : vg_G) (hp : vg_Hp G) : vg_Ct l G vg_sh r_X11_needFor := by
  refine vg_meth hp vg_sh_ok r_X11_needFor k_X11_needFor rfl (fun h => by cases h) o_X11_needFor [] false (by decide +kernel) (by decide +kernel) ⟨_, _, rfl, rfl⟩ (fun _ h => absurd h List.not_mem_nil) (fun h => by cases h) 600 ?_
  intro as s0 hpre
  obtain ⟨r, a1, rfl, hr, i0⟩ := hpre
  simp only [List.mem_cons, List.not_mem_nil, or_false] at hr
  rcases hr with rfl
  ·
    have zm1 : (Int32.ofInt (-1)).toInt = -1 := by decide
    have z0 : (Int32.ofInt 0).toInt = 0 := by decide
    have z1 : (Int32.ofInt 1).toInt = 1 := by decide
    have z8 : (Int32.ofInt 8).toInt = 8 := by decide
    have z32 : (Int32.ofInt 32).toInt = 32 := by decide
    refine ⟨Nat.le_of_ble_eq_true rfl, [(6, [true, false, true, false, true], (fun L t => ∃ (x2 : Int64) (x4 : Int32), L = [some (.ref 55), none, some (.long x2), none, some (.int x4)] ∧ (0 : Int) ≤ x4.toInt ∧ x4.toInt ≤ (5 : Int) ∧ (x2 = vg_mp (s0.1 55 17).toInt64 a1.toInt64 x4.toNatClampNeg ∧ x4.toInt ≤ (s0.1 55 16).toInt) ∧ t = s0), (fun L _ => (10000000000000000 + (5 - (vg_li L 4).toInt) * 1000000000000).toNat)), (33, [false, false, true, false, true], (fun L t => ∃ (x2 : Int64) (x4 : Int32), L = [none, none, some (.long x2), none, some (.int x4)] ∧ (8 : Int) ≤ x4.toInt ∧ x4.toInt ≤ (33 : Int) ∧ (x2 = vg_mp (s0.1 55 17).toInt64 a1.toInt64 (s0.1 55 16).toNatClampNeg ∧ vg_ge8 x2 x4) ∧ t = s0), (fun L _ => (0 + (33 - (vg_li L 4).toInt) * 1000000000000).toNat))], ?_, List.forall_mem_cons.mpr ⟨?_, List.forall_mem_cons.mpr ⟨?_, fun _ h => absurd h List.not_mem_nil⟩⟩⟩
    ·
      intro v1 e2
      exact ⟨rfl, ⟨v1, (Int32.ofInt 0), rfl, (by omega), (by omega), (by first | exact ⟨e2, by have h9 := Iv_55_16 i0; omega⟩ | exact ⟨vg_mp_step None.1 None e2 None (by omega) (by omega), by omega⟩), rfl⟩, trivial⟩
    ·
      intro L s8 hL
      obtain ⟨w3, w4, rfl, b5, b6, x7, q11⟩ := hL
      have q11 := q11.symm
      subst q11
      intro v12 e13
      have g14 : s0.1 55 16 = v12 := by rw [e13]
      have b15 : v12.toInt = (s0.1 55 16).toInt := congrArg Int32.toInt e13
      have b16 : (1 : Int) ≤ v12.toInt ∧ v12.toInt ≤ 5 := by rw [e13]; exact Iv_55_16 i0
      refine And.intro (fun c17 => ?_) (fun c17 => ?_)
      · have c17 : v12.toInt ≤ w4.toInt := c17
        exact ⟨rfl, ⟨w3, (Int32.ofInt 8), rfl, (by omega), (by omega), (by first | exact ⟨x7.1, vg_ge8_step x7.2 None None None c17 (by omega)⟩ | exact ⟨vg_mp_at x7.1 (by omega), vg_ge8_0⟩), rfl⟩, (by show (0 + (33 - (Int32.ofInt 8).toInt) * 1000000000000).toNat < (10000000000000000 + (5 - w4.toInt) * 1000000000000).toNat; omega)⟩
      · have c17 : ¬ (v12.toInt ≤ w4.toInt) := c17
        intro v18 e19
        have g20 : s0.1 55 17 = v18 := by rw [e19]
        have b21 : (1 : Int) ≤ v18.toInt ∧ v18.toInt ≤ 16 := by rw [e19]; exact Iv_55_17 i0
        intro v22 e23
        have b24 := vg_i2l e23
        intro v25 e26
        intro v27 e28
        have b29 := vg_add e28 (by omega) (by omega)
        exact ⟨rfl, ⟨v25, v27, rfl, (by omega), (by omega), (by first | exact ⟨e23, by have h9 := Iv_55_16 i0; omega⟩ | exact ⟨vg_mp_step x7.1 e19 e23 e26 (by omega) (by omega), by omega⟩), rfl⟩, (by show (10000000000000000 + (5 - v27.toInt) * 1000000000000).toNat < (10000000000000000 + (5 - w4.toInt) * 1000000000000).toNat; omega)⟩
    ·
      intro L s35 hL
      obtain ⟨w30, w31, rfl, b32, b33, x34, q38⟩ := hL
      have q38 := q38.symm
      subst q38
      refine And.intro (fun c39 => ?_) (fun c39 => ?_)
      · have c39 : (Int32.ofInt 32).toInt < w31.toInt := c39
        show s0 = s0 ∧ (vg_isneed (vg_mp (s0.1 55 17).toInt64 a1.toInt64 (s0.1 55 16).toNatClampNeg) (Int32.ofInt (-1)))
        exact ⟨rfl, (by first | exact vg_isneed1 x34.1 x34.2 None None None c39 (by omega) (by omega) | exact vg_isneed2 x34.1 x34.2 (by omega) (by decide))⟩
      · have c39 : ¬ ((Int32.ofInt 32).toInt < w31.toInt) := c39
        intro v40 e41
        have b42 := vg_sub e41 (by omega) (by omega)
        intro v43 e44
        intro v45 e46
        refine And.intro (fun c47 => ?_) (fun c47 => ?_)
        · have c47 : 0 ≤ v45.toInt := c47
          intro v48 e49
          have b50 := vg_add e49 (by omega) (by omega)
          exact ⟨rfl, ⟨w30, v48, rfl, (by omega), (by omega), (by first | exact ⟨x34.1, vg_ge8_step x34.2 e41 e44 e46 c47 (by omega)⟩ | exact ⟨vg_mp_at x34.1 (by omega), vg_ge8_0⟩), rfl⟩, (by show (0 + (33 - v48.toInt) * 1000000000000).toNat < (0 + (33 - w31.toInt) * 1000000000000).toNat; omega)⟩
        · have c47 : ¬ (0 ≤ v45.toInt) := c47
          show s0 = s0 ∧ (vg_isneed (vg_mp (s0.1 55 17).toInt64 a1.toInt64 (s0.1 55 16).toNatClampNeg) w31)
          exact ⟨rfl, (by first | exact vg_isneed1 x34.1 x34.2 e41 e44 e46 c47 (by omega) (by omega) | exact vg_isneed2 x34.1 x34.2 (by omega) (by decide))⟩
def o_X11_comb : List vg_I := [(0, .iload_n 1, 1, 0, 0, 0, 0), (1, .iconst 1, 1, 0, 0, 0, 0), (2, .iconst 5, 1, 0, 0, 0, 0), (3, .invokestatic 76, 3, 0, 1, 3, 1175), (6, .ifCond .eq 34, 3, 0, 0, 0, 0), (9, .iload_n 2, 1, 0, 0, 0, 0), (10, .iconst 1, 1, 0, 0, 0, 0), (11, .bipush 16, 2, 0, 0, 0, 0), (13, .invokestatic 76, 3, 0, 1, 3, 1175), (16, .ifCond .eq 24, 3, 0, 0, 0, 0), (19, .iload_n 3, 1, 0, 0, 0, 0), (20, .bipush 8, 2, 0, 0, 0, 0), (22, .bipush 32, 2, 0, 0, 0, 0), (24, .invokestatic 76, 3, 0, 1, 3, 1175), (27, .ifCond .eq 13, 3, 0, 0, 0, 0), (30, .iload 4, 2, 0, 0, 0, 0), (32, .iconst 0, 1, 0, 0, 0, 0), (33, .iconst 1, 1, 0, 0, 0, 0), (34, .invokestatic 76, 3, 0, 1, 3, 1175), (37, .ifCond .ne 9, 3, 0, 0, 0, 0), (40, .aload_n 0, 1, 0, 0, 0, 0), (41, .iconst 1, 1, 0, 0, 0, 0), (42, .invokevirtual 242, 3, 1, 11, 1, 1181), (45, .ireturn, 1, 0, 0, 0, 0), (46, .aload_n 0, 1, 0, 0, 0, 0), (47, .iload_n 1, 1, 0, 0, 0, 0), (48, .putfield 33, 3, 1077, 11, 16, 0), (51, .aload_n 0, 1, 0, 0, 0, 0), (52, .iload_n 2, 1, 0, 0, 0, 0), (53, .putfield 36, 3, 1078, 11, 17, 0), (56, .aload_n 0, 1, 0, 0, 0, 0), (57, .iload_n 3, 1, 0, 0, 0, 0), (58, .putfield 39, 3, 1079, 11, 18, 0), (61, .aload_n 0, 1, 0, 0, 0, 0), (62, .iload 4, 2, 0, 0, 0, 0), (64, .putfield 221, 3, 1080, 11, 19, 0), (67, .aload_n 0, 1, 0, 0, 0, 0), (68, .iconst 3, 1, 0, 0, 0, 0), (69, .invokevirtual 245, 3, 2, 11, 1, 1185), (72, .aload_n 0, 1, 0, 0, 0, 0), (73, .aload_n 0, 1, 0, 0, 0, 0), (74, .iload 4, 2, 0, 0, 0, 0), (76, .ifCond .ne 10, 3, 0, 0, 0, 0), (79, .aload_n 0, 1, 0, 0, 0, 0), (80, .invokevirtual 102, 3, 3, 11, 0, 1218), (83, .goto 7, 3, 0, 0, 0, 0), (86, .aload_n 0, 1, 0, 0, 0, 0), (87, .invokevirtual 185, 3, 4, 11, 0, 1238), (90, .invokevirtual 255, 3, 5, 11, 1, 1246), (93, .invokevirtual 249, 3, 6, 11, 1, 1206), (96, .ireturn, 1, 0, 0, 0, 0)]
set_option maxRecDepth 100000 in
set_option maxHeartbeats 4000000 in
theorem c_X11_comb (l : Launch) (G : vg_G) (hp : vg_Hp G) : vg_Ct l G vg_sh r_X11_comb := by
  refine vg_meth hp vg_sh_ok r_X11_comb k_X11_comb rfl (fun h => by cases h) o_X11_comb [r_X11_isFrom, r_X11_refuse, r_X11_begins, r_X11_elements, r_X11_weights, r_X11_needFor, r_X11_gives] false (by decide +kernel) (by decide +kernel) ⟨_, _, rfl, rfl⟩ (List.forall_mem_cons.mpr ⟨⟨c_X11_isFrom l G hp, Nat.le_of_ble_eq_true rfl, Nat.le_of_ble_eq_true rfl⟩, List.forall_mem_cons.mpr ⟨⟨c_X11_refuse l G hp, Nat.le_of_ble_eq_true rfl, Nat.le_of_ble_eq_true rfl⟩, List.forall_mem_cons.mpr ⟨⟨c_X11_begins l G hp, Nat.le_of_ble_eq_true rfl, Nat.le_of_ble_eq_true rfl⟩, List.forall_mem_cons.mpr ⟨⟨c_X11_elements l G hp, Nat.le_of_ble_eq_true rfl, Nat.le_of_ble_eq_true rfl⟩, List.forall_mem_cons.mpr ⟨⟨c_X11_weights l G hp, Nat.le_of_ble_eq_true rfl, Nat.le_of_ble_eq_true rfl⟩, List.forall_mem_cons.mpr ⟨⟨c_X11_needFor l G hp, Nat.le_of_ble_eq_true rfl, Nat.le_of_ble_eq_true rfl⟩, List.forall_mem_cons.mpr ⟨⟨c_X11_gives l G hp, Nat.le_of_ble_eq_true rfl, Nat.le_of_ble_eq_true rfl⟩, fun _ h => absurd h List.not_mem_nil⟩⟩⟩⟩⟩⟩⟩) (fun h => by cases h) 600 ?_
  intro as s0 hpre
  obtain ⟨r, a1, a2, a3, a4, rfl, hr, i0⟩ := hpre
  simp only [List.mem_cons, List.not_mem_nil, or_false] at hr
  rcases hr with rfl
  ·
    have z0 : (Int32.ofInt 0).toInt = 0 := by decide
    have z1 : (Int32.ofInt 1).toInt = 1 := by decide
    have z3 : (Int32.ofInt 3).toInt = 3 := by decide
    have z5 : (Int32.ofInt 5).toInt = 5 := by decide
    have z8 : (Int32.ofInt 8).toInt = 8 := by decide
    have z16 : (Int32.ofInt 16).toInt = 16 := by decide
    have z32 : (Int32.ofInt 32).toInt = 32 := by decide
    refine ⟨Nat.le_of_ble_eq_true rfl, [], ?_, fun _ h => absurd h List.not_mem_nil⟩
    ·
      refine And.intro (Nat.le_of_ble_eq_true rfl) (And.intro ⟨a1, (Int32.ofInt 1), (Int32.ofInt 5), rfl, trivial⟩ ?_)
      intro v1 s3 h2
      have h2 : s3 = s0 ∧ ((v1.toInt = 1 ∧ (Int32.ofInt 1).toInt ≤ a1.toInt ∧ a1.toInt ≤ (Int32.ofInt 5).toInt) ∨ (v1.toInt = 0 ∧ (a1.toInt < (Int32.ofInt 1).toInt ∨ (Int32.ofInt 5).toInt < a1.toInt))) := h2
      have q6 := h2.1.symm
      subst q6
      have q7 := h2.2
      refine And.intro (fun c8 => ?_) (fun c8 => ?_)
      · have c8 : v1.toInt = 0 := c8
        refine And.intro (Nat.le_of_ble_eq_true rfl) (And.intro ⟨55, (Int32.ofInt 1), rfl, by decide, i0⟩ ?_)
        intro v9 s11 h10
        have h10 : Iv s11 ∧ Kp s0 s11 ∧ vk s11 = ((vk s0).1, (vk s0).2) ∧ (v9.toInt = -1) := h10
        have i12 := h10.1
        have k13 : K_X11_comb s0 s11 := Kx.tr Kx.rf ((h10.2.1).px)
        have u14 : vk s11 = ((vk s0).1, (vk s0).2) := h10.2.2.1.trans rfl
        have q15 := h10.2.2.2
        show Iv s11 ∧ K_X11_comb s0 s11 ∧ vk s11 = ((vk s0).1, if (1 ≤ a1.toInt ∧ a1.toInt ≤ 5 ∧ 1 ≤ a2.toInt ∧ a2.toInt ≤ 16 ∧ 8 ≤ a3.toInt ∧ a3.toInt ≤ 32 ∧ 0 ≤ a4.toInt ∧ a4.toInt ≤ 1) then kb2 (Int64.ofNat 0) 3 3 (vk s0).2 else (vk s0).2) ∧ (((1 ≤ a1.toInt ∧ a1.toInt ≤ 5 ∧ 1 ≤ a2.toInt ∧ a2.toInt ≤ 16 ∧ 8 ≤ a3.toInt ∧ a3.toInt ≤ 32 ∧ 0 ≤ a4.toInt ∧ a4.toInt ≤ 1) ∧ (s11.1 55 16).toInt = a1.toInt ∧ (s11.1 55 17).toInt = a2.toInt ∧ vg_isneed (vg_mp a2.toInt64 (vg_cx a4 (vg_me s0) (s0.1 59)).toInt64 a1.toNatClampNeg) v9) ∨ (¬ (1 ≤ a1.toInt ∧ a1.toInt ≤ 5 ∧ 1 ≤ a2.toInt ∧ a2.toInt ≤ 16 ∧ 8 ≤ a3.toInt ∧ a3.toInt ≤ 32 ∧ 0 ≤ a4.toInt ∧ a4.toInt ≤ 1) ∧ (s11.1 55 16).toInt = (s0.1 55 16).toInt ∧ (s11.1 55 17).toInt = (s0.1 55 17).toInt ∧ v9.toInt = -1))
        exact ⟨i12, k13, (by first | exact vk_rr u14 (by rw [if_pos (by omega), z3]) | exact vk_rr u14 (by rw [if_neg (by omega)])), (by first | exact Or.inl ⟨by omega, by rw [none], by rw [none], by rw [q15.1]; exact y1⟩ | exact Or.inr ⟨by omega, congrArg Int32.toInt (h10.2.1.1 55 16 rfl), congrArg Int32.toInt (h10.2.1.1 55 17 rfl), by omega⟩)⟩
      · have c8 : ¬ (v1.toInt = 0) := c8
        refine And.intro (Nat.le_of_ble_eq_true rfl) (And.intro ⟨a2, (Int32.ofInt 1), (Int32.ofInt 16), rfl, trivial⟩ ?_)
        intro v16 s18 h17
        have h17 : s18 = s0 ∧ ((v16.toInt = 1 ∧ (Int32.ofInt 1).toInt ≤ a2.toInt ∧ a2.toInt ≤ (Int32.ofInt 16).toInt) ∨ (v16.toInt = 0 ∧ (a2.toInt < (Int32.ofInt 1).toInt ∨ (Int32.ofInt 16).toInt < a2.toInt))) := h17
        have q21 := h17.1.symm
        subst q21
        have q22 := h17.2
        refine And.intro (fun c23 => ?_) (fun c23 => ?_)
        · have c23 : v16.toInt = 0 := c23
          refine And.intro (Nat.le_of_ble_eq_true rfl) (And.intro ⟨55, (Int32.ofInt 1), rfl, by decide, i0⟩ ?_)
          intro v24 s26 h25
          have h25 : Iv s26 ∧ Kp s0 s26 ∧ vk s26 = ((vk s0).1, (vk s0).2) ∧ (v24.toInt = -1) := h25
          have i27 := h25.1
          have k28 : K_X11_comb s0 s26 := Kx.tr Kx.rf ((h25.2.1).px)
          have u29 : vk s26 = ((vk s0).1, (vk s0).2) := h25.2.2.1.trans rfl
          have q30 := h25.2.2.2
          show Iv s26 ∧ K_X11_comb s0 s26 ∧ vk s26 = ((vk s0).1, if (1 ≤ a1.toInt ∧ a1.toInt ≤ 5 ∧ 1 ≤ a2.toInt ∧ a2.toInt ≤ 16 ∧ 8 ≤ a3.toInt ∧ a3.toInt ≤ 32 ∧ 0 ≤ a4.toInt ∧ a4.toInt ≤ 1) then kb2 (Int64.ofNat 0) 3 3 (vk s0).2 else (vk s0).2) ∧ (((1 ≤ a1.toInt ∧ a1.toInt ≤ 5 ∧ 1 ≤ a2.toInt ∧ a2.toInt ≤ 16 ∧ 8 ≤ a3.toInt ∧ a3.toInt ≤ 32 ∧ 0 ≤ a4.toInt ∧ a4.toInt ≤ 1) ∧ (s26.1 55 16).toInt = a1.toInt ∧ (s26.1 55 17).toInt = a2.toInt ∧ vg_isneed (vg_mp a2.toInt64 (vg_cx a4 (vg_me s0) (s0.1 59)).toInt64 a1.toNatClampNeg) v24) ∨ (¬ (1 ≤ a1.toInt ∧ a1.toInt ≤ 5 ∧ 1 ≤ a2.toInt ∧ a2.toInt ≤ 16 ∧ 8 ≤ a3.toInt ∧ a3.toInt ≤ 32 ∧ 0 ≤ a4.toInt ∧ a4.toInt ≤ 1) ∧ (s26.1 55 16).toInt = (s0.1 55 16).toInt ∧ (s26.1 55 17).toInt = (s0.1 55 17).toInt ∧ v24.toInt = -1))
          exact ⟨i27, k28, (by first | exact vk_rr u29 (by rw [if_pos (by omega), z3]) | exact vk_rr u29 (by rw [if_neg (by omega)])), (by first | exact Or.inl ⟨by omega, by rw [none], by rw [none], by rw [q30.1]; exact y1⟩ | exact Or.inr ⟨by omega, congrArg Int32.toInt (h25.2.1.1 55 16 rfl), congrArg Int32.toInt (h25.2.1.1 55 17 rfl), by omega⟩)⟩
        · have c23 : ¬ (v16.toInt = 0) := c23
          refine And.intro (Nat.le_of_ble_eq_true rfl) (And.intro ⟨a3, (Int32.ofInt 8), (Int32.ofInt 32), rfl, trivial⟩ ?_)
          intro v31 s33 h32
          have h32 : s33 = s0 ∧ ((v31.toInt = 1 ∧ (Int32.ofInt 8).toInt ≤ a3.toInt ∧ a3.toInt ≤ (Int32.ofInt 32).toInt) ∨ (v31.toInt = 0 ∧ (a3.toInt < (Int32.ofInt 8).toInt ∨ (Int32.ofInt 32).toInt < a3.toInt))) := h32
          have q36 := h32.1.symm
          subst q36
          have q37 := h32.2
          refine And.intro (fun c38 => ?_) (fun c38 => ?_)
          · have c38 : v31.toInt = 0 := c38
            refine And.intro (Nat.le_of_ble_eq_true rfl) (And.intro ⟨55, (Int32.ofInt 1), rfl, by decide, i0⟩ ?_)
            intro v39 s41 h40
            have h40 : Iv s41 ∧ Kp s0 s41 ∧ vk s41 = ((vk s0).1, (vk s0).2) ∧ (v39.toInt = -1) := h40
            have i42 := h40.1
            have k43 : K_X11_comb s0 s41 := Kx.tr Kx.rf ((h40.2.1).px)
            have u44 : vk s41 = ((vk s0).1, (vk s0).2) := h40.2.2.1.trans rfl
            have q45 := h40.2.2.2
            show Iv s41 ∧ K_X11_comb s0 s41 ∧ vk s41 = ((vk s0).1, if (1 ≤ a1.toInt ∧ a1.toInt ≤ 5 ∧ 1 ≤ a2.toInt ∧ a2.toInt ≤ 16 ∧ 8 ≤ a3.toInt ∧ a3.toInt ≤ 32 ∧ 0 ≤ a4.toInt ∧ a4.toInt ≤ 1) then kb2 (Int64.ofNat 0) 3 3 (vk s0).2 else (vk s0).2) ∧ (((1 ≤ a1.toInt ∧ a1.toInt ≤ 5 ∧ 1 ≤ a2.toInt ∧ a2.toInt ≤ 16 ∧ 8 ≤ a3.toInt ∧ a3.toInt ≤ 32 ∧ 0 ≤ a4.toInt ∧ a4.toInt ≤ 1) ∧ (s41.1 55 16).toInt = a1.toInt ∧ (s41.1 55 17).toInt = a2.toInt ∧ vg_isneed (vg_mp a2.toInt64 (vg_cx a4 (vg_me s0) (s0.1 59)).toInt64 a1.toNatClampNeg) v39) ∨ (¬ (1 ≤ a1.toInt ∧ a1.toInt ≤ 5 ∧ 1 ≤ a2.toInt ∧ a2.toInt ≤ 16 ∧ 8 ≤ a3.toInt ∧ a3.toInt ≤ 32 ∧ 0 ≤ a4.toInt ∧ a4.toInt ≤ 1) ∧ (s41.1 55 16).toInt = (s0.1 55 16).toInt ∧ (s41.1 55 17).toInt = (s0.1 55 17).toInt ∧ v39.toInt = -1))
            exact ⟨i42, k43, (by first | exact vk_rr u44 (by rw [if_pos (by omega), z3]) | exact vk_rr u44 (by rw [if_neg (by omega)])), (by first | exact Or.inl ⟨by omega, by rw [none], by rw [none], by rw [q45.1]; exact y1⟩ | exact Or.inr ⟨by omega, congrArg Int32.toInt (h40.2.1.1 55 16 rfl), congrArg Int32.toInt (h40.2.1.1 55 17 rfl), by omega⟩)⟩
          · have c38 : ¬ (v31.toInt = 0) := c38
            refine And.intro (Nat.le_of_ble_eq_true rfl) (And.intro ⟨a4, (Int32.ofInt 0), (Int32.ofInt 1), rfl, trivial⟩ ?_)
            intro v46 s48 h47
            have h47 : s48 = s0 ∧ ((v46.toInt = 1 ∧ (Int32.ofInt 0).toInt ≤ a4.toInt ∧ a4.toInt ≤ (Int32.ofInt 1).toInt) ∨ (v46.toInt = 0 ∧ (a4.toInt < (Int32.ofInt 0).toInt ∨ (Int32.ofInt 1).toInt < a4.toInt))) := h47
            have q51 := h47.1.symm
            subst q51
            have q52 := h47.2
            refine And.intro (fun c53 => ?_) (fun c53 => ?_)
            · have c53 : ¬ v46.toInt = 0 := c53
              intro s54 e55
              have i56 : Iv s54 := Iv.c1 (lo := 1) (hi := 5) i0 e55 rfl (by omega) (by omega)
              have k57 : K_X11_comb s0 s54 := Kx.u1 Kx.rf e55 rfl
              have u58 : vk s54 = ((vk s0).1, (vk s0).2) := vk_k1 rfl e55 rfl
              have g59 : s54.1 55 16 = a1 := by rw [e55]; exact vg_u1_self
              intro s60 e61
              have i62 : Iv s60 := Iv.c1 (lo := 1) (hi := 16) i56 e61 rfl (by omega) (by omega)
              have k63 : K_X11_comb s0 s60 := Kx.u1 k57 e61 rfl
              have u64 : vk s60 = ((vk s0).1, (vk s0).2) := vk_k1 u58 e61 rfl
              have g65 : s60.1 55 16 = a1 := by rw [e61, vg_u1_at (a := 55) (b := 16) (k := 55) (i := 17) (by decide)]; exact g59
              have g66 : s60.1 55 17 = a2 := by rw [e61]; exact vg_u1_self
              intro s67 e68
              have i69 : Iv s67 := Iv.u1 i62 e68 rfl
              have k70 : K_X11_comb s0 s67 := Kx.u1 k63 e68 rfl
              have u71 : vk s67 = ((vk s0).1, (vk s0).2) := vk_k1 u64 e68 rfl
              have g72 : s67.1 55 16 = a1 := by rw [e68, vg_u1_at (a := 55) (b := 16) (k := 55) (i := 18) (by decide)]; exact g65
              have g73 : s67.1 55 17 = a2 := by rw [e68, vg_u1_at (a := 55) (b := 17) (k := 55) (i := 18) (by decide)]; exact g66
              intro s74 e75
              have i76 : Iv s74 := Iv.u1 i69 e75 rfl
              have k77 : K_X11_comb s0 s74 := Kx.u1 k70 e75 rfl
              have u78 : vk s74 = ((vk s0).1, (vk s0).2) := vk_k1 u71 e75 rfl
              have g79 : s74.1 55 16 = a1 := by rw [e75, vg_u1_at (a := 55) (b := 16) (k := 55) (i := 19) (by decide)]; exact g72
              have g80 : s74.1 55 17 = a2 := by rw [e75, vg_u1_at (a := 55) (b := 17) (k := 55) (i := 19) (by decide)]; exact g73
              refine And.intro (Nat.le_of_ble_eq_true rfl) (And.intro ⟨55, (Int32.ofInt 3), rfl, by decide, i76, by omega⟩ ?_)
              intro s82 h81
              have h81 : Iv s82 ∧ Kp s74 s82 ∧ vk s82 = ((vk s74).1, kb2 (Int64.ofNat 0) (Int32.ofInt 3).toInt 3 (vk s74).2) ∧ (True) := h81
              have i83 := h81.1
              have k84 : K_X11_comb s0 s82 := Kx.tr k77 ((h81.2.1).px)
              have u85 : vk s82 = ((vk s0).1, (kb2 (Int64.ofNat 0) (Int32.ofInt 3).toInt 3 (vk s0).2)) := (by rw [h81.2.2.1, u78])
              have g86 : s82.1 55 16 = a1 := by rw [h81.2.1.1 55 16 rfl]; exact g79
              have g87 : s82.1 55 17 = a2 := by rw [h81.2.1.1 55 17 rfl]; exact g80
              refine And.intro (fun c88 => ?_) (fun c88 => ?_)
              · have c88 : ¬ a4.toInt = 0 := c88
                refine And.intro (Nat.le_of_ble_eq_true rfl) (And.intro ⟨55, rfl, by decide, i83⟩ ?_)
                intro v89 s91 h90
                have h90 : s91 = s82 ∧ (v89 = vg_ws (s82.1 59) (vg_me s82).toNatClampNeg) := h90
                have q94 := h90.1.symm
                subst q94
                have q95 := h90.2
                have y0 : v89 = vg_cx a4 (vg_me s0) (s0.1 59) := by first | (rw [vg_cx, if_pos (by omega), q95.1]; exact vg_me_eq (k84.1 55 7 rfl) (k84.1 55 8 rfl) (k84.1 55 10 rfl)) | (rw [vg_cx, if_neg (by omega), q95, vg_me_eq (k84.1 55 7 rfl) (k84.1 55 8 rfl) (k84.1 55 10 rfl)]; exact vg_ws_congr (fun j _ => k84.1 59 j rfl))
                refine And.intro (Nat.le_of_ble_eq_true rfl) (And.intro ⟨55, v89, rfl, by decide, i83⟩ ?_)
                intro v96 s98 h97
                have h97 : s98 = s82 ∧ (vg_isneed (vg_mp (s82.1 55 17).toInt64 v89.toInt64 (s82.1 55 16).toNatClampNeg) v96) := h97
                have q101 := h97.1.symm
                subst q101
                have q102 := h97.2
                have y1 : vg_isneed (vg_mp a2.toInt64 (vg_cx a4 (vg_me s0) (s0.1 59)).toInt64 a1.toNatClampNeg) v96 := vg_cned q102 g86 g87 y0
                refine And.intro (Nat.le_of_ble_eq_true rfl) (And.intro ⟨55, v96, rfl, by decide, i83⟩ ?_)
                intro v103 s105 h104
                have h104 : Iv s105 ∧ Kp s82 s105 ∧ vk s105 = ((vk s82).1, (vk s82).2) ∧ (v103 = v96 ∧ v103.toInt = v96.toInt) := h104
                have i106 := h104.1
                have k107 : K_X11_comb s0 s105 := Kx.tr k84 ((h104.2.1).px)
                have u108 : vk s105 = ((vk s0).1, (kb2 (Int64.ofNat 0) (Int32.ofInt 3).toInt 3 (vk s0).2)) := h104.2.2.1.trans u85
                have q109 := h104.2.2.2
                have g110 : s105.1 55 16 = a1 := by rw [h104.2.1.1 55 16 rfl]; exact g86
                have g111 : s105.1 55 17 = a2 := by rw [h104.2.1.1 55 17 rfl]; exact g87
                show Iv s105 ∧ K_X11_comb s0 s105 ∧ vk s105 = ((vk s0).1, if (1 ≤ a1.toInt ∧ a1.toInt ≤ 5 ∧ 1 ≤ a2.toInt ∧ a2.toInt ≤ 16 ∧ 8 ≤ a3.toInt ∧ a3.toInt ≤ 32 ∧ 0 ≤ a4.toInt ∧ a4.toInt ≤ 1) then kb2 (Int64.ofNat 0) 3 3 (vk s0).2 else (vk s0).2) ∧ (((1 ≤ a1.toInt ∧ a1.toInt ≤ 5 ∧ 1 ≤ a2.toInt ∧ a2.toInt ≤ 16 ∧ 8 ≤ a3.toInt ∧ a3.toInt ≤ 32 ∧ 0 ≤ a4.toInt ∧ a4.toInt ≤ 1) ∧ (s105.1 55 16).toInt = a1.toInt ∧ (s105.1 55 17).toInt = a2.toInt ∧ vg_isneed (vg_mp a2.toInt64 (vg_cx a4 (vg_me s0) (s0.1 59)).toInt64 a1.toNatClampNeg) v103) ∨ (¬ (1 ≤ a1.toInt ∧ a1.toInt ≤ 5 ∧ 1 ≤ a2.toInt ∧ a2.toInt ≤ 16 ∧ 8 ≤ a3.toInt ∧ a3.toInt ≤ 32 ∧ 0 ≤ a4.toInt ∧ a4.toInt ≤ 1) ∧ (s105.1 55 16).toInt = (s0.1 55 16).toInt ∧ (s105.1 55 17).toInt = (s0.1 55 17).toInt ∧ v103.toInt = -1))
                exact ⟨i106, k107, (by first | exact vk_rr u108 (by rw [if_pos (by omega), z3]) | exact vk_rr u108 (by rw [if_neg (by omega)])), (by first | exact Or.inl ⟨by omega, by rw [g110], by rw [g111], by rw [q109.1]; exact y1⟩ | exact Or.inr ⟨by omega, congrArg Int32.toInt (h104.2.1.1 55 16 rfl), congrArg Int32.toInt (h104.2.1.1 55 17 rfl), by omega⟩)⟩
              · have c88 : ¬ (¬ a4.toInt = 0) := c88
                refine And.intro (Nat.le_of_ble_eq_true rfl) (And.intro ⟨55, rfl, by decide, i83⟩ ?_)
                intro v112 s114 h113
                have h113 : s114 = s82 ∧ (v112 = vg_me s82 ∧ 1 ≤ v112.toInt ∧ v112.toInt ≤ 16) := h113
                have q117 := h113.1.symm
                subst q117
                have q118 := h113.2
                have y0 : v112 = vg_cx a4 (vg_me s0) (s0.1 59) := by first | (rw [vg_cx, if_pos (by omega), q118.1]; exact vg_me_eq (k84.1 55 7 rfl) (k84.1 55 8 rfl) (k84.1 55 10 rfl)) | (rw [vg_cx, if_neg (by omega), q118, vg_me_eq (k84.1 55 7 rfl) (k84.1 55 8 rfl) (k84.1 55 10 rfl)]; exact vg_ws_congr (fun j _ => k84.1 59 j rfl))
                refine And.intro (Nat.le_of_ble_eq_true rfl) (And.intro ⟨55, v112, rfl, by decide, i83⟩ ?_)
                intro v119 s121 h120
                have h120 : s121 = s82 ∧ (vg_isneed (vg_mp (s82.1 55 17).toInt64 v112.toInt64 (s82.1 55 16).toNatClampNeg) v119) := h120
                have q124 := h120.1.symm
                subst q124
                have q125 := h120.2
                have y1 : vg_isneed (vg_mp a2.toInt64 (vg_cx a4 (vg_me s0) (s0.1 59)).toInt64 a1.toNatClampNeg) v119 := vg_cned q125 g86 g87 y0
                refine And.intro (Nat.le_of_ble_eq_true rfl) (And.intro ⟨55, v119, rfl, by decide, i83⟩ ?_)
                intro v126 s128 h127
                have h127 : Iv s128 ∧ Kp s82 s128 ∧ vk s128 = ((vk s82).1, (vk s82).2) ∧ (v126 = v119 ∧ v126.toInt = v119.toInt) := h127
                have i129 := h127.1
                have k130 : K_X11_comb s0 s128 := Kx.tr k84 ((h127.2.1).px)
                have u131 : vk s128 = ((vk s0).1, (kb2 (Int64.ofNat 0) (Int32.ofInt 3).toInt 3 (vk s0).2)) := h127.2.2.1.trans u85
                have q132 := h127.2.2.2
                have g133 : s128.1 55 16 = a1 := by rw [h127.2.1.1 55 16 rfl]; exact g86
                have g134 : s128.1 55 17 = a2 := by rw [h127.2.1.1 55 17 rfl]; exact g87
                show Iv s128 ∧ K_X11_comb s0 s128 ∧ vk s128 = ((vk s0).1, if (1 ≤ a1.toInt ∧ a1.toInt ≤ 5 ∧ 1 ≤ a2.toInt ∧ a2.toInt ≤ 16 ∧ 8 ≤ a3.toInt ∧ a3.toInt ≤ 32 ∧ 0 ≤ a4.toInt ∧ a4.toInt ≤ 1) then kb2 (Int64.ofNat 0) 3 3 (vk s0).2 else (vk s0).2) ∧ (((1 ≤ a1.toInt ∧ a1.toInt ≤ 5 ∧ 1 ≤ a2.toInt ∧ a2.toInt ≤ 16 ∧ 8 ≤ a3.toInt ∧ a3.toInt ≤ 32 ∧ 0 ≤ a4.toInt ∧ a4.toInt ≤ 1) ∧ (s128.1 55 16).toInt = a1.toInt ∧ (s128.1 55 17).toInt = a2.toInt ∧ vg_isneed (vg_mp a2.toInt64 (vg_cx a4 (vg_me s0) (s0.1 59)).toInt64 a1.toNatClampNeg) v126) ∨ (¬ (1 ≤ a1.toInt ∧ a1.toInt ≤ 5 ∧ 1 ≤ a2.toInt ∧ a2.toInt ≤ 16 ∧ 8 ≤ a3.toInt ∧ a3.toInt ≤ 32 ∧ 0 ≤ a4.toInt ∧ a4.toInt ≤ 1) ∧ (s128.1 55 16).toInt = (s0.1 55 16).toInt ∧ (s128.1 55 17).toInt = (s0.1 55 17).toInt ∧ v126.toInt = -1))
                exact ⟨i129, k130, (by first | exact vk_rr u131 (by rw [if_pos (by omega), z3]) | exact vk_rr u131 (by rw [if_neg (by omega)])), (by first | exact Or.inl ⟨by omega, by rw [g133], by rw [g134], by rw [q132.1]; exact y1⟩ | exact Or.inr ⟨by omega, congrArg Int32.toInt (h127.2.1.1 55 16 rfl), congrArg Int32.toInt (h127.2.1.1 55 17 rfl), by omega⟩)⟩
            · have c53 : ¬ (¬ v46.toInt = 0) := c53
              refine And.intro (Nat.le_of_ble_eq_true rfl) (And.intro ⟨55, (Int32.ofInt 1), rfl, by decide, i0⟩ ?_)
              intro v135 s137 h136
              have h136 : Iv s137 ∧ Kp s0 s137 ∧ vk s137 = ((vk s0).1, (vk s0).2) ∧ (v135.toInt = -1) := h136
              have i138 := h136.1
              have k139 : K_X11_comb s0 s137 := Kx.tr Kx.rf ((h136.2.1).px)
              have u140 : vk s137 = ((vk s0).1, (vk s0).2) := h136.2.2.1.trans rfl
              have q141 := h136.2.2.2
              show Iv s137 ∧ K_X11_comb s0 s137 ∧ vk s137 = ((vk s0).1, if (1 ≤ a1.toInt ∧ a1.toInt ≤ 5 ∧ 1 ≤ a2.toInt ∧ a2.toInt ≤ 16 ∧ 8 ≤ a3.toInt ∧ a3.toInt ≤ 32 ∧ 0 ≤ a4.toInt ∧ a4.toInt ≤ 1) then kb2 (Int64.ofNat 0) 3 3 (vk s0).2 else (vk s0).2) ∧ (((1 ≤ a1.toInt ∧ a1.toInt ≤ 5 ∧ 1 ≤ a2.toInt ∧ a2.toInt ≤ 16 ∧ 8 ≤ a3.toInt ∧ a3.toInt ≤ 32 ∧ 0 ≤ a4.toInt ∧ a4.toInt ≤ 1) ∧ (s137.1 55 16).toInt = a1.toInt ∧ (s137.1 55 17).toInt = a2.toInt ∧ vg_isneed (vg_mp a2.toInt64 (vg_cx a4 (vg_me s0) (s0.1 59)).toInt64 a1.toNatClampNeg) v135) ∨ (¬ (1 ≤ a1.toInt ∧ a1.toInt ≤ 5 ∧ 1 ≤ a2.toInt ∧ a2.toInt ≤ 16 ∧ 8 ≤ a3.toInt ∧ a3.toInt ≤ 32 ∧ 0 ≤ a4.toInt ∧ a4.toInt ≤ 1) ∧ (s137.1 55 16).toInt = (s0.1 55 16).toInt ∧ (s137.1 55 17).toInt = (s0.1 55 17).toInt ∧ v135.toInt = -1))
              exact ⟨i138, k139, (by first | exact vk_rr u140 (by rw [if_pos (by omega), z3]) | exact vk_rr u140 (by rw [if_neg (by omega)])), (by first | exact Or.inl ⟨by omega, by rw [none], by rw [none], by rw [q141.1]; exact y1⟩ | exact Or.inr ⟨by omega, congrArg Int32.toInt (h136.2.1.1 55 16 rfl), congrArg Int32.toInt (h136.2.1.1 55 17 rfl), by omega⟩)⟩
def o_X11_taps : List vg_I := [(0, .iload_n 1, 1, 0, 0, 0, 0), (1, .invokestatic 258, 3, 0, 1, 1, 1254), (4, .ifCond .eq 36, 3, 0, 0, 0, 0), (7, .iload_n 2, 1, 0, 0, 0, 0), (8, .invokestatic 258, 3, 0, 1, 1, 1254), (11, .ifCond .eq 29, 3, 0, 0, 0, 0), (14, .iload_n 3, 1, 0, 0, 0, 0), (15, .invokestatic 258, 3, 0, 1, 1, 1254), (18, .ifCond .eq 22, 3, 0, 0, 0, 0), (21, .iload 4, 2, 0, 0, 0, 0), (23, .invokestatic 258, 3, 0, 1, 1, 1254), (26, .ifCond .eq 14, 3, 0, 0, 0, 0), (29, .iload 5, 2, 0, 0, 0, 0), (31, .iconst 0, 1, 0, 0, 0, 0), (32, .bipush 12, 2, 0, 0, 0, 0), (34, .invokestatic 76, 3, 1, 1, 3, 1175), (37, .ifCond .ne 9, 3, 0, 0, 0, 0), (40, .aload_n 0, 1, 0, 0, 0, 0), (41, .iconst 1, 1, 0, 0, 0, 0), (42, .invokevirtual 242, 3, 2, 11, 1, 1181), (45, .ireturn, 1, 0, 0, 0, 0), (46, .aload_n 0, 1, 0, 0, 0, 0), (47, .getfield 52, 3, 1086, 11, 25, 0), (50, .iconst 0, 1, 0, 0, 0, 0), (51, .iload_n 1, 1, 0, 0, 0, 0), (52, .iastore, 1, 0, 0, 0, 0), (53, .aload_n 0, 1, 0, 0, 0, 0), (54, .getfield 52, 3, 1086, 11, 25, 0), (57, .iconst 1, 1, 0, 0, 0, 0), (58, .iload_n 2, 1, 0, 0, 0, 0), (59, .iastore, 1, 0, 0, 0, 0), (60, .aload_n 0, 1, 0, 0, 0, 0), (61, .getfield 52, 3, 1086, 11, 25, 0), (64, .iconst 2, 1, 0, 0, 0, 0), (65, .iload_n 3, 1, 0, 0, 0, 0), (66, .iastore, 1, 0, 0, 0, 0), (67, .aload_n 0, 1, 0, 0, 0, 0), (68, .getfield 52, 3, 1086, 11, 25, 0), (71, .iconst 3, 1, 0, 0, 0, 0), (72, .iload 4, 2, 0, 0, 0, 0), (74, .iastore, 1, 0, 0, 0, 0), (75, .aload_n 0, 1, 0, 0, 0, 0), (76, .iload 5, 2, 0, 0, 0, 0), (78, .putfield 198, 3, 1082, 11, 21, 0), (81, .aload_n 0, 1, 0, 0, 0, 0), (82, .iconst 4, 1, 0, 0, 0, 0), (83, .invokevirtual 245, 3, 3, 11, 1, 1185), (86, .aload_n 0, 1, 0, 0, 0, 0), (87, .iconst 2, 1, 0, 0, 0, 0), (88, .iload_n 1, 1, 0, 0, 0, 0), (89, .iload_n 2, 1, 0, 0, 0, 0), (90, .iadd, 1, 0, 0, 0, 0), (91, .iload_n 3, 1, 0, 0, 0, 0), (92, .iadd, 1, 0, 0, 0, 0), (93, .imul, 1, 0, 0, 0, 0), (94, .iload 4, 2, 0, 0, 0, 0), (96, .iadd, 1, 0, 0, 0, 0), (97, .invokevirtual 249, 3, 4, 11, 1, 1206), (100, .ireturn, 1, 0, 0, 0, 0)]
set_option maxRecDepth 100000 in
set_option maxHeartbeats 4000000 in
theorem c_X11_taps (l : Launch) (G : vg_G) (hp : vg_Hp G) : vg_Ct l G vg_sh r_X11_taps := by
  refine vg_meth hp vg_sh_ok r_X11_taps k_X11_taps rfl (fun h => by cases h) o_X11_taps [r_X11_isTap, r_X11_isFrom, r_X11_refuse, r_X11_begins, r_X11_gives] false (by decide +kernel) (by decide +kernel) ⟨_, _, rfl, rfl⟩ (List.forall_mem_cons.mpr ⟨⟨c_X11_isTap l G hp, Nat.le_of_ble_eq_true rfl, Nat.le_of_ble_eq_true rfl⟩, List.forall_mem_cons.mpr ⟨⟨c_X11_isFrom l G hp, Nat.le_of_ble_eq_true rfl, Nat.le_of_ble_eq_true rfl⟩, List.forall_mem_cons.mpr ⟨⟨c_X11_refuse l G hp, Nat.le_of_ble_eq_true rfl, Nat.le_of_ble_eq_true rfl⟩, List.forall_mem_cons.mpr ⟨⟨c_X11_begins l G hp, Nat.le_of_ble_eq_true rfl, Nat.le_of_ble_eq_true rfl⟩, List.forall_mem_cons.mpr ⟨⟨c_X11_gives l G hp, Nat.le_of_ble_eq_true rfl, Nat.le_of_ble_eq_true rfl⟩, fun _ h => absurd h List.not_mem_nil⟩⟩⟩⟩⟩) (fun h => by cases h) 600 ?_
  intro as s0 hpre
  obtain ⟨r, a1, a2, a3, a4, a5, rfl, hr, i0⟩ := hpre
  simp only [List.mem_cons, List.not_mem_nil, or_false] at hr
  rcases hr with rfl
  ·
    have z0 : (Int32.ofInt 0).toInt = 0 := by decide
    have z1 : (Int32.ofInt 1).toInt = 1 := by decide
    have z2 : (Int32.ofInt 2).toInt = 2 := by decide
    have z3 : (Int32.ofInt 3).toInt = 3 := by decide
    have z4 : (Int32.ofInt 4).toInt = 4 := by decide
    have z12 : (Int32.ofInt 12).toInt = 12 := by decide
    refine ⟨Nat.le_of_ble_eq_true rfl, [], ?_, fun _ h => absurd h List.not_mem_nil⟩
    ·
      refine And.intro (Nat.le_of_ble_eq_true rfl) (And.intro ⟨a1, rfl, trivial⟩ ?_)
      intro v1 s3 h2
      have h2 : s3 = s0 ∧ ((v1.toInt = 1 ∧ -999 ≤ a1.toInt ∧ a1.toInt ≤ 999) ∨ (v1.toInt = 0 ∧ (a1.toInt < -999 ∨ 999 < a1.toInt))) := h2
      have q6 := h2.1.symm
      subst q6
      have q7 := h2.2
      refine And.intro (fun c8 => ?_) (fun c8 => ?_)
      · have c8 : v1.toInt = 0 := c8
        refine And.intro (Nat.le_of_ble_eq_true rfl) (And.intro ⟨55, (Int32.ofInt 1), rfl, by decide, i0⟩ ?_)
        intro v9 s11 h10
        have h10 : Iv s11 ∧ Kp s0 s11 ∧ vk s11 = ((vk s0).1, (vk s0).2) ∧ (v9.toInt = -1) := h10
        have i12 := h10.1
        have k13 : K_X11_taps s0 s11 := Kx.tr Kx.rf ((h10.2.1).px)
        have u14 : vk s11 = ((vk s0).1, (vk s0).2) := h10.2.2.1.trans rfl
        have q15 := h10.2.2.2
        show Iv s11 ∧ K_X11_taps s0 s11 ∧ vk s11 = ((vk s0).1, if (-999 ≤ a1.toInt ∧ a1.toInt ≤ 999 ∧ -999 ≤ a2.toInt ∧ a2.toInt ≤ 999 ∧ -999 ≤ a3.toInt ∧ a3.toInt ≤ 999 ∧ -999 ≤ a4.toInt ∧ a4.toInt ≤ 999 ∧ 0 ≤ a5.toInt ∧ a5.toInt ≤ 12) then kb2 (Int64.ofNat 0) 4 3 (vk s0).2 else (vk s0).2) ∧ (((-999 ≤ a1.toInt ∧ a1.toInt ≤ 999 ∧ -999 ≤ a2.toInt ∧ a2.toInt ≤ 999 ∧ -999 ≤ a3.toInt ∧ a3.toInt ≤ 999 ∧ -999 ≤ a4.toInt ∧ a4.toInt ≤ 999 ∧ 0 ≤ a5.toInt ∧ a5.toInt ≤ 12) ∧ v9.toInt = 2 * (a1.toInt + a2.toInt + a3.toInt) + a4.toInt ∧ s11.1 55 21 = a5 ∧ s11.1 61 0 = a1 ∧ s11.1 61 1 = a2 ∧ s11.1 61 2 = a3 ∧ s11.1 61 3 = a4) ∨ (¬ (-999 ≤ a1.toInt ∧ a1.toInt ≤ 999 ∧ -999 ≤ a2.toInt ∧ a2.toInt ≤ 999 ∧ -999 ≤ a3.toInt ∧ a3.toInt ≤ 999 ∧ -999 ≤ a4.toInt ∧ a4.toInt ≤ 999 ∧ 0 ≤ a5.toInt ∧ a5.toInt ≤ 12) ∧ v9.toInt = -1 ∧ s11.1 55 21 = s0.1 55 21 ∧ ∀ j : Nat, s11.1 61 j = s0.1 61 j))
        exact ⟨i12, k13, (by first | exact vk_rr u14 (by rw [if_pos (by omega), z4]) | exact vk_rr u14 (by rw [if_neg (by omega)])), (by first | exact Or.inl ⟨by omega, by omega, None⟩ | exact Or.inr ⟨by omega, by omega, h10.2.1.1 55 21 rfl, fun j => h10.2.1.1 61 j rfl⟩)⟩
      · have c8 : ¬ (v1.toInt = 0) := c8
        refine And.intro (Nat.le_of_ble_eq_true rfl) (And.intro ⟨a2, rfl, trivial⟩ ?_)
        intro v16 s18 h17
        have h17 : s18 = s0 ∧ ((v16.toInt = 1 ∧ -999 ≤ a2.toInt ∧ a2.toInt ≤ 999) ∨ (v16.toInt = 0 ∧ (a2.toInt < -999 ∨ 999 < a2.toInt))) := h17
        have q21 := h17.1.symm
        subst q21
        have q22 := h17.2
        refine And.intro (fun c23 => ?_) (fun c23 => ?_)
        · have c23 : v16.toInt = 0 := c23
          refine And.intro (Nat.le_of_ble_eq_true rfl) (And.intro ⟨55, (Int32.ofInt 1), rfl, by decide, i0⟩ ?_)
          intro v24 s26 h25
          have h25 : Iv s26 ∧ Kp s0 s26 ∧ vk s26 = ((vk s0).1, (vk s0).2) ∧ (v24.toInt = -1) := h25
          have i27 := h25.1
          have k28 : K_X11_taps s0 s26 := Kx.tr Kx.rf ((h25.2.1).px)
          have u29 : vk s26 = ((vk s0).1, (vk s0).2) := h25.2.2.1.trans rfl
          have q30 := h25.2.2.2
          show Iv s26 ∧ K_X11_taps s0 s26 ∧ vk s26 = ((vk s0).1, if (-999 ≤ a1.toInt ∧ a1.toInt ≤ 999 ∧ -999 ≤ a2.toInt ∧ a2.toInt ≤ 999 ∧ -999 ≤ a3.toInt ∧ a3.toInt ≤ 999 ∧ -999 ≤ a4.toInt ∧ a4.toInt ≤ 999 ∧ 0 ≤ a5.toInt ∧ a5.toInt ≤ 12) then kb2 (Int64.ofNat 0) 4 3 (vk s0).2 else (vk s0).2) ∧ (((-999 ≤ a1.toInt ∧ a1.toInt ≤ 999 ∧ -999 ≤ a2.toInt ∧ a2.toInt ≤ 999 ∧ -999 ≤ a3.toInt ∧ a3.toInt ≤ 999 ∧ -999 ≤ a4.toInt ∧ a4.toInt ≤ 999 ∧ 0 ≤ a5.toInt ∧ a5.toInt ≤ 12) ∧ v24.toInt = 2 * (a1.toInt + a2.toInt + a3.toInt) + a4.toInt ∧ s26.1 55 21 = a5 ∧ s26.1 61 0 = a1 ∧ s26.1 61 1 = a2 ∧ s26.1 61 2 = a3 ∧ s26.1 61 3 = a4) ∨ (¬ (-999 ≤ a1.toInt ∧ a1.toInt ≤ 999 ∧ -999 ≤ a2.toInt ∧ a2.toInt ≤ 999 ∧ -999 ≤ a3.toInt ∧ a3.toInt ≤ 999 ∧ -999 ≤ a4.toInt ∧ a4.toInt ≤ 999 ∧ 0 ≤ a5.toInt ∧ a5.toInt ≤ 12) ∧ v24.toInt = -1 ∧ s26.1 55 21 = s0.1 55 21 ∧ ∀ j : Nat, s26.1 61 j = s0.1 61 j))
          exact ⟨i27, k28, (by first | exact vk_rr u29 (by rw [if_pos (by omega), z4]) | exact vk_rr u29 (by rw [if_neg (by omega)])), (by first | exact Or.inl ⟨by omega, by omega, None⟩ | exact Or.inr ⟨by omega, by omega, h25.2.1.1 55 21 rfl, fun j => h25.2.1.1 61 j rfl⟩)⟩
        · have c23 : ¬ (v16.toInt = 0) := c23
          refine And.intro (Nat.le_of_ble_eq_true rfl) (And.intro ⟨a3, rfl, trivial⟩ ?_)
          intro v31 s33 h32
          have h32 : s33 = s0 ∧ ((v31.toInt = 1 ∧ -999 ≤ a3.toInt ∧ a3.toInt ≤ 999) ∨ (v31.toInt = 0 ∧ (a3.toInt < -999 ∨ 999 < a3.toInt))) := h32
          have q36 := h32.1.symm
          subst q36
          have q37 := h32.2
          refine And.intro (fun c38 => ?_) (fun c38 => ?_)
          · have c38 : v31.toInt = 0 := c38
            refine And.intro (Nat.le_of_ble_eq_true rfl) (And.intro ⟨55, (Int32.ofInt 1), rfl, by decide, i0⟩ ?_)
            intro v39 s41 h40
            have h40 : Iv s41 ∧ Kp s0 s41 ∧ vk s41 = ((vk s0).1, (vk s0).2) ∧ (v39.toInt = -1) := h40
            have i42 := h40.1
            have k43 : K_X11_taps s0 s41 := Kx.tr Kx.rf ((h40.2.1).px)
            have u44 : vk s41 = ((vk s0).1, (vk s0).2) := h40.2.2.1.trans rfl
            have q45 := h40.2.2.2
            show Iv s41 ∧ K_X11_taps s0 s41 ∧ vk s41 = ((vk s0).1, if (-999 ≤ a1.toInt ∧ a1.toInt ≤ 999 ∧ -999 ≤ a2.toInt ∧ a2.toInt ≤ 999 ∧ -999 ≤ a3.toInt ∧ a3.toInt ≤ 999 ∧ -999 ≤ a4.toInt ∧ a4.toInt ≤ 999 ∧ 0 ≤ a5.toInt ∧ a5.toInt ≤ 12) then kb2 (Int64.ofNat 0) 4 3 (vk s0).2 else (vk s0).2) ∧ (((-999 ≤ a1.toInt ∧ a1.toInt ≤ 999 ∧ -999 ≤ a2.toInt ∧ a2.toInt ≤ 999 ∧ -999 ≤ a3.toInt ∧ a3.toInt ≤ 999 ∧ -999 ≤ a4.toInt ∧ a4.toInt ≤ 999 ∧ 0 ≤ a5.toInt ∧ a5.toInt ≤ 12) ∧ v39.toInt = 2 * (a1.toInt + a2.toInt + a3.toInt) + a4.toInt ∧ s41.1 55 21 = a5 ∧ s41.1 61 0 = a1 ∧ s41.1 61 1 = a2 ∧ s41.1 61 2 = a3 ∧ s41.1 61 3 = a4) ∨ (¬ (-999 ≤ a1.toInt ∧ a1.toInt ≤ 999 ∧ -999 ≤ a2.toInt ∧ a2.toInt ≤ 999 ∧ -999 ≤ a3.toInt ∧ a3.toInt ≤ 999 ∧ -999 ≤ a4.toInt ∧ a4.toInt ≤ 999 ∧ 0 ≤ a5.toInt ∧ a5.toInt ≤ 12) ∧ v39.toInt = -1 ∧ s41.1 55 21 = s0.1 55 21 ∧ ∀ j : Nat, s41.1 61 j = s0.1 61 j))
            exact ⟨i42, k43, (by first | exact vk_rr u44 (by rw [if_pos (by omega), z4]) | exact vk_rr u44 (by rw [if_neg (by omega)])), (by first | exact Or.inl ⟨by omega, by omega, None⟩ | exact Or.inr ⟨by omega, by omega, h40.2.1.1 55 21 rfl, fun j => h40.2.1.1 61 j rfl⟩)⟩
          · have c38 : ¬ (v31.toInt = 0) := c38
            refine And.intro (Nat.le_of_ble_eq_true rfl) (And.intro ⟨a4, rfl, trivial⟩ ?_)
            intro v46 s48 h47
            have h47 : s48 = s0 ∧ ((v46.toInt = 1 ∧ -999 ≤ a4.toInt ∧ a4.toInt ≤ 999) ∨ (v46.toInt = 0 ∧ (a4.toInt < -999 ∨ 999 < a4.toInt))) := h47
            have q51 := h47.1.symm
            subst q51
            have q52 := h47.2
            refine And.intro (fun c53 => ?_) (fun c53 => ?_)
            · have c53 : v46.toInt = 0 := c53
              refine And.intro (Nat.le_of_ble_eq_true rfl) (And.intro ⟨55, (Int32.ofInt 1), rfl, by decide, i0⟩ ?_)
              intro v54 s56 h55
              have h55 : Iv s56 ∧ Kp s0 s56 ∧ vk s56 = ((vk s0).1, (vk s0).2) ∧ (v54.toInt = -1) := h55
              have i57 := h55.1
              have k58 : K_X11_taps s0 s56 := Kx.tr Kx.rf ((h55.2.1).px)
              have u59 : vk s56 = ((vk s0).1, (vk s0).2) := h55.2.2.1.trans rfl
              have q60 := h55.2.2.2
              show Iv s56 ∧ K_X11_taps s0 s56 ∧ vk s56 = ((vk s0).1, if (-999 ≤ a1.toInt ∧ a1.toInt ≤ 999 ∧ -999 ≤ a2.toInt ∧ a2.toInt ≤ 999 ∧ -999 ≤ a3.toInt ∧ a3.toInt ≤ 999 ∧ -999 ≤ a4.toInt ∧ a4.toInt ≤ 999 ∧ 0 ≤ a5.toInt ∧ a5.toInt ≤ 12) then kb2 (Int64.ofNat 0) 4 3 (vk s0).2 else (vk s0).2) ∧ (((-999 ≤ a1.toInt ∧ a1.toInt ≤ 999 ∧ -999 ≤ a2.toInt ∧ a2.toInt ≤ 999 ∧ -999 ≤ a3.toInt ∧ a3.toInt ≤ 999 ∧ -999 ≤ a4.toInt ∧ a4.toInt ≤ 999 ∧ 0 ≤ a5.toInt ∧ a5.toInt ≤ 12) ∧ v54.toInt = 2 * (a1.toInt + a2.toInt + a3.toInt) + a4.toInt ∧ s56.1 55 21 = a5 ∧ s56.1 61 0 = a1 ∧ s56.1 61 1 = a2 ∧ s56.1 61 2 = a3 ∧ s56.1 61 3 = a4) ∨ (¬ (-999 ≤ a1.toInt ∧ a1.toInt ≤ 999 ∧ -999 ≤ a2.toInt ∧ a2.toInt ≤ 999 ∧ -999 ≤ a3.toInt ∧ a3.toInt ≤ 999 ∧ -999 ≤ a4.toInt ∧ a4.toInt ≤ 999 ∧ 0 ≤ a5.toInt ∧ a5.toInt ≤ 12) ∧ v54.toInt = -1 ∧ s56.1 55 21 = s0.1 55 21 ∧ ∀ j : Nat, s56.1 61 j = s0.1 61 j))
              exact ⟨i57, k58, (by first | exact vk_rr u59 (by rw [if_pos (by omega), z4]) | exact vk_rr u59 (by rw [if_neg (by omega)])), (by first | exact Or.inl ⟨by omega, by omega, None⟩ | exact Or.inr ⟨by omega, by omega, h55.2.1.1 55 21 rfl, fun j => h55.2.1.1 61 j rfl⟩)⟩
            · have c53 : ¬ (v46.toInt = 0) := c53
              refine And.intro (Nat.le_of_ble_eq_true rfl) (And.intro ⟨a5, (Int32.ofInt 0), (Int32.ofInt 12), rfl, trivial⟩ ?_)
              intro v61 s63 h62
              have h62 : s63 = s0 ∧ ((v61.toInt = 1 ∧ (Int32.ofInt 0).toInt ≤ a5.toInt ∧ a5.toInt ≤ (Int32.ofInt 12).toInt) ∨ (v61.toInt = 0 ∧ (a5.toInt < (Int32.ofInt 0).toInt ∨ (Int32.ofInt 12).toInt < a5.toInt))) := h62
              have q66 := h62.1.symm
              subst q66
              have q67 := h62.2
              refine And.intro (fun c68 => ?_) (fun c68 => ?_)
              · have c68 : ¬ v61.toInt = 0 := c68
                refine And.intro ⟨by omega, by omega⟩ ?_
                intro s69 e70
                have i71 : Iv s69 := Iv.a1 i0 e70 rfl
                have k72 : K_X11_taps s0 s69 := Kx.u1 Kx.rf e70 rfl
                have u73 : vk s69 = ((vk s0).1, (vk s0).2) := vk_k1 rfl e70 rfl
                refine And.intro ⟨by omega, by omega⟩ ?_
                intro s74 e75
                have i76 : Iv s74 := Iv.a1 i71 e75 rfl
                have k77 : K_X11_taps s0 s74 := Kx.u1 k72 e75 rfl
                have u78 : vk s74 = ((vk s0).1, (vk s0).2) := vk_k1 u73 e75 rfl
                refine And.intro ⟨by omega, by omega⟩ ?_
                intro s79 e80
                have i81 : Iv s79 := Iv.a1 i76 e80 rfl
                have k82 : K_X11_taps s0 s79 := Kx.u1 k77 e80 rfl
                have u83 : vk s79 = ((vk s0).1, (vk s0).2) := vk_k1 u78 e80 rfl
                refine And.intro ⟨by omega, by omega⟩ ?_
                intro s84 e85
                have i86 : Iv s84 := Iv.a1 i81 e85 rfl
                have k87 : K_X11_taps s0 s84 := Kx.u1 k82 e85 rfl
                have u88 : vk s84 = ((vk s0).1, (vk s0).2) := vk_k1 u83 e85 rfl
                intro s89 e90
                have i91 : Iv s89 := Iv.u1 i86 e90 rfl
                have k92 : K_X11_taps s0 s89 := Kx.u1 k87 e90 rfl
                have u93 : vk s89 = ((vk s0).1, (vk s0).2) := vk_k1 u88 e90 rfl
                have y94 : s89.1 55 21 = a5 ∧ s89.1 61 0 = a1 ∧ s89.1 61 1 = a2 ∧ s89.1 61 2 = a3 ∧ s89.1 61 3 = a4 := vg_own4 e70 e75 e80 e85 e90
                refine And.intro (Nat.le_of_ble_eq_true rfl) (And.intro ⟨55, (Int32.ofInt 4), rfl, by decide, i91, by omega⟩ ?_)
                intro s96 h95
                have h95 : Iv s96 ∧ Kp s89 s96 ∧ vk s96 = ((vk s89).1, kb2 (Int64.ofNat 0) (Int32.ofInt 4).toInt 3 (vk s89).2) ∧ (True) := h95
                have i97 := h95.1
                have k98 : K_X11_taps s0 s96 := Kx.tr k92 ((h95.2.1).px)
                have u99 : vk s96 = ((vk s0).1, (kb2 (Int64.ofNat 0) (Int32.ofInt 4).toInt 3 (vk s0).2)) := (by rw [h95.2.2.1, u93])
                have y100 : s96.1 55 21 = a5 ∧ s96.1 61 0 = a1 ∧ s96.1 61 1 = a2 ∧ s96.1 61 2 = a3 ∧ s96.1 61 3 = a4 := by rw [h95.2.1.1 55 21 rfl, h95.2.1.1 61 0 rfl, h95.2.1.1 61 1 rfl, h95.2.1.1 61 2 rfl, h95.2.1.1 61 3 rfl]; exact y94
                intro v101 e102
                have b103 := vg_add e102 (by omega) (by omega)
                intro v104 e105
                have b106 := vg_add e105 (by omega) (by omega)
                intro v107 e108
                have b109 : v107.toInt = (2) * v104.toInt := vg_mulL e108 (by omega) (by omega) (by omega)
                intro v110 e111
                have b112 := vg_add e111 (by omega) (by omega)
                refine And.intro (Nat.le_of_ble_eq_true rfl) (And.intro ⟨55, v110, rfl, by decide, i97⟩ ?_)
                intro v113 s115 h114
                have h114 : Iv s115 ∧ Kp s96 s115 ∧ vk s115 = ((vk s96).1, (vk s96).2) ∧ (v113 = v110 ∧ v113.toInt = v110.toInt) := h114
                have i116 := h114.1
                have k117 : K_X11_taps s0 s115 := Kx.tr k98 ((h114.2.1).px)
                have u118 : vk s115 = ((vk s0).1, (kb2 (Int64.ofNat 0) (Int32.ofInt 4).toInt 3 (vk s0).2)) := h114.2.2.1.trans u99
                have q119 := h114.2.2.2
                have y120 : s115.1 55 21 = a5 ∧ s115.1 61 0 = a1 ∧ s115.1 61 1 = a2 ∧ s115.1 61 2 = a3 ∧ s115.1 61 3 = a4 := by rw [h114.2.1.1 55 21 rfl, h114.2.1.1 61 0 rfl, h114.2.1.1 61 1 rfl, h114.2.1.1 61 2 rfl, h114.2.1.1 61 3 rfl]; exact y100
                show Iv s115 ∧ K_X11_taps s0 s115 ∧ vk s115 = ((vk s0).1, if (-999 ≤ a1.toInt ∧ a1.toInt ≤ 999 ∧ -999 ≤ a2.toInt ∧ a2.toInt ≤ 999 ∧ -999 ≤ a3.toInt ∧ a3.toInt ≤ 999 ∧ -999 ≤ a4.toInt ∧ a4.toInt ≤ 999 ∧ 0 ≤ a5.toInt ∧ a5.toInt ≤ 12) then kb2 (Int64.ofNat 0) 4 3 (vk s0).2 else (vk s0).2) ∧ (((-999 ≤ a1.toInt ∧ a1.toInt ≤ 999 ∧ -999 ≤ a2.toInt ∧ a2.toInt ≤ 999 ∧ -999 ≤ a3.toInt ∧ a3.toInt ≤ 999 ∧ -999 ≤ a4.toInt ∧ a4.toInt ≤ 999 ∧ 0 ≤ a5.toInt ∧ a5.toInt ≤ 12) ∧ v113.toInt = 2 * (a1.toInt + a2.toInt + a3.toInt) + a4.toInt ∧ s115.1 55 21 = a5 ∧ s115.1 61 0 = a1 ∧ s115.1 61 1 = a2 ∧ s115.1 61 2 = a3 ∧ s115.1 61 3 = a4) ∨ (¬ (-999 ≤ a1.toInt ∧ a1.toInt ≤ 999 ∧ -999 ≤ a2.toInt ∧ a2.toInt ≤ 999 ∧ -999 ≤ a3.toInt ∧ a3.toInt ≤ 999 ∧ -999 ≤ a4.toInt ∧ a4.toInt ≤ 999 ∧ 0 ≤ a5.toInt ∧ a5.toInt ≤ 12) ∧ v113.toInt = -1 ∧ s115.1 55 21 = s0.1 55 21 ∧ ∀ j : Nat, s115.1 61 j = s0.1 61 j))
                exact ⟨i116, k117, (by first | exact vk_rr u118 (by rw [if_pos (by omega), z4]) | exact vk_rr u118 (by rw [if_neg (by omega)])), (by first | exact Or.inl ⟨by omega, by omega, y120⟩ | exact Or.inr ⟨by omega, by omega, h114.2.1.1 55 21 rfl, fun j => h114.2.1.1 61 j rfl⟩)⟩
              · have c68 : ¬ (¬ v61.toInt = 0) := c68
                refine And.intro (Nat.le_of_ble_eq_true rfl) (And.intro ⟨55, (Int32.ofInt 1), rfl, by decide, i0⟩ ?_)
                intro v121 s123 h122
                have h122 : Iv s123 ∧ Kp s0 s123 ∧ vk s123 = ((vk s0).1, (vk s0).2) ∧ (v121.toInt = -1) := h122
                have i124 := h122.1
                have k125 : K_X11_taps s0 s123 := Kx.tr Kx.rf ((h122.2.1).px)
                have u126 : vk s123 = ((vk s0).1, (vk s0).2) := h122.2.2.1.trans rfl
                have q127 := h122.2.2.2
                show Iv s123 ∧ K_X11_taps s0 s123 ∧ vk s123 = ((vk s0).1, if (-999 ≤ a1.toInt ∧ a1.toInt ≤ 999 ∧ -999 ≤ a2.toInt ∧ a2.toInt ≤ 999 ∧ -999 ≤ a3.toInt ∧ a3.toInt ≤ 999 ∧ -999 ≤ a4.toInt ∧ a4.toInt ≤ 999 ∧ 0 ≤ a5.toInt ∧ a5.toInt ≤ 12) then kb2 (Int64.ofNat 0) 4 3 (vk s0).2 else (vk s0).2) ∧ (((-999 ≤ a1.toInt ∧ a1.toInt ≤ 999 ∧ -999 ≤ a2.toInt ∧ a2.toInt ≤ 999 ∧ -999 ≤ a3.toInt ∧ a3.toInt ≤ 999 ∧ -999 ≤ a4.toInt ∧ a4.toInt ≤ 999 ∧ 0 ≤ a5.toInt ∧ a5.toInt ≤ 12) ∧ v121.toInt = 2 * (a1.toInt + a2.toInt + a3.toInt) + a4.toInt ∧ s123.1 55 21 = a5 ∧ s123.1 61 0 = a1 ∧ s123.1 61 1 = a2 ∧ s123.1 61 2 = a3 ∧ s123.1 61 3 = a4) ∨ (¬ (-999 ≤ a1.toInt ∧ a1.toInt ≤ 999 ∧ -999 ≤ a2.toInt ∧ a2.toInt ≤ 999 ∧ -999 ≤ a3.toInt ∧ a3.toInt ≤ 999 ∧ -999 ≤ a4.toInt ∧ a4.toInt ≤ 999 ∧ 0 ≤ a5.toInt ∧ a5.toInt ≤ 12) ∧ v121.toInt = -1 ∧ s123.1 55 21 = s0.1 55 21 ∧ ∀ j : Nat, s123.1 61 j = s0.1 61 j))
                exact ⟨i124, k125, (by first | exact vk_rr u126 (by rw [if_pos (by omega), z4]) | exact vk_rr u126 (by rw [if_neg (by omega)])), (by first | exact Or.inl ⟨by omega, by omega, None⟩ | exact Or.inr ⟨by omega, by omega, h122.2.1.1 55 21 rfl, fun j => h122.2.1.1 61 j rfl⟩)⟩
def o_X11_folds_ : List vg_I := [(0, .iload_n 1, 1, 0, 0, 0, 0), (1, .iconst 0, 1, 0, 0, 0, 0), (2, .iconst 3, 1, 0, 0, 0, 0), (3, .invokestatic 76, 3, 0, 1, 3, 1175), (6, .ifCond .eq 31, 3, 0, 0, 0, 0), (9, .iload_n 2, 1, 0, 0, 0, 0), (10, .iconst 0, 1, 0, 0, 0, 0), (11, .iconst 3, 1, 0, 0, 0, 0), (12, .invokestatic 76, 3, 0, 1, 3, 1175), (15, .ifCond .eq 22, 3, 0, 0, 0, 0), (18, .iload_n 3, 1, 0, 0, 0, 0), (19, .iconst 0, 1, 0, 0, 0, 0), (20, .iconst 3, 1, 0, 0, 0, 0), (21, .invokestatic 76, 3, 0, 1, 3, 1175), (24, .ifCond .eq 13, 3, 0, 0, 0, 0), (27, .iload 4, 2, 0, 0, 0, 0), (29, .iconst 0, 1, 0, 0, 0, 0), (30, .iconst 3, 1, 0, 0, 0, 0), (31, .invokestatic 76, 3, 0, 1, 3, 1175), (34, .ifCond .ne 9, 3, 0, 0, 0, 0), (37, .aload_n 0, 1, 0, 0, 0, 0), (38, .iconst 1, 1, 0, 0, 0, 0), (39, .invokevirtual 242, 3, 1, 11, 1, 1181), (42, .ireturn, 1, 0, 0, 0, 0), (43, .aload_n 0, 1, 0, 0, 0, 0), (44, .iload_n 1, 1, 0, 0, 0, 0), (45, .putfield 228, 3, 1081, 11, 20, 0), (48, .aload_n 0, 1, 0, 0, 0, 0), (49, .getfield 49, 3, 1085, 11, 24, 0), (52, .iconst 0, 1, 0, 0, 0, 0), (53, .iload_n 2, 1, 0, 0, 0, 0), (54, .iastore, 1, 0, 0, 0, 0), (55, .aload_n 0, 1, 0, 0, 0, 0), (56, .getfield 49, 3, 1085, 11, 24, 0), (59, .iconst 1, 1, 0, 0, 0, 0), (60, .iload_n 3, 1, 0, 0, 0, 0), (61, .iastore, 1, 0, 0, 0, 0), (62, .aload_n 0, 1, 0, 0, 0, 0), (63, .getfield 49, 3, 1085, 11, 24, 0), (66, .iconst 2, 1, 0, 0, 0, 0), (67, .iload 4, 2, 0, 0, 0, 0), (69, .iastore, 1, 0, 0, 0, 0), (70, .aload_n 0, 1, 0, 0, 0, 0), (71, .iconst 4, 1, 0, 0, 0, 0), (72, .invokevirtual 245, 3, 2, 11, 1, 1185), (75, .aload_n 0, 1, 0, 0, 0, 0), (76, .iconst 1, 1, 0, 0, 0, 0), (77, .iload_n 1, 1, 0, 0, 0, 0), (78, .ishl, 1, 0, 0, 0, 0), (79, .invokevirtual 249, 3, 3, 11, 1, 1206), (82, .ireturn, 1, 0, 0, 0, 0)]
set_option maxRecDepth 100000 in
set_option maxHeartbeats 4000000 in
theorem c_X11_folds_ (l : Launch) (G : vg_G) (hp : vg_Hp G) : vg_Ct l G vg_sh r_X11_folds_ := by
  refine vg_meth hp vg_sh_ok r_X11_folds_ k_X11_folds_ rfl (fun h => by cases h) o_X11_folds_ [r_X11_isFrom, r_X11_refuse, r_X11_begins, r_X11_gives] false (by decide +kernel) (by decide +kernel) ⟨_, _, rfl, rfl⟩ (List.forall_mem_cons.mpr ⟨⟨c_X11_isFrom l G hp, Nat.le_of_ble_eq_true rfl, Nat.le_of_ble_eq_true rfl⟩, List.forall_mem_cons.mpr ⟨⟨c_X11_refuse l G hp, Nat.le_of_ble_eq_true rfl, Nat.le_of_ble_eq_true rfl⟩, List.forall_mem_cons.mpr ⟨⟨c_X11_begins l G hp, Nat.le_of_ble_eq_true rfl, Nat.le_of_ble_eq_true rfl⟩, List.forall_mem_cons.mpr ⟨⟨c_X11_gives l G hp, Nat.le_of_ble_eq_true rfl, Nat.le_of_ble_eq_true rfl⟩, fun _ h => absurd h List.not_mem_nil⟩⟩⟩⟩) (fun h => by cases h) 600 ?_
  intro as s0 hpre
  obtain ⟨r, a1, a2, a3, a4, rfl, hr, i0⟩ := hpre
  simp only [List.mem_cons, List.not_mem_nil, or_false] at hr
  rcases hr with rfl
  ·
    have z0 : (Int32.ofInt 0).toInt = 0 := by decide
    have z1 : (Int32.ofInt 1).toInt = 1 := by decide
    have z2 : (Int32.ofInt 2).toInt = 2 := by decide
    have z3 : (Int32.ofInt 3).toInt = 3 := by decide
    have z4 : (Int32.ofInt 4).toInt = 4 := by decide
    refine ⟨Nat.le_of_ble_eq_true rfl, [], ?_, fun _ h => absurd h List.not_mem_nil⟩
    ·
      refine And.intro (Nat.le_of_ble_eq_true rfl) (And.intro ⟨a1, (Int32.ofInt 0), (Int32.ofInt 3), rfl, trivial⟩ ?_)
      intro v1 s3 h2
      have h2 : s3 = s0 ∧ ((v1.toInt = 1 ∧ (Int32.ofInt 0).toInt ≤ a1.toInt ∧ a1.toInt ≤ (Int32.ofInt 3).toInt) ∨ (v1.toInt = 0 ∧ (a1.toInt < (Int32.ofInt 0).toInt ∨ (Int32.ofInt 3).toInt < a1.toInt))) := h2
      have q6 := h2.1.symm
      subst q6
      have q7 := h2.2
      refine And.intro (fun c8 => ?_) (fun c8 => ?_)
      · have c8 : v1.toInt = 0 := c8
        refine And.intro (Nat.le_of_ble_eq_true rfl) (And.intro ⟨55, (Int32.ofInt 1), rfl, by decide, i0⟩ ?_)
        intro v9 s11 h10
        have h10 : Iv s11 ∧ Kp s0 s11 ∧ vk s11 = ((vk s0).1, (vk s0).2) ∧ (v9.toInt = -1) := h10
        have i12 := h10.1
        have k13 : K_X11_folds_ s0 s11 := Kx.tr Kx.rf ((h10.2.1).px)
        have u14 : vk s11 = ((vk s0).1, (vk s0).2) := h10.2.2.1.trans rfl
        have q15 := h10.2.2.2
        show Iv s11 ∧ K_X11_folds_ s0 s11 ∧ vk s11 = ((vk s0).1, if (0 ≤ a1.toInt ∧ a1.toInt ≤ 3 ∧ 0 ≤ a2.toInt ∧ a2.toInt ≤ 3 ∧ 0 ≤ a3.toInt ∧ a3.toInt ≤ 3 ∧ 0 ≤ a4.toInt ∧ a4.toInt ≤ 3) then kb2 (Int64.ofNat 0) 4 3 (vk s0).2 else (vk s0).2) ∧ (((0 ≤ a1.toInt ∧ a1.toInt ≤ 3 ∧ 0 ≤ a2.toInt ∧ a2.toInt ≤ 3 ∧ 0 ≤ a3.toInt ∧ a3.toInt ≤ 3 ∧ 0 ≤ a4.toInt ∧ a4.toInt ≤ 3) ∧ v9.toInt = (vg_af a1).toInt ∧ (s11.1 55 20).toInt = a1.toInt ∧ (s11.1 60 0).toInt = a2.toInt ∧ (s11.1 60 1).toInt = a3.toInt ∧ (s11.1 60 2).toInt = a4.toInt) ∨ (¬ (0 ≤ a1.toInt ∧ a1.toInt ≤ 3 ∧ 0 ≤ a2.toInt ∧ a2.toInt ≤ 3 ∧ 0 ≤ a3.toInt ∧ a3.toInt ≤ 3 ∧ 0 ≤ a4.toInt ∧ a4.toInt ≤ 3) ∧ v9.toInt = -1 ∧ (s11.1 55 20).toInt = (s0.1 55 20).toInt ∧ (s11.1 60 0).toInt = (s0.1 60 0).toInt ∧ (s11.1 60 1).toInt = (s0.1 60 1).toInt ∧ (s11.1 60 2).toInt = (s0.1 60 2).toInt))
        exact ⟨i12, k13, (by first | exact vk_rr u14 (by rw [if_pos (by omega), z4]) | exact vk_rr u14 (by rw [if_neg (by omega)])), (by first | exact Or.inl ⟨by omega, by omega, by rw [none], congrArg Int32.toInt None.1, congrArg Int32.toInt None.2.1, congrArg Int32.toInt None.2.2⟩ | exact Or.inr ⟨by omega, by omega, congrArg Int32.toInt (h10.2.1.1 55 20 rfl), congrArg Int32.toInt (h10.2.1.1 60 0 rfl), congrArg Int32.toInt (h10.2.1.1 60 1 rfl), congrArg Int32.toInt (h10.2.1.1 60 2 rfl)⟩)⟩
      · have c8 : ¬ (v1.toInt = 0) := c8
        refine And.intro (Nat.le_of_ble_eq_true rfl) (And.intro ⟨a2, (Int32.ofInt 0), (Int32.ofInt 3), rfl, trivial⟩ ?_)
        intro v16 s18 h17
        have h17 : s18 = s0 ∧ ((v16.toInt = 1 ∧ (Int32.ofInt 0).toInt ≤ a2.toInt ∧ a2.toInt ≤ (Int32.ofInt 3).toInt) ∨ (v16.toInt = 0 ∧ (a2.toInt < (Int32.ofInt 0).toInt ∨ (Int32.ofInt 3).toInt < a2.toInt))) := h17
        have q21 := h17.1.symm
        subst q21
        have q22 := h17.2
        refine And.intro (fun c23 => ?_) (fun c23 => ?_)
        · have c23 : v16.toInt = 0 := c23
          refine And.intro (Nat.le_of_ble_eq_true rfl) (And.intro ⟨55, (Int32.ofInt 1), rfl, by decide, i0⟩ ?_)
          intro v24 s26 h25
          have h25 : Iv s26 ∧ Kp s0 s26 ∧ vk s26 = ((vk s0).1, (vk s0).2) ∧ (v24.toInt = -1) := h25
          have i27 := h25.1
          have k28 : K_X11_folds_ s0 s26 := Kx.tr Kx.rf ((h25.2.1).px)
          have u29 : vk s26 = ((vk s0).1, (vk s0).2) := h25.2.2.1.trans rfl
          have q30 := h25.2.2.2
          show Iv s26 ∧ K_X11_folds_ s0 s26 ∧ vk s26 = ((vk s0).1, if (0 ≤ a1.toInt ∧ a1.toInt ≤ 3 ∧ 0 ≤ a2.toInt ∧ a2.toInt ≤ 3 ∧ 0 ≤ a3.toInt ∧ a3.toInt ≤ 3 ∧ 0 ≤ a4.toInt ∧ a4.toInt ≤ 3) then kb2 (Int64.ofNat 0) 4 3 (vk s0).2 else (vk s0).2) ∧ (((0 ≤ a1.toInt ∧ a1.toInt ≤ 3 ∧ 0 ≤ a2.toInt ∧ a2.toInt ≤ 3 ∧ 0 ≤ a3.toInt ∧ a3.toInt ≤ 3 ∧ 0 ≤ a4.toInt ∧ a4.toInt ≤ 3) ∧ v24.toInt = (vg_af a1).toInt ∧ (s26.1 55 20).toInt = a1.toInt ∧ (s26.1 60 0).toInt = a2.toInt ∧ (s26.1 60 1).toInt = a3.toInt ∧ (s26.1 60 2).toInt = a4.toInt) ∨ (¬ (0 ≤ a1.toInt ∧ a1.toInt ≤ 3 ∧ 0 ≤ a2.toInt ∧ a2.toInt ≤ 3 ∧ 0 ≤ a3.toInt ∧ a3.toInt ≤ 3 ∧ 0 ≤ a4.toInt ∧ a4.toInt ≤ 3) ∧ v24.toInt = -1 ∧ (s26.1 55 20).toInt = (s0.1 55 20).toInt ∧ (s26.1 60 0).toInt = (s0.1 60 0).toInt ∧ (s26.1 60 1).toInt = (s0.1 60 1).toInt ∧ (s26.1 60 2).toInt = (s0.1 60 2).toInt))
          exact ⟨i27, k28, (by first | exact vk_rr u29 (by rw [if_pos (by omega), z4]) | exact vk_rr u29 (by rw [if_neg (by omega)])), (by first | exact Or.inl ⟨by omega, by omega, by rw [none], congrArg Int32.toInt None.1, congrArg Int32.toInt None.2.1, congrArg Int32.toInt None.2.2⟩ | exact Or.inr ⟨by omega, by omega, congrArg Int32.toInt (h25.2.1.1 55 20 rfl), congrArg Int32.toInt (h25.2.1.1 60 0 rfl), congrArg Int32.toInt (h25.2.1.1 60 1 rfl), congrArg Int32.toInt (h25.2.1.1 60 2 rfl)⟩)⟩
        · have c23 : ¬ (v16.toInt = 0) := c23
          refine And.intro (Nat.le_of_ble_eq_true rfl) (And.intro ⟨a3, (Int32.ofInt 0), (Int32.ofInt 3), rfl, trivial⟩ ?_)
          intro v31 s33 h32
          have h32 : s33 = s0 ∧ ((v31.toInt = 1 ∧ (Int32.ofInt 0).toInt ≤ a3.toInt ∧ a3.toInt ≤ (Int32.ofInt 3).toInt) ∨ (v31.toInt = 0 ∧ (a3.toInt < (Int32.ofInt 0).toInt ∨ (Int32.ofInt 3).toInt < a3.toInt))) := h32
          have q36 := h32.1.symm
          subst q36
          have q37 := h32.2
          refine And.intro (fun c38 => ?_) (fun c38 => ?_)
          · have c38 : v31.toInt = 0 := c38
            refine And.intro (Nat.le_of_ble_eq_true rfl) (And.intro ⟨55, (Int32.ofInt 1), rfl, by decide, i0⟩ ?_)
            intro v39 s41 h40
            have h40 : Iv s41 ∧ Kp s0 s41 ∧ vk s41 = ((vk s0).1, (vk s0).2) ∧ (v39.toInt = -1) := h40
            have i42 := h40.1
            have k43 : K_X11_folds_ s0 s41 := Kx.tr Kx.rf ((h40.2.1).px)
            have u44 : vk s41 = ((vk s0).1, (vk s0).2) := h40.2.2.1.trans rfl
            have q45 := h40.2.2.2
            show Iv s41 ∧ K_X11_folds_ s0 s41 ∧ vk s41 = ((vk s0).1, if (0 ≤ a1.toInt ∧ a1.toInt ≤ 3 ∧ 0 ≤ a2.toInt ∧ a2.toInt ≤ 3 ∧ 0 ≤ a3.toInt ∧ a3.toInt ≤ 3 ∧ 0 ≤ a4.toInt ∧ a4.toInt ≤ 3) then kb2 (Int64.ofNat 0) 4 3 (vk s0).2 else (vk s0).2) ∧ (((0 ≤ a1.toInt ∧ a1.toInt ≤ 3 ∧ 0 ≤ a2.toInt ∧ a2.toInt ≤ 3 ∧ 0 ≤ a3.toInt ∧ a3.toInt ≤ 3 ∧ 0 ≤ a4.toInt ∧ a4.toInt ≤ 3) ∧ v39.toInt = (vg_af a1).toInt ∧ (s41.1 55 20).toInt = a1.toInt ∧ (s41.1 60 0).toInt = a2.toInt ∧ (s41.1 60 1).toInt = a3.toInt ∧ (s41.1 60 2).toInt = a4.toInt) ∨ (¬ (0 ≤ a1.toInt ∧ a1.toInt ≤ 3 ∧ 0 ≤ a2.toInt ∧ a2.toInt ≤ 3 ∧ 0 ≤ a3.toInt ∧ a3.toInt ≤ 3 ∧ 0 ≤ a4.toInt ∧ a4.toInt ≤ 3) ∧ v39.toInt = -1 ∧ (s41.1 55 20).toInt = (s0.1 55 20).toInt ∧ (s41.1 60 0).toInt = (s0.1 60 0).toInt ∧ (s41.1 60 1).toInt = (s0.1 60 1).toInt ∧ (s41.1 60 2).toInt = (s0.1 60 2).toInt))
            exact ⟨i42, k43, (by first | exact vk_rr u44 (by rw [if_pos (by omega), z4]) | exact vk_rr u44 (by rw [if_neg (by omega)])), (by first | exact Or.inl ⟨by omega, by omega, by rw [none], congrArg Int32.toInt None.1, congrArg Int32.toInt None.2.1, congrArg Int32.toInt None.2.2⟩ | exact Or.inr ⟨by omega, by omega, congrArg Int32.toInt (h40.2.1.1 55 20 rfl), congrArg Int32.toInt (h40.2.1.1 60 0 rfl), congrArg Int32.toInt (h40.2.1.1 60 1 rfl), congrArg Int32.toInt (h40.2.1.1 60 2 rfl)⟩)⟩
          · have c38 : ¬ (v31.toInt = 0) := c38
            refine And.intro (Nat.le_of_ble_eq_true rfl) (And.intro ⟨a4, (Int32.ofInt 0), (Int32.ofInt 3), rfl, trivial⟩ ?_)
            intro v46 s48 h47
            have h47 : s48 = s0 ∧ ((v46.toInt = 1 ∧ (Int32.ofInt 0).toInt ≤ a4.toInt ∧ a4.toInt ≤ (Int32.ofInt 3).toInt) ∨ (v46.toInt = 0 ∧ (a4.toInt < (Int32.ofInt 0).toInt ∨ (Int32.ofInt 3).toInt < a4.toInt))) := h47
            have q51 := h47.1.symm
            subst q51
            have q52 := h47.2
            refine And.intro (fun c53 => ?_) (fun c53 => ?_)
            · have c53 : ¬ v46.toInt = 0 := c53
              intro s54 e55
              have i56 : Iv s54 := Iv.c1 (lo := 0) (hi := 3) i0 e55 rfl (by omega) (by omega)
              have k57 : K_X11_folds_ s0 s54 := Kx.u1 Kx.rf e55 rfl
              have u58 : vk s54 = ((vk s0).1, (vk s0).2) := vk_k1 rfl e55 rfl
              have g59 : s54.1 55 20 = a1 := by rw [e55]; exact vg_u1_self
              refine And.intro ⟨by omega, by omega⟩ ?_
              intro s60 e61
              have i62 : Iv s60 := Iv.a1 i56 e61 rfl
              have k63 : K_X11_folds_ s0 s60 := Kx.u1 k57 e61 rfl
              have u64 : vk s60 = ((vk s0).1, (vk s0).2) := vk_k1 u58 e61 rfl
              have g65 : s60.1 55 20 = a1 := by rw [e61, vg_u1_ne (a := 55) (k := 60) (by decide)]; exact g59
              refine And.intro ⟨by omega, by omega⟩ ?_
              intro s66 e67
              have i68 : Iv s66 := Iv.a1 i62 e67 rfl
              have k69 : K_X11_folds_ s0 s66 := Kx.u1 k63 e67 rfl
              have u70 : vk s66 = ((vk s0).1, (vk s0).2) := vk_k1 u64 e67 rfl
              have g71 : s66.1 55 20 = a1 := by rw [e67, vg_u1_ne (a := 55) (k := 60) (by decide)]; exact g65
              refine And.intro ⟨by omega, by omega⟩ ?_
              intro s72 e73
              have i74 : Iv s72 := Iv.a1 i68 e73 rfl
              have k75 : K_X11_folds_ s0 s72 := Kx.u1 k69 e73 rfl
              have u76 : vk s72 = ((vk s0).1, (vk s0).2) := vk_k1 u70 e73 rfl
              have g77 : s72.1 55 20 = a1 := by rw [e73, vg_u1_ne (a := 55) (k := 60) (by decide)]; exact g71
              have y78 : s72.1 60 0 = a2 ∧ s72.1 60 1 = a3 ∧ s72.1 60 2 = a4 := vg_ft3 e55 e61 e67 e73
              refine And.intro (Nat.le_of_ble_eq_true rfl) (And.intro ⟨55, (Int32.ofInt 4), rfl, by decide, i74, by omega⟩ ?_)
              intro s80 h79
              have h79 : Iv s80 ∧ Kp s72 s80 ∧ vk s80 = ((vk s72).1, kb2 (Int64.ofNat 0) (Int32.ofInt 4).toInt 3 (vk s72).2) ∧ (True) := h79
              have i81 := h79.1
              have k82 : K_X11_folds_ s0 s80 := Kx.tr k75 ((h79.2.1).px)
              have u83 : vk s80 = ((vk s0).1, (kb2 (Int64.ofNat 0) (Int32.ofInt 4).toInt 3 (vk s0).2)) := (by rw [h79.2.2.1, u76])
              have y84 : s80.1 60 0 = a2 ∧ s80.1 60 1 = a3 ∧ s80.1 60 2 = a4 := by rw [h79.2.1.1 60 0 rfl, h79.2.1.1 60 1 rfl, h79.2.1.1 60 2 rfl]; exact y78
              have g85 : s80.1 55 20 = a1 := by rw [h79.2.1.1 55 20 rfl]; exact g77
              intro v86 e87
              have y1 : v86.toInt = (vg_af a1).toInt := congrArg Int32.toInt (by assumption)
              refine And.intro (Nat.le_of_ble_eq_true rfl) (And.intro ⟨55, v86, rfl, by decide, i81⟩ ?_)
              intro v88 s90 h89
              have h89 : Iv s90 ∧ Kp s80 s90 ∧ vk s90 = ((vk s80).1, (vk s80).2) ∧ (v88 = v86 ∧ v88.toInt = v86.toInt) := h89
              have i91 := h89.1
              have k92 : K_X11_folds_ s0 s90 := Kx.tr k82 ((h89.2.1).px)
              have u93 : vk s90 = ((vk s0).1, (kb2 (Int64.ofNat 0) (Int32.ofInt 4).toInt 3 (vk s0).2)) := h89.2.2.1.trans u83
              have q94 := h89.2.2.2
              have y95 : s90.1 60 0 = a2 ∧ s90.1 60 1 = a3 ∧ s90.1 60 2 = a4 := by rw [h89.2.1.1 60 0 rfl, h89.2.1.1 60 1 rfl, h89.2.1.1 60 2 rfl]; exact y84
              have g96 : s90.1 55 20 = a1 := by rw [h89.2.1.1 55 20 rfl]; exact g85
              show Iv s90 ∧ K_X11_folds_ s0 s90 ∧ vk s90 = ((vk s0).1, if (0 ≤ a1.toInt ∧ a1.toInt ≤ 3 ∧ 0 ≤ a2.toInt ∧ a2.toInt ≤ 3 ∧ 0 ≤ a3.toInt ∧ a3.toInt ≤ 3 ∧ 0 ≤ a4.toInt ∧ a4.toInt ≤ 3) then kb2 (Int64.ofNat 0) 4 3 (vk s0).2 else (vk s0).2) ∧ (((0 ≤ a1.toInt ∧ a1.toInt ≤ 3 ∧ 0 ≤ a2.toInt ∧ a2.toInt ≤ 3 ∧ 0 ≤ a3.toInt ∧ a3.toInt ≤ 3 ∧ 0 ≤ a4.toInt ∧ a4.toInt ≤ 3) ∧ v88.toInt = (vg_af a1).toInt ∧ (s90.1 55 20).toInt = a1.toInt ∧ (s90.1 60 0).toInt = a2.toInt ∧ (s90.1 60 1).toInt = a3.toInt ∧ (s90.1 60 2).toInt = a4.toInt) ∨ (¬ (0 ≤ a1.toInt ∧ a1.toInt ≤ 3 ∧ 0 ≤ a2.toInt ∧ a2.toInt ≤ 3 ∧ 0 ≤ a3.toInt ∧ a3.toInt ≤ 3 ∧ 0 ≤ a4.toInt ∧ a4.toInt ≤ 3) ∧ v88.toInt = -1 ∧ (s90.1 55 20).toInt = (s0.1 55 20).toInt ∧ (s90.1 60 0).toInt = (s0.1 60 0).toInt ∧ (s90.1 60 1).toInt = (s0.1 60 1).toInt ∧ (s90.1 60 2).toInt = (s0.1 60 2).toInt))
              exact ⟨i91, k92, (by first | exact vk_rr u93 (by rw [if_pos (by omega), z4]) | exact vk_rr u93 (by rw [if_neg (by omega)])), (by first | exact Or.inl ⟨by omega, by omega, by rw [g96], congrArg Int32.toInt y95.1, congrArg Int32.toInt y95.2.1, congrArg Int32.toInt y95.2.2⟩ | exact Or.inr ⟨by omega, by omega, congrArg Int32.toInt (h89.2.1.1 55 20 rfl), congrArg Int32.toInt (h89.2.1.1 60 0 rfl), congrArg Int32.toInt (h89.2.1.1 60 1 rfl), congrArg Int32.toInt (h89.2.1.1 60 2 rfl)⟩)⟩
            · have c53 : ¬ (¬ v46.toInt = 0) := c53
              refine And.intro (Nat.le_of_ble_eq_true rfl) (And.intro ⟨55, (Int32.ofInt 1), rfl, by decide, i0⟩ ?_)
              intro v97 s99 h98
              have h98 : Iv s99 ∧ Kp s0 s99 ∧ vk s99 = ((vk s0).1, (vk s0).2) ∧ (v97.toInt = -1) := h98
              have i100 := h98.1
              have k101 : K_X11_folds_ s0 s99 := Kx.tr Kx.rf ((h98.2.1).px)
              have u102 : vk s99 = ((vk s0).1, (vk s0).2) := h98.2.2.1.trans rfl
              have q103 := h98.2.2.2
              show Iv s99 ∧ K_X11_folds_ s0 s99 ∧ vk s99 = ((vk s0).1, if (0 ≤ a1.toInt ∧ a1.toInt ≤ 3 ∧ 0 ≤ a2.toInt ∧ a2.toInt ≤ 3 ∧ 0 ≤ a3.toInt ∧ a3.toInt ≤ 3 ∧ 0 ≤ a4.toInt ∧ a4.toInt ≤ 3) then kb2 (Int64.ofNat 0) 4 3 (vk s0).2 else (vk s0).2) ∧ (((0 ≤ a1.toInt ∧ a1.toInt ≤ 3 ∧ 0 ≤ a2.toInt ∧ a2.toInt ≤ 3 ∧ 0 ≤ a3.toInt ∧ a3.toInt ≤ 3 ∧ 0 ≤ a4.toInt ∧ a4.toInt ≤ 3) ∧ v97.toInt = (vg_af a1).toInt ∧ (s99.1 55 20).toInt = a1.toInt ∧ (s99.1 60 0).toInt = a2.toInt ∧ (s99.1 60 1).toInt = a3.toInt ∧ (s99.1 60 2).toInt = a4.toInt) ∨ (¬ (0 ≤ a1.toInt ∧ a1.toInt ≤ 3 ∧ 0 ≤ a2.toInt ∧ a2.toInt ≤ 3 ∧ 0 ≤ a3.toInt ∧ a3.toInt ≤ 3 ∧ 0 ≤ a4.toInt ∧ a4.toInt ≤ 3) ∧ v97.toInt = -1 ∧ (s99.1 55 20).toInt = (s0.1 55 20).toInt ∧ (s99.1 60 0).toInt = (s0.1 60 0).toInt ∧ (s99.1 60 1).toInt = (s0.1 60 1).toInt ∧ (s99.1 60 2).toInt = (s0.1 60 2).toInt))
              exact ⟨i100, k101, (by first | exact vk_rr u102 (by rw [if_pos (by omega), z4]) | exact vk_rr u102 (by rw [if_neg (by omega)])), (by first | exact Or.inl ⟨by omega, by omega, by rw [none], congrArg Int32.toInt None.1, congrArg Int32.toInt None.2.1, congrArg Int32.toInt None.2.2⟩ | exact Or.inr ⟨by omega, by omega, congrArg Int32.toInt (h98.2.1.1 55 20 rfl), congrArg Int32.toInt (h98.2.1.1 60 0 rfl), congrArg Int32.toInt (h98.2.1.1 60 1 rfl), congrArg Int32.toInt (h98.2.1.1 60 2 rfl)⟩)⟩
