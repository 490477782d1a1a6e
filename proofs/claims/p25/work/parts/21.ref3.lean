def o_X11_clocks : List vg_I := [(0, .iload_n 1, 1, 0, 0, 0, 0), (1, .iconst 1, 1, 0, 0, 0, 0), (2, .sipush 400, 3, 0, 0, 0, 0), (5, .invokestatic 76, 3, 0, 1, 3, 1175), (8, .ifCond .ne 9, 3, 0, 0, 0, 0), (11, .aload_n 0, 1, 0, 0, 0, 0), (12, .iconst 1, 1, 0, 0, 0, 0), (13, .invokevirtual 242, 3, 1, 11, 1, 1181), (16, .ireturn, 1, 0, 0, 0, 0), (17, .iconst 0, 1, 0, 0, 0, 0), (18, .istore_n 2, 1, 0, 0, 0, 0), (19, .iload_n 2, 1, 0, 0, 0, 0), (20, .iload_n 1, 1, 0, 0, 0, 0), (21, .if_icmp .ge 13, 3, 0, 0, 0, 0), (24, .aload_n 0, 1, 0, 0, 0, 0), (25, .invokevirtual 264, 3, 2, 11, 0, 1272), (28, .iinc 2 1, 3, 0, 0, 0, 0), (31, .goto (-12), 3, 0, 0, 0, 0), (34, .aload_n 0, 1, 0, 0, 0, 0), (35, .aload_n 0, 1, 0, 0, 0, 0), (36, .iconst 0, 1, 0, 0, 0, 0), (37, .invokevirtual 110, 3, 3, 11, 1, 1202), (40, .invokevirtual 249, 3, 4, 11, 1, 1206), (43, .ireturn, 1, 0, 0, 0, 0)]
set_option maxRecDepth 100000 in
set_option maxHeartbeats 4000000 in
theorem c_X11_clocks (l : Launch) (G : vg_G) (hp : vg_Hp G) : vg_Ct l G vg_sh r_X11_clocks := by
  refine vg_meth hp vg_sh_ok r_X11_clocks k_X11_clocks rfl (fun h => by cases h) o_X11_clocks [r_X11_isFrom, r_X11_refuse, r_X11_goes, r_X11_get, r_X11_gives] false (by decide +kernel) (by decide +kernel) ⟨_, _, rfl, rfl⟩ (List.forall_mem_cons.mpr ⟨⟨c_X11_isFrom l G hp, Nat.le_of_ble_eq_true rfl, Nat.le_of_ble_eq_true rfl⟩, List.forall_mem_cons.mpr ⟨⟨c_X11_refuse l G hp, Nat.le_of_ble_eq_true rfl, Nat.le_of_ble_eq_true rfl⟩, List.forall_mem_cons.mpr ⟨⟨c_X11_goes l G hp, Nat.le_of_ble_eq_true rfl, Nat.le_of_ble_eq_true rfl⟩, List.forall_mem_cons.mpr ⟨⟨c_X11_get l G hp, Nat.le_of_ble_eq_true rfl, Nat.le_of_ble_eq_true rfl⟩, List.forall_mem_cons.mpr ⟨⟨c_X11_gives l G hp, Nat.le_of_ble_eq_true rfl, Nat.le_of_ble_eq_true rfl⟩, fun _ h => absurd h List.not_mem_nil⟩⟩⟩⟩⟩) (fun h => by cases h) 600 ?_
  intro as s0 hpre
  obtain ⟨r, a1, rfl, hr, i0, p0⟩ := hpre
  simp only [List.mem_cons, List.not_mem_nil, or_false] at hr
  rcases hr with rfl
  ·
    have z0 : (Int32.ofInt 0).toInt = 0 := by decide
    have z1 : (Int32.ofInt 1).toInt = 1 := by decide
    have z400 : (Int32.ofInt 400).toInt = 400 := by decide
    refine ⟨Nat.le_of_ble_eq_true rfl, [(19, [true, true, true], (fun L t => ∃ (x2 : Int32), L = [some (.ref 55), some (.int a1), some (.int x2)] ∧ (0 : Int) ≤ x2.toInt ∧ x2.toInt ≤ (400 : Int) ∧ (1 : Int) ≤ a1.toInt ∧ a1.toInt ≤ (400 : Int) ∧ ((t.2 56 0).toInt = (s0.2 56 0).toInt + x2.toInt ∧ x2.toInt ≤ a1.toInt) ∧ Iv t ∧ Kg s0 t ∧ vk t = ((vk s0).1, vr_it (s0.1 55 17) (s0.1 55 20).toInt x2.toNatClampNeg (vk s0).2)), (fun L _ => (0 + (400 - (vg_li L 2).toInt) * 1000000000000).toNat))], ?_, List.forall_mem_cons.mpr ⟨?_, fun _ h => absurd h List.not_mem_nil⟩⟩
    ·
      refine And.intro (Nat.le_of_ble_eq_true rfl) (And.intro ⟨a1, (Int32.ofInt 1), (Int32.ofInt 400), rfl, trivial⟩ ?_)
      intro v1 s3 h2
      have h2 : s3 = s0 ∧ ((v1.toInt = 1 ∧ (Int32.ofInt 1).toInt ≤ a1.toInt ∧ a1.toInt ≤ (Int32.ofInt 400).toInt) ∨ (v1.toInt = 0 ∧ (a1.toInt < (Int32.ofInt 1).toInt ∨ (Int32.ofInt 400).toInt < a1.toInt))) := h2
      have q6 := h2.1.symm
      subst q6
      have q7 := h2.2
      refine And.intro (fun c8 => ?_) (fun c8 => ?_)
      · have c8 : ¬ v1.toInt = 0 := c8
        exact ⟨rfl, ⟨(Int32.ofInt 0), rfl, (by omega), (by omega), (by omega), (by omega), (by omega), i0, Kx.rf, (by first | exact vk_rr rfl (vr_it_s y0 y2 (by omega) (by omega)) | exact vk_rr rfl rfl)⟩, trivial⟩
      · have c8 : ¬ (¬ v1.toInt = 0) := c8
        refine And.intro (Nat.le_of_ble_eq_true rfl) (And.intro ⟨55, (Int32.ofInt 1), rfl, by decide, i0⟩ ?_)
        intro v9 s11 h10
        have h10 : Iv s11 ∧ Kp s0 s11 ∧ vk s11 = ((vk s0).1, (vk s0).2) ∧ (v9.toInt = -1) := h10
        have i12 := h10.1
        have k13 : Kg s0 s11 := Kx.tr Kx.rf ((h10.2.1).pg)
        have u14 : vk s11 = ((vk s0).1, (vk s0).2) := h10.2.2.1.trans rfl
        have q15 := h10.2.2.2
        show Iv s11 ∧ Kg s0 s11 ∧ vk s11 = ((vk s0).1, if (1 ≤ a1.toInt ∧ a1.toInt ≤ 400) then vr_it (s0.1 55 17) (s0.1 55 20).toInt a1.toNatClampNeg (vk s0).2 else (vk s0).2) ∧ (((1 ≤ a1.toInt ∧ a1.toInt ≤ 400) ∧ v9.toInt = (s0.2 56 0).toInt + a1.toInt ∧ (s11.2 56 0).toInt = (s0.2 56 0).toInt + a1.toInt) ∨ (¬ (1 ≤ a1.toInt ∧ a1.toInt ≤ 400) ∧ v9.toInt = -1 ∧ (s11.2 56 0).toInt = (s0.2 56 0).toInt))
        exact ⟨i12, k13, (by first | exact vk_rr u14 (by rw [if_pos (by omega), vg_eqi (x := a1) (y := none) (by omega)]) | exact vk_rr u14 (by rw [if_neg (by omega)])), (by have h9 := congrArg Int64.toInt (h10.2.1.2 56 0 rfl); omega)⟩
    ·
      intro L s22 hL
      obtain ⟨w16, rfl, b17, b18, b19, b20, x21, i23, k24, u25⟩ := hL
      have y0 := k24.1 55 17 rfl
      have y2 := congrArg Int32.toInt (k24.1 55 20 rfl)
      refine And.intro (fun c26 => ?_) (fun c26 => ?_)
      · have c26 : a1.toInt ≤ w16.toInt := c26
        refine And.intro (Nat.le_of_ble_eq_true rfl) (And.intro ⟨55, (Int32.ofInt 0), rfl, by decide, i23, by omega⟩ ?_)
        intro v27 s29 h28
        have h28 : s29 = s22 ∧ (v27 = (s22.2 56 (Int32.ofInt 0).toNatClampNeg).toInt32) := h28
        have q32 := h28.1.symm
        subst q32
        have q33 := h28.2
        have y1 : v27.toInt = (s22.2 56 0).toInt := vg_l2i (x := s22.2 56 0) q33 (by omega) (by omega)
        refine And.intro (Nat.le_of_ble_eq_true rfl) (And.intro ⟨55, v27, rfl, by decide, i23⟩ ?_)
        intro v34 s36 h35
        have h35 : Iv s36 ∧ Kp s22 s36 ∧ vk s36 = ((vk s22).1, (vk s22).2) ∧ (v34 = v27 ∧ v34.toInt = v27.toInt) := h35
        have i37 := h35.1
        have k38 : Kg s0 s36 := Kx.tr k24 ((h35.2.1).pg)
        have u39 : vk s36 = ((vk s0).1, (vr_it (s0.1 55 17) (s0.1 55 20).toInt w16.toNatClampNeg (vk s0).2)) := h35.2.2.1.trans u25
        have q40 := h35.2.2.2
        show Iv s36 ∧ Kg s0 s36 ∧ vk s36 = ((vk s0).1, if (1 ≤ a1.toInt ∧ a1.toInt ≤ 400) then vr_it (s0.1 55 17) (s0.1 55 20).toInt a1.toNatClampNeg (vk s0).2 else (vk s0).2) ∧ (((1 ≤ a1.toInt ∧ a1.toInt ≤ 400) ∧ v34.toInt = (s0.2 56 0).toInt + a1.toInt ∧ (s36.2 56 0).toInt = (s0.2 56 0).toInt + a1.toInt) ∨ (¬ (1 ≤ a1.toInt ∧ a1.toInt ≤ 400) ∧ v34.toInt = -1 ∧ (s36.2 56 0).toInt = (s0.2 56 0).toInt))
        exact ⟨i37, k38, (by first | exact vk_rr u39 (by rw [if_pos (by omega), vg_eqi (x := a1) (y := w16) (by omega)]) | exact vk_rr u39 (by rw [if_neg (by omega)])), (by have h9 := congrArg Int64.toInt (h35.2.1.2 56 0 rfl); omega)⟩
      · have c26 : ¬ (a1.toInt ≤ w16.toInt) := c26
        refine And.intro (Nat.le_of_ble_eq_true rfl) (And.intro ⟨55, rfl, by decide, i23, by omega⟩ ?_)
        intro s42 h41
        have h41 : Iv s42 ∧ Kg s22 s42 ∧ vk s42 = ((vk s22).1, vr_step (s22.1 55 17) (s22.1 55 20).toInt (vk s22).2) ∧ ((s42.2 56 0).toInt = (s22.2 56 0).toInt + 1) := h41
        have i43 := h41.1
        have k44 : Kg s0 s42 := Kx.tr k24 (h41.2.1)
        have u45 : vk s42 = ((vk s0).1, (vr_step (s22.1 55 17) (s22.1 55 20).toInt (vr_it (s0.1 55 17) (s0.1 55 20).toInt w16.toNatClampNeg (vk s0).2))) := (by rw [h41.2.2.1, u25])
        have q46 := h41.2.2.2
        intro v47 e48
        have b49 := vg_add e48 (by omega) (by omega)
        exact ⟨rfl, ⟨v47, rfl, (by omega), (by omega), (by omega), (by omega), (by omega), i43, k44, (by first | exact vk_rr u45 (vr_it_s y0 y2 (by omega) (by omega)) | exact vk_rr u45 rfl)⟩, (by show (0 + (400 - v47.toInt) * 1000000000000).toNat < (0 + (400 - w16.toInt) * 1000000000000).toNat; omega)⟩
def o_X11_gap : List vg_I := [(0, .iload_n 1, 1, 0, 0, 0, 0), (1, .iconst 0, 1, 0, 0, 0, 0), (2, .iconst 2, 1, 0, 0, 0, 0), (3, .invokestatic 76, 3, 0, 1, 3, 1175), (6, .ifCond .eq 18, 3, 0, 0, 0, 0), (9, .iload_n 1, 1, 0, 0, 0, 0), (10, .iconst 2, 1, 0, 0, 0, 0), (11, .if_icmp .ne 20, 3, 0, 0, 0, 0), (14, .iload_n 2, 1, 0, 0, 0, 0), (15, .iconst 1, 1, 0, 0, 0, 0), (16, .bipush 48, 2, 0, 0, 0, 0), (18, .invokestatic 76, 3, 0, 1, 3, 1175), (21, .ifCond .ne 10, 3, 0, 0, 0, 0), (24, .aload_n 0, 1, 0, 0, 0, 0), (25, .iconst 1, 1, 0, 0, 0, 0), (26, .invokevirtual 242, 3, 1, 11, 1, 1181), (29, .i2l, 1, 0, 0, 0, 0), (30, .lreturn, 1, 0, 0, 0, 0), (31, .iload_n 1, 1, 0, 0, 0, 0), (32, .iconst 2, 1, 0, 0, 0, 0), (33, .if_icmp .ge 37, 3, 0, 0, 0, 0), (36, .aload_n 0, 1, 0, 0, 0, 0), (37, .iload_n 1, 1, 0, 0, 0, 0), (38, .ifCond .ne 21, 3, 0, 0, 0, 0), (41, .aload_n 0, 1, 0, 0, 0, 0), (42, .getfield 7, 3, 1061, 11, 0, 0), (45, .bipush 7, 2, 0, 0, 0, 0), (47, .laload, 1, 0, 0, 0, 0), (48, .aload_n 0, 1, 0, 0, 0, 0), (49, .getfield 7, 3, 1061, 11, 0, 0), (52, .bipush 6, 2, 0, 0, 0, 0), (54, .laload, 1, 0, 0, 0, 0), (55, .lsub, 1, 0, 0, 0, 0), (56, .goto 10, 3, 0, 0, 0, 0), (59, .aload_n 0, 1, 0, 0, 0, 0), (60, .getfield 7, 3, 1061, 11, 0, 0), (63, .bipush 9, 2, 0, 0, 0, 0), (65, .laload, 1, 0, 0, 0, 0), (66, .invokevirtual 270, 3, 2, 11, 1, 1393), (69, .lreturn, 1, 0, 0, 0, 0), (70, .aload_n 0, 1, 0, 0, 0, 0), (71, .iconst 0, 1, 0, 0, 0, 0), (72, .invokevirtual 267, 3, 3, 11, 1, 1381), (75, .aload_n 0, 1, 0, 0, 0, 0), (76, .iconst 1, 1, 0, 0, 0, 0), (77, .invokevirtual 267, 3, 3, 11, 1, 1381), (80, .invokestatic 113, 3, 4, 1, 2, 1280), (83, .istore_n 3, 1, 0, 0, 0, 0), (84, .iload_n 2, 1, 0, 0, 0, 0), (85, .iload_n 3, 1, 0, 0, 0, 0), (86, .if_icmp .le 10, 3, 0, 0, 0, 0), (89, .aload_n 0, 1, 0, 0, 0, 0), (90, .iconst 5, 1, 0, 0, 0, 0), (91, .invokevirtual 242, 3, 1, 11, 1, 1181), (94, .i2l, 1, 0, 0, 0, 0), (95, .lreturn, 1, 0, 0, 0, 0), (96, .lconst 0, 1, 0, 0, 0, 0), (97, .lstore 4, 2, 0, 0, 0, 0), (99, .iconst 0, 1, 0, 0, 0, 0), (100, .istore 6, 2, 0, 0, 0, 0), (102, .iload 6, 2, 0, 0, 0, 0), (104, .iload_n 2, 1, 0, 0, 0, 0), (105, .iadd, 1, 0, 0, 0, 0), (106, .iload_n 3, 1, 0, 0, 0, 0), (107, .if_icmp .gt 89, 3, 0, 0, 0, 0), (110, .lconst 0, 1, 0, 0, 0, 0), (111, .lstore 7, 2, 0, 0, 0, 0), (113, .iload 6, 2, 0, 0, 0, 0), (115, .istore 9, 2, 0, 0, 0, 0), (117, .iload 9, 2, 0, 0, 0, 0), (119, .iload 6, 2, 0, 0, 0, 0), (121, .iload_n 2, 1, 0, 0, 0, 0), (122, .iadd, 1, 0, 0, 0, 0), (123, .if_icmp .ge 55, 3, 0, 0, 0, 0), (126, .lload 7, 2, 0, 0, 0, 0), (128, .aload_n 0, 1, 0, 0, 0, 0), (129, .getfield 23, 3, 1070, 11, 9, 0), (132, .i2l, 1, 0, 0, 0, 0), (133, .ldc2_w 167, 3, 1336, 0, 0, 2), (136, .aload_n 0, 1, 0, 0, 0, 0), (137, .iconst 1, 1, 0, 0, 0, 0), (138, .iload 9, 2, 0, 0, 0, 0), (140, .invokevirtual 231, 3, 5, 11, 2, 1353), (143, .lmul, 1, 0, 0, 0, 0), (144, .lconst 1, 1, 0, 0, 0, 0), (145, .ladd, 1, 0, 0, 0, 0), (146, .aload_n 0, 1, 0, 0, 0, 0), (147, .getfield 26, 3, 1071, 11, 10, 0), (150, .i2l, 1, 0, 0, 0, 0), (151, .lsub, 1, 0, 0, 0, 0), (152, .iconst 2, 1, 0, 0, 0, 0), (153, .aload_n 0, 1, 0, 0, 0, 0), (154, .invokevirtual 151, 3, 6, 11, 0, 1322), (157, .imul, 1, 0, 0, 0, 0), (158, .i2l, 1, 0, 0, 0, 0), (159, .lsub, 1, 0, 0, 0, 0), (160, .lmul, 1, 0, 0, 0, 0), (161, .aload_n 0, 1, 0, 0, 0, 0), (162, .iconst 0, 1, 0, 0, 0, 0), (163, .iload 9, 2, 0, 0, 0, 0), (165, .invokevirtual 231, 3, 5, 11, 2, 1353), (168, .lsub, 1, 0, 0, 0, 0), (169, .ladd, 1, 0, 0, 0, 0), (170, .lstore 7, 2, 0, 0, 0, 0), (172, .iinc 9 1, 3, 0, 0, 0, 0), (175, .goto (-58), 3, 0, 0, 0, 0), (178, .lload 4, 2, 0, 0, 0, 0), (180, .lload 7, 2, 0, 0, 0, 0), (182, .invokestatic 216, 3, 7, 1, 1, 1326), (185, .invokestatic 176, 3, 8, 1, 2, 1327), (188, .lstore 4, 2, 0, 0, 0, 0), (190, .iinc 6 1, 3, 0, 0, 0, 0), (193, .goto (-91), 3, 0, 0, 0, 0), (196, .aload_n 0, 1, 0, 0, 0, 0), (197, .lload 4, 2, 0, 0, 0, 0), (199, .invokevirtual 270, 3, 2, 11, 1, 1393), (202, .lreturn, 1, 0, 0, 0, 0)]
set_option maxRecDepth 100000 in
set_option maxHeartbeats 4000000 in
theorem c_X11_gap (l : Launch) (G : vg_G) (hp : vg_Hp G) : vg_Ct l G vg_sh r_X11_gap := by
  refine vg_meth hp vg_sh_ok r_X11_gap k_X11_gap rfl (fun h => by cases h) o_X11_gap [r_X11_isFrom, r_X11_refuse, r_X11_givesLong, r_X11_many, r_J9_min_7cf53, r_X11_latestOf, r_X11_besides, r_J9_abs_067f4, r_J9_max_f86c9] false (by decide +kernel) (by decide +kernel) ⟨_, _, rfl, rfl⟩ (List.forall_mem_cons.mpr ⟨⟨c_X11_isFrom l G hp, Nat.le_of_ble_eq_true rfl, Nat.le_of_ble_eq_true rfl⟩, List.forall_mem_cons.mpr ⟨⟨c_X11_refuse l G hp, Nat.le_of_ble_eq_true rfl, Nat.le_of_ble_eq_true rfl⟩, List.forall_mem_cons.mpr ⟨⟨c_X11_givesLong l G hp, Nat.le_of_ble_eq_true rfl, Nat.le_of_ble_eq_true rfl⟩, List.forall_mem_cons.mpr ⟨⟨c_X11_many l G hp, Nat.le_of_ble_eq_true rfl, Nat.le_of_ble_eq_true rfl⟩, List.forall_mem_cons.mpr ⟨⟨c_J9_min_7cf53 l G hp, Nat.le_of_ble_eq_true rfl, Nat.le_of_ble_eq_true rfl⟩, List.forall_mem_cons.mpr ⟨⟨c_X11_latestOf l G hp, Nat.le_of_ble_eq_true rfl, Nat.le_of_ble_eq_true rfl⟩, List.forall_mem_cons.mpr ⟨⟨c_X11_besides l G hp, Nat.le_of_ble_eq_true rfl, Nat.le_of_ble_eq_true rfl⟩, List.forall_mem_cons.mpr ⟨⟨c_J9_abs_067f4 l G hp, Nat.le_of_ble_eq_true rfl, Nat.le_of_ble_eq_true rfl⟩, List.forall_mem_cons.mpr ⟨⟨c_J9_max_f86c9 l G hp, Nat.le_of_ble_eq_true rfl, Nat.le_of_ble_eq_true rfl⟩, fun _ h => absurd h List.not_mem_nil⟩⟩⟩⟩⟩⟩⟩⟩⟩) (fun h => by cases h) 600 ?_
  intro as s0 hpre
  obtain ⟨r, a1, a2, rfl, hr, i0⟩ := hpre
  simp only [List.mem_cons, List.not_mem_nil, or_false] at hr
  rcases hr with rfl
  ·
    have z0 : (Int32.ofInt 0).toInt = 0 := by decide
    have z1 : (Int32.ofInt 1).toInt = 1 := by decide
    have z2 : (Int32.ofInt 2).toInt = 2 := by decide
    have z5 : (Int32.ofInt 5).toInt = 5 := by decide
    have z6 : (Int32.ofInt 6).toInt = 6 := by decide
    have z7 : (Int32.ofInt 7).toInt = 7 := by decide
    have z9 : (Int32.ofInt 9).toInt = 9 := by decide
    have z48 : (Int32.ofInt 48).toInt = 48 := by decide
    refine ⟨Nat.le_of_ble_eq_true rfl, [(102, [true, false, true, true, true, false, true, false, false, false], (fun L t => ∃ (x3 : Int32) (x4 : Int64) (x6 : Int32), L = [some (.ref 55), none, some (.int a2), some (.int x3), some (.long x4), none, some (.int x6), none, none, none] ∧ x3.toInt ≤ (48 : Int) ∧ (0 : Int) ≤ x6.toInt ∧ x6.toInt ≤ (49 : Int) ∧ (1 : Int) ≤ a2.toInt ∧ a2.toInt ≤ (48 : Int) ∧ Iv t ∧ Kp s0 t ∧ vk t = ((vk s0).1, (vk s0).2)), (fun L _ => ((49 - (vg_li L 6).toInt) * 1000).toNat)), (117, [true, false, true, true, true, false, true, true, false, true], (fun L t => ∃ (x3 : Int32) (x4 : Int64) (x6 : Int32) (x7 : Int64) (x9 : Int32), L = [some (.ref 55), none, some (.int a2), some (.int x3), some (.long x4), none, some (.int x6), some (.long x7), none, some (.int x9)] ∧ x3.toInt ≤ (48 : Int) ∧ (0 : Int) ≤ x6.toInt ∧ x6.toInt ≤ (47 : Int) ∧ (0 : Int) ≤ x9.toInt ∧ x9.toInt ≤ (100 : Int) ∧ (1 : Int) ≤ a2.toInt ∧ a2.toInt ≤ (48 : Int) ∧ (x6.toInt + a2.toInt ≤ 48) ∧ Iv t ∧ Kp s0 t ∧ vk t = ((vk s0).1, (vk s0).2)), (fun L _ => ((49 - (vg_li L 6).toInt) * 1000 - 1000 + (100 - (vg_li L 9).toInt) + 1).toNat))], ?_, List.forall_mem_cons.mpr ⟨?_, List.forall_mem_cons.mpr ⟨?_, fun _ h => absurd h List.not_mem_nil⟩⟩⟩
    ·
      refine And.intro (Nat.le_of_ble_eq_true rfl) (And.intro ⟨a1, (Int32.ofInt 0), (Int32.ofInt 2), rfl, trivial⟩ ?_)
      intro v1 s3 h2
      have h2 : s3 = s0 ∧ ((v1.toInt = 1 ∧ (Int32.ofInt 0).toInt ≤ a1.toInt ∧ a1.toInt ≤ (Int32.ofInt 2).toInt) ∨ (v1.toInt = 0 ∧ (a1.toInt < (Int32.ofInt 0).toInt ∨ (Int32.ofInt 2).toInt < a1.toInt))) := h2
      have q6 := h2.1.symm
      subst q6
      have q7 := h2.2
      refine And.intro (fun c8 => ?_) (fun c8 => ?_)
      · have c8 : v1.toInt = 0 := c8
        refine And.intro (Nat.le_of_ble_eq_true rfl) (And.intro ⟨55, (Int32.ofInt 1), rfl, by decide, i0⟩ ?_)
        intro v9 s11 h10
        have h10 : Iv s11 ∧ Kp s0 s11 ∧ vk s11 = ((vk s0).1, (vk s0).2) ∧ (v9.toInt = -1) := h10
        have i12 := h10.1
        have k13 : Kp s0 s11 := Kx.tr Kx.rf (h10.2.1)
        have u14 : vk s11 = ((vk s0).1, (vk s0).2) := h10.2.2.1.trans rfl
        have q15 := h10.2.2.2
        intro v16 e17
        show Iv s11 ∧ Kp s0 s11 ∧ vk s11 = ((vk s0).1, (vk s0).2) ∧ (True)
        exact ⟨i12, k13, u14, (trivial)⟩
      · have c8 : ¬ (v1.toInt = 0) := c8
        refine And.intro (fun c18 => ?_) (fun c18 => ?_)
        · have c18 : ¬ a1.toInt = (Int32.ofInt 2).toInt := c18
          refine And.intro (fun c19 => ?_) (fun c19 => ?_)
          · have c19 : (Int32.ofInt 2).toInt ≤ a1.toInt := c19
            exfalso
            omega
          · have c19 : ¬ ((Int32.ofInt 2).toInt ≤ a1.toInt) := c19
            refine And.intro (fun c20 => ?_) (fun c20 => ?_)
            · have c20 : ¬ a1.toInt = 0 := c20
              refine And.intro ⟨by omega, by omega⟩ ?_
              intro v21 e22
              refine And.intro (Nat.le_of_ble_eq_true rfl) (And.intro ⟨55, v21, rfl, by decide, i0⟩ ?_)
              intro v23 s25 h24
              have h24 : Iv s25 ∧ Kp s0 s25 ∧ vk s25 = ((vk s0).1, (vk s0).2) ∧ (v23 = v21) := h24
              have i26 := h24.1
              have k27 : Kp s0 s25 := Kx.tr Kx.rf (h24.2.1)
              have u28 : vk s25 = ((vk s0).1, (vk s0).2) := h24.2.2.1.trans rfl
              have q29 := h24.2.2.2
              show Iv s25 ∧ Kp s0 s25 ∧ vk s25 = ((vk s0).1, (vk s0).2) ∧ (True)
              exact ⟨i26, k27, u28, (trivial)⟩
            · have c20 : ¬ (¬ a1.toInt = 0) := c20
              refine And.intro ⟨by omega, by omega⟩ ?_
              intro v30 e31
              refine And.intro ⟨by omega, by omega⟩ ?_
              intro v32 e33
              intro v34 e35
              refine And.intro (Nat.le_of_ble_eq_true rfl) (And.intro ⟨55, v34, rfl, by decide, i0⟩ ?_)
              intro v36 s38 h37
              have h37 : Iv s38 ∧ Kp s0 s38 ∧ vk s38 = ((vk s0).1, (vk s0).2) ∧ (v36 = v34) := h37
              have i39 := h37.1
              have k40 : Kp s0 s38 := Kx.tr Kx.rf (h37.2.1)
              have u41 : vk s38 = ((vk s0).1, (vk s0).2) := h37.2.2.1.trans rfl
              have q42 := h37.2.2.2
              show Iv s38 ∧ Kp s0 s38 ∧ vk s38 = ((vk s0).1, (vk s0).2) ∧ (True)
              exact ⟨i39, k40, u41, (trivial)⟩
        · have c18 : ¬ (¬ a1.toInt = (Int32.ofInt 2).toInt) := c18
          refine And.intro (Nat.le_of_ble_eq_true rfl) (And.intro ⟨a2, (Int32.ofInt 1), (Int32.ofInt 48), rfl, trivial⟩ ?_)
          intro v43 s45 h44
          have h44 : s45 = s0 ∧ ((v43.toInt = 1 ∧ (Int32.ofInt 1).toInt ≤ a2.toInt ∧ a2.toInt ≤ (Int32.ofInt 48).toInt) ∨ (v43.toInt = 0 ∧ (a2.toInt < (Int32.ofInt 1).toInt ∨ (Int32.ofInt 48).toInt < a2.toInt))) := h44
          have q48 := h44.1.symm
          subst q48
          have q49 := h44.2
          refine And.intro (fun c50 => ?_) (fun c50 => ?_)
          · have c50 : ¬ v43.toInt = 0 := c50
            refine And.intro (fun c51 => ?_) (fun c51 => ?_)
            · have c51 : (Int32.ofInt 2).toInt ≤ a1.toInt := c51
              refine And.intro (Nat.le_of_ble_eq_true rfl) (And.intro ⟨55, (Int32.ofInt 0), rfl, by decide, i0, by omega⟩ ?_)
              intro v52 s54 h53
              have h53 : s54 = s0 ∧ (v52.toInt ≤ 48) := h53
              have q57 := h53.1.symm
              subst q57
              have q58 := h53.2
              refine And.intro (Nat.le_of_ble_eq_true rfl) (And.intro ⟨55, (Int32.ofInt 1), rfl, by decide, i0, by omega⟩ ?_)
              intro v59 s61 h60
              have h60 : s61 = s0 ∧ (v59.toInt ≤ 48) := h60
              have q64 := h60.1.symm
              subst q64
              have q65 := h60.2
              refine And.intro (Nat.le_of_ble_eq_true rfl) (And.intro ⟨v52, v59, rfl, trivial⟩ ?_)
              intro v66 s68 h67
              have h67 : s68 = s0 ∧ (v66.toInt ≤ v52.toInt ∧ v66.toInt ≤ v59.toInt ∧ (v66.toInt = v52.toInt ∨ v66.toInt = v59.toInt)) := h67
              have q71 := h67.1.symm
              subst q71
              have q72 := h67.2
              refine And.intro (fun c73 => ?_) (fun c73 => ?_)
              · have c73 : a2.toInt ≤ v66.toInt := c73
                exact ⟨rfl, ⟨v66, (Int64.ofNat 0), (Int32.ofInt 0), rfl, (by omega), (by omega), (by omega), (by omega), (by omega), i0, Kx.rf, rfl⟩, trivial⟩
              · have c73 : ¬ (a2.toInt ≤ v66.toInt) := c73
                refine And.intro (Nat.le_of_ble_eq_true rfl) (And.intro ⟨55, (Int32.ofInt 5), rfl, by decide, i0⟩ ?_)
                intro v74 s76 h75
                have h75 : Iv s76 ∧ Kp s0 s76 ∧ vk s76 = ((vk s0).1, (vk s0).2) ∧ (v74.toInt = -1) := h75
                have i77 := h75.1
                have k78 : Kp s0 s76 := Kx.tr Kx.rf (h75.2.1)
                have u79 : vk s76 = ((vk s0).1, (vk s0).2) := h75.2.2.1.trans rfl
                have q80 := h75.2.2.2
                intro v81 e82
                show Iv s76 ∧ Kp s0 s76 ∧ vk s76 = ((vk s0).1, (vk s0).2) ∧ (True)
                exact ⟨i77, k78, u79, (trivial)⟩
            · have c51 : ¬ ((Int32.ofInt 2).toInt ≤ a1.toInt) := c51
              exfalso
              omega
          · have c50 : ¬ (¬ v43.toInt = 0) := c50
            refine And.intro (Nat.le_of_ble_eq_true rfl) (And.intro ⟨55, (Int32.ofInt 1), rfl, by decide, i0⟩ ?_)
            intro v83 s85 h84
            have h84 : Iv s85 ∧ Kp s0 s85 ∧ vk s85 = ((vk s0).1, (vk s0).2) ∧ (v83.toInt = -1) := h84
            have i86 := h84.1
            have k87 : Kp s0 s85 := Kx.tr Kx.rf (h84.2.1)
            have u88 : vk s85 = ((vk s0).1, (vk s0).2) := h84.2.2.1.trans rfl
            have q89 := h84.2.2.2
            intro v90 e91
            show Iv s85 ∧ Kp s0 s85 ∧ vk s85 = ((vk s0).1, (vk s0).2) ∧ (True)
            exact ⟨i86, k87, u88, (trivial)⟩
    ·
      intro L s100 hL
      obtain ⟨w92, w94, w95, rfl, b93, b96, b97, b98, b99, i101, k102, u103⟩ := hL
      intro v104 e105
      have b106 := vg_add e105 (by omega) (by omega)
      refine And.intro (fun c107 => ?_) (fun c107 => ?_)
      · have c107 : w92.toInt < v104.toInt := c107
        refine And.intro (Nat.le_of_ble_eq_true rfl) (And.intro ⟨55, w94, rfl, by decide, i101⟩ ?_)
        intro v108 s110 h109
        have h109 : Iv s110 ∧ Kp s100 s110 ∧ vk s110 = ((vk s100).1, (vk s100).2) ∧ (v108 = w94) := h109
        have i111 := h109.1
        have k112 : Kp s0 s110 := Kx.tr k102 (h109.2.1)
        have u113 : vk s110 = ((vk s0).1, (vk s0).2) := h109.2.2.1.trans u103
        have q114 := h109.2.2.2
        show Iv s110 ∧ Kp s0 s110 ∧ vk s110 = ((vk s0).1, (vk s0).2) ∧ (True)
        exact ⟨i111, k112, u113, (trivial)⟩
      · have c107 : ¬ (w92.toInt < v104.toInt) := c107
        exact ⟨rfl, ⟨w92, w94, w95, (Int64.ofNat 0), w95, rfl, (by omega), (by omega), (by omega), (by omega), (by omega), (by omega), (by omega), (by omega), i101, k102, u103⟩, (by show ((49 - w95.toInt) * 1000 - 1000 + (100 - w95.toInt) + 1).toNat < ((49 - w95.toInt) * 1000).toNat; omega)⟩
    ·
      intro L s128 hL
      obtain ⟨w115, w117, w118, w121, w122, rfl, b116, b119, b120, b123, b124, b125, b126, x127, i129, k130, u131⟩ := hL
      intro v132 e133
      have b134 := vg_add e133 (by omega) (by omega)
      refine And.intro (fun c135 => ?_) (fun c135 => ?_)
      · have c135 : v132.toInt ≤ w122.toInt := c135
        refine And.intro (Nat.le_of_ble_eq_true rfl) (And.intro ⟨w121, rfl, trivial⟩ ?_)
        intro v136 s138 h137
        have h137 : s138 = s128 ∧ (True) := h137
        have q141 := h137.1.symm
        subst q141
        refine And.intro (Nat.le_of_ble_eq_true rfl) (And.intro ⟨w117, v136, rfl, trivial⟩ ?_)
        intro v142 s144 h143
        have h143 : s144 = s128 ∧ (True) := h143
        have q147 := h143.1.symm
        subst q147
        intro v148 e149
        have b150 := vg_add e149 (by omega) (by omega)
        exact ⟨rfl, ⟨w115, v142, v148, rfl, (by omega), (by omega), (by omega), (by omega), (by omega), i129, k130, u131⟩, (by show ((49 - v148.toInt) * 1000).toNat < ((49 - w118.toInt) * 1000 - 1000 + (100 - w122.toInt) + 1).toNat; omega)⟩
      · have c135 : ¬ (v132.toInt ≤ w122.toInt) := c135
        intro v151 e152
        have g153 : s128.1 55 9 = v151 := by rw [e152]
        intro v154 e155
        refine And.intro (Nat.le_of_ble_eq_true rfl) (And.intro ⟨55, (Int32.ofInt 1), w122, rfl, by decide, i129, by omega⟩ ?_)
        intro v156 s158 h157
        have h157 : s158 = s128 ∧ (True) := h157
        have q161 := h157.1.symm
        subst q161
        intro v162 e163
        intro v164 e165
        intro v166 e167
        have g168 : s128.1 55 10 = v166 := by rw [e167]
        have b169 : (2 : Int) ≤ v166.toInt ∧ v166.toInt ≤ 17 := by rw [e167]; exact Iv_55_10 i129
        intro v170 e171
        have b172 := vg_i2l e171
        intro v173 e174
        refine And.intro (Nat.le_of_ble_eq_true rfl) (And.intro ⟨55, rfl, by decide, i129⟩ ?_)
        intro v175 s177 h176
        have h176 : s177 = s128 ∧ (True) := h176
        have q180 := h176.1.symm
        subst q180
        intro v181 e182
        intro v183 e184
        intro v185 e186
        intro v187 e188
        refine And.intro (Nat.le_of_ble_eq_true rfl) (And.intro ⟨55, (Int32.ofInt 0), w122, rfl, by decide, i129, by omega⟩ ?_)
        intro v189 s191 h190
        have h190 : s191 = s128 ∧ (True) := h190
        have q194 := h190.1.symm
        subst q194
        intro v195 e196
        intro v197 e198
        intro v199 e200
        have b201 := vg_add e200 (by omega) (by omega)
        exact ⟨rfl, ⟨w115, w117, w118, v197, v199, rfl, (by omega), (by omega), (by omega), (by omega), (by omega), (by omega), (by omega), (by omega), i129, k130, u131⟩, (by show ((49 - w118.toInt) * 1000 - 1000 + (100 - v199.toInt) + 1).toNat < ((49 - w118.toInt) * 1000 - 1000 + (100 - w122.toInt) + 1).toNat; omega)⟩
def o_X11_range : List vg_I := [(0, .iload_n 2, 1, 0, 0, 0, 0), (1, .iconst 0, 1, 0, 0, 0, 0), (2, .iconst 2, 1, 0, 0, 0, 0), (3, .invokestatic 76, 3, 0, 1, 3, 1175), (6, .ifCond .ne 10, 3, 0, 0, 0, 0), (9, .aload_n 0, 1, 0, 0, 0, 0), (10, .iconst 1, 1, 0, 0, 0, 0), (11, .invokevirtual 242, 3, 1, 11, 1, 1181), (14, .i2l, 1, 0, 0, 0, 0), (15, .lreturn, 1, 0, 0, 0, 0), (16, .iload_n 1, 1, 0, 0, 0, 0), (17, .invokestatic 261, 3, 2, 1, 1, 1265), (20, .ifCond .ne 10, 3, 0, 0, 0, 0), (23, .aload_n 0, 1, 0, 0, 0, 0), (24, .iconst 2, 1, 0, 0, 0, 0), (25, .invokevirtual 242, 3, 1, 11, 1, 1181), (28, .i2l, 1, 0, 0, 0, 0), (29, .lreturn, 1, 0, 0, 0, 0), (30, .aload_n 0, 1, 0, 0, 0, 0), (31, .iload_n 1, 1, 0, 0, 0, 0), (32, .invokevirtual 267, 3, 3, 11, 1, 1381), (35, .ifCond .ne 10, 3, 0, 0, 0, 0), (38, .aload_n 0, 1, 0, 0, 0, 0), (39, .iconst 5, 1, 0, 0, 0, 0), (40, .invokevirtual 242, 3, 1, 11, 1, 1181), (43, .i2l, 1, 0, 0, 0, 0), (44, .lreturn, 1, 0, 0, 0, 0), (45, .aload_n 0, 1, 0, 0, 0, 0), (46, .iload_n 1, 1, 0, 0, 0, 0), (47, .iconst 0, 1, 0, 0, 0, 0), (48, .invokevirtual 231, 3, 4, 11, 2, 1353), (51, .lstore_n 3, 1, 0, 0, 0, 0), (52, .lload_n 3, 1, 0, 0, 0, 0), (53, .lstore 5, 2, 0, 0, 0, 0), (55, .lconst 0, 1, 0, 0, 0, 0), (56, .lstore 7, 2, 0, 0, 0, 0), (58, .iconst 0, 1, 0, 0, 0, 0), (59, .istore 9, 2, 0, 0, 0, 0), (61, .iload 9, 2, 0, 0, 0, 0), (63, .aload_n 0, 1, 0, 0, 0, 0), (64, .iload_n 1, 1, 0, 0, 0, 0), (65, .invokevirtual 267, 3, 3, 11, 1, 1381), (68, .if_icmp .ge 47, 3, 0, 0, 0, 0), (71, .lload_n 3, 1, 0, 0, 0, 0), (72, .aload_n 0, 1, 0, 0, 0, 0), (73, .iload_n 1, 1, 0, 0, 0, 0), (74, .iload 9, 2, 0, 0, 0, 0), (76, .invokevirtual 231, 3, 4, 11, 2, 1353), (79, .invokestatic 173, 3, 5, 1, 2, 1342), (82, .lstore_n 3, 1, 0, 0, 0, 0), (83, .lload 5, 2, 0, 0, 0, 0), (85, .aload_n 0, 1, 0, 0, 0, 0), (86, .iload_n 1, 1, 0, 0, 0, 0), (87, .iload 9, 2, 0, 0, 0, 0), (89, .invokevirtual 231, 3, 4, 11, 2, 1353), (92, .invokestatic 176, 3, 6, 1, 2, 1327), (95, .lstore 5, 2, 0, 0, 0, 0), (97, .lload 7, 2, 0, 0, 0, 0), (99, .aload_n 0, 1, 0, 0, 0, 0), (100, .iload_n 1, 1, 0, 0, 0, 0), (101, .iload 9, 2, 0, 0, 0, 0), (103, .invokevirtual 231, 3, 4, 11, 2, 1353), (106, .ladd, 1, 0, 0, 0, 0), (107, .lstore 7, 2, 0, 0, 0, 0), (109, .iinc 9 1, 3, 0, 0, 0, 0), (112, .goto (-51), 3, 0, 0, 0, 0), (115, .aload_n 0, 1, 0, 0, 0, 0), (116, .iload_n 2, 1, 0, 0, 0, 0), (117, .ifCond .ne 7, 3, 0, 0, 0, 0), (120, .lload_n 3, 1, 0, 0, 0, 0), (121, .goto 15, 3, 0, 0, 0, 0), (124, .iload_n 2, 1, 0, 0, 0, 0), (125, .iconst 1, 1, 0, 0, 0, 0), (126, .if_icmp .ne 8, 3, 0, 0, 0, 0), (129, .lload 5, 2, 0, 0, 0, 0), (131, .goto 5, 3, 0, 0, 0, 0), (134, .lload 7, 2, 0, 0, 0, 0), (136, .invokevirtual 270, 3, 7, 11, 1, 1393), (139, .lreturn, 1, 0, 0, 0, 0)]
set_option maxRecDepth 100000 in
set_option maxHeartbeats 4000000 in
theorem c_X11_range (l : Launch) (G : vg_G) (hp : vg_Hp G) : vg_Ct l G vg_sh r_X11_range := by
  refine vg_meth hp vg_sh_ok r_X11_range k_X11_range rfl (fun h => by cases h) o_X11_range [r_X11_isFrom, r_X11_refuse, r_X11_isStage, r_X11_many, r_X11_latestOf, r_J9_min_f86c9, r_J9_max_f86c9, r_X11_givesLong] false (by decide +kernel) (by decide +kernel) ⟨_, _, rfl, rfl⟩ (List.forall_mem_cons.mpr ⟨⟨c_X11_isFrom l G hp, Nat.le_of_ble_eq_true rfl, Nat.le_of_ble_eq_true rfl⟩, List.forall_mem_cons.mpr ⟨⟨c_X11_refuse l G hp, Nat.le_of_ble_eq_true rfl, Nat.le_of_ble_eq_true rfl⟩, List.forall_mem_cons.mpr ⟨⟨c_X11_isStage l G hp, Nat.le_of_ble_eq_true rfl, Nat.le_of_ble_eq_true rfl⟩, List.forall_mem_cons.mpr ⟨⟨c_X11_many l G hp, Nat.le_of_ble_eq_true rfl, Nat.le_of_ble_eq_true rfl⟩, List.forall_mem_cons.mpr ⟨⟨c_X11_latestOf l G hp, Nat.le_of_ble_eq_true rfl, Nat.le_of_ble_eq_true rfl⟩, List.forall_mem_cons.mpr ⟨⟨c_J9_min_f86c9 l G hp, Nat.le_of_ble_eq_true rfl, Nat.le_of_ble_eq_true rfl⟩, List.forall_mem_cons.mpr ⟨⟨c_J9_max_f86c9 l G hp, Nat.le_of_ble_eq_true rfl, Nat.le_of_ble_eq_true rfl⟩, List.forall_mem_cons.mpr ⟨⟨c_X11_givesLong l G hp, Nat.le_of_ble_eq_true rfl, Nat.le_of_ble_eq_true rfl⟩, fun _ h => absurd h List.not_mem_nil⟩⟩⟩⟩⟩⟩⟩⟩) (fun h => by cases h) 600 ?_
  intro as s0 hpre
  obtain ⟨r, a1, a2, rfl, hr, i0⟩ := hpre
  simp only [List.mem_cons, List.not_mem_nil, or_false] at hr
  rcases hr with rfl
  ·
    have z0 : (Int32.ofInt 0).toInt = 0 := by decide
    have z1 : (Int32.ofInt 1).toInt = 1 := by decide
    have z2 : (Int32.ofInt 2).toInt = 2 := by decide
    have z5 : (Int32.ofInt 5).toInt = 5 := by decide
    refine ⟨Nat.le_of_ble_eq_true rfl, [(61, [true, true, true, true, false, true, false, true, false, true], (fun L t => ∃ (x3 : Int64) (x5 : Int64) (x7 : Int64) (x9 : Int32), L = [some (.ref 55), some (.int a1), some (.int a2), some (.long x3), none, some (.long x5), none, some (.long x7), none, some (.int x9)] ∧ (0 : Int) ≤ x9.toInt ∧ x9.toInt ≤ (48 : Int) ∧ (0 : Int) ≤ a1.toInt ∧ a1.toInt ≤ (6 : Int) ∧ (0 : Int) ≤ a2.toInt ∧ a2.toInt ≤ (2 : Int) ∧ Iv t ∧ Kp s0 t ∧ vk t = ((vk s0).1, (vk s0).2)), (fun L _ => (0 + (48 - (vg_li L 9).toInt) * 1000000000000).toNat))], ?_, List.forall_mem_cons.mpr ⟨?_, fun _ h => absurd h List.not_mem_nil⟩⟩
    ·
      refine And.intro (Nat.le_of_ble_eq_true rfl) (And.intro ⟨a2, (Int32.ofInt 0), (Int32.ofInt 2), rfl, trivial⟩ ?_)
      intro v1 s3 h2
      have h2 : s3 = s0 ∧ ((v1.toInt = 1 ∧ (Int32.ofInt 0).toInt ≤ a2.toInt ∧ a2.toInt ≤ (Int32.ofInt 2).toInt) ∨ (v1.toInt = 0 ∧ (a2.toInt < (Int32.ofInt 0).toInt ∨ (Int32.ofInt 2).toInt < a2.toInt))) := h2
      have q6 := h2.1.symm
      subst q6
      have q7 := h2.2
      refine And.intro (fun c8 => ?_) (fun c8 => ?_)
      · have c8 : ¬ v1.toInt = 0 := c8
        refine And.intro (Nat.le_of_ble_eq_true rfl) (And.intro ⟨a1, rfl, trivial⟩ ?_)
        intro v9 s11 h10
        have h10 : s11 = s0 ∧ ((v9.toInt = 1 ∧ 0 ≤ a1.toInt ∧ a1.toInt ≤ 6) ∨ (v9.toInt = 0 ∧ (a1.toInt < 0 ∨ 6 < a1.toInt))) := h10
        have q14 := h10.1.symm
        subst q14
        have q15 := h10.2
        refine And.intro (fun c16 => ?_) (fun c16 => ?_)
        · have c16 : ¬ v9.toInt = 0 := c16
          refine And.intro (Nat.le_of_ble_eq_true rfl) (And.intro ⟨55, a1, rfl, by decide, i0, by omega⟩ ?_)
          intro v17 s19 h18
          have h18 : s19 = s0 ∧ (v17.toInt ≤ 48) := h18
          have q22 := h18.1.symm
          subst q22
          have q23 := h18.2
          refine And.intro (fun c24 => ?_) (fun c24 => ?_)
          · have c24 : ¬ v17.toInt = 0 := c24
            refine And.intro (Nat.le_of_ble_eq_true rfl) (And.intro ⟨55, a1, (Int32.ofInt 0), rfl, by decide, i0, by omega⟩ ?_)
            intro v25 s27 h26
            have h26 : s27 = s0 ∧ (True) := h26
            have q30 := h26.1.symm
            subst q30
            exact ⟨rfl, ⟨v25, v25, (Int64.ofNat 0), (Int32.ofInt 0), rfl, (by omega), (by omega), (by omega), (by omega), (by omega), (by omega), i0, Kx.rf, rfl⟩, trivial⟩
          · have c24 : ¬ (¬ v17.toInt = 0) := c24
            refine And.intro (Nat.le_of_ble_eq_true rfl) (And.intro ⟨55, (Int32.ofInt 5), rfl, by decide, i0⟩ ?_)
            intro v31 s33 h32
            have h32 : Iv s33 ∧ Kp s0 s33 ∧ vk s33 = ((vk s0).1, (vk s0).2) ∧ (v31.toInt = -1) := h32
            have i34 := h32.1
            have k35 : Kp s0 s33 := Kx.tr Kx.rf (h32.2.1)
            have u36 : vk s33 = ((vk s0).1, (vk s0).2) := h32.2.2.1.trans rfl
            have q37 := h32.2.2.2
            intro v38 e39
            show Iv s33 ∧ Kp s0 s33 ∧ vk s33 = ((vk s0).1, (vk s0).2) ∧ (True)
            exact ⟨i34, k35, u36, (trivial)⟩
        · have c16 : ¬ (¬ v9.toInt = 0) := c16
          refine And.intro (Nat.le_of_ble_eq_true rfl) (And.intro ⟨55, (Int32.ofInt 2), rfl, by decide, i0⟩ ?_)
          intro v40 s42 h41
          have h41 : Iv s42 ∧ Kp s0 s42 ∧ vk s42 = ((vk s0).1, (vk s0).2) ∧ (v40.toInt = -1) := h41
          have i43 := h41.1
          have k44 : Kp s0 s42 := Kx.tr Kx.rf (h41.2.1)
          have u45 : vk s42 = ((vk s0).1, (vk s0).2) := h41.2.2.1.trans rfl
          have q46 := h41.2.2.2
          intro v47 e48
          show Iv s42 ∧ Kp s0 s42 ∧ vk s42 = ((vk s0).1, (vk s0).2) ∧ (True)
          exact ⟨i43, k44, u45, (trivial)⟩
      · have c8 : ¬ (¬ v1.toInt = 0) := c8
        refine And.intro (Nat.le_of_ble_eq_true rfl) (And.intro ⟨55, (Int32.ofInt 1), rfl, by decide, i0⟩ ?_)
        intro v49 s51 h50
        have h50 : Iv s51 ∧ Kp s0 s51 ∧ vk s51 = ((vk s0).1, (vk s0).2) ∧ (v49.toInt = -1) := h50
        have i52 := h50.1
        have k53 : Kp s0 s51 := Kx.tr Kx.rf (h50.2.1)
        have u54 : vk s51 = ((vk s0).1, (vk s0).2) := h50.2.2.1.trans rfl
        have q55 := h50.2.2.2
        intro v56 e57
        show Iv s51 ∧ Kp s0 s51 ∧ vk s51 = ((vk s0).1, (vk s0).2) ∧ (True)
        exact ⟨i52, k53, u54, (trivial)⟩
    ·
      intro L s68 hL
      obtain ⟨w58, w59, w60, w61, rfl, b62, b63, b64, b65, b66, b67, i69, k70, u71⟩ := hL
      refine And.intro (Nat.le_of_ble_eq_true rfl) (And.intro ⟨55, a1, rfl, by decide, i69, by omega⟩ ?_)
      intro v72 s74 h73
      have h73 : s74 = s68 ∧ (v72.toInt ≤ 48) := h73
      have q77 := h73.1.symm
      subst q77
      have q78 := h73.2
      refine And.intro (fun c79 => ?_) (fun c79 => ?_)
      · have c79 : v72.toInt ≤ w61.toInt := c79
        refine And.intro (fun c80 => ?_) (fun c80 => ?_)
        · have c80 : ¬ a2.toInt = 0 := c80
          refine And.intro (fun c81 => ?_) (fun c81 => ?_)
          · have c81 : ¬ a2.toInt = (Int32.ofInt 1).toInt := c81
            refine And.intro (Nat.le_of_ble_eq_true rfl) (And.intro ⟨55, w60, rfl, by decide, i69⟩ ?_)
            intro v82 s84 h83
            have h83 : Iv s84 ∧ Kp s68 s84 ∧ vk s84 = ((vk s68).1, (vk s68).2) ∧ (v82 = w60) := h83
            have i85 := h83.1
            have k86 : Kp s0 s84 := Kx.tr k70 (h83.2.1)
            have u87 : vk s84 = ((vk s0).1, (vk s0).2) := h83.2.2.1.trans u71
            have q88 := h83.2.2.2
            show Iv s84 ∧ Kp s0 s84 ∧ vk s84 = ((vk s0).1, (vk s0).2) ∧ (True)
            exact ⟨i85, k86, u87, (trivial)⟩
          · have c81 : ¬ (¬ a2.toInt = (Int32.ofInt 1).toInt) := c81
            refine And.intro (Nat.le_of_ble_eq_true rfl) (And.intro ⟨55, w59, rfl, by decide, i69⟩ ?_)
            intro v89 s91 h90
            have h90 : Iv s91 ∧ Kp s68 s91 ∧ vk s91 = ((vk s68).1, (vk s68).2) ∧ (v89 = w59) := h90
            have i92 := h90.1
            have k93 : Kp s0 s91 := Kx.tr k70 (h90.2.1)
            have u94 : vk s91 = ((vk s0).1, (vk s0).2) := h90.2.2.1.trans u71
            have q95 := h90.2.2.2
            show Iv s91 ∧ Kp s0 s91 ∧ vk s91 = ((vk s0).1, (vk s0).2) ∧ (True)
            exact ⟨i92, k93, u94, (trivial)⟩
        · have c80 : ¬ (¬ a2.toInt = 0) := c80
          refine And.intro (Nat.le_of_ble_eq_true rfl) (And.intro ⟨55, w58, rfl, by decide, i69⟩ ?_)
          intro v96 s98 h97
          have h97 : Iv s98 ∧ Kp s68 s98 ∧ vk s98 = ((vk s68).1, (vk s68).2) ∧ (v96 = w58) := h97
          have i99 := h97.1
          have k100 : Kp s0 s98 := Kx.tr k70 (h97.2.1)
          have u101 : vk s98 = ((vk s0).1, (vk s0).2) := h97.2.2.1.trans u71
          have q102 := h97.2.2.2
          show Iv s98 ∧ Kp s0 s98 ∧ vk s98 = ((vk s0).1, (vk s0).2) ∧ (True)
          exact ⟨i99, k100, u101, (trivial)⟩
      · have c79 : ¬ (v72.toInt ≤ w61.toInt) := c79
        refine And.intro (Nat.le_of_ble_eq_true rfl) (And.intro ⟨55, a1, w61, rfl, by decide, i69, by omega⟩ ?_)
        intro v103 s105 h104
        have h104 : s105 = s68 ∧ (True) := h104
        have q108 := h104.1.symm
        subst q108
        refine And.intro (Nat.le_of_ble_eq_true rfl) (And.intro ⟨w58, v103, rfl, trivial⟩ ?_)
        intro v109 s111 h110
        have h110 : s111 = s68 ∧ (True) := h110
        have q114 := h110.1.symm
        subst q114
        refine And.intro (Nat.le_of_ble_eq_true rfl) (And.intro ⟨55, a1, w61, rfl, by decide, i69, by omega⟩ ?_)
        intro v115 s117 h116
        have h116 : s117 = s68 ∧ (True) := h116
        have q120 := h116.1.symm
        subst q120
        refine And.intro (Nat.le_of_ble_eq_true rfl) (And.intro ⟨w59, v115, rfl, trivial⟩ ?_)
        intro v121 s123 h122
        have h122 : s123 = s68 ∧ (True) := h122
        have q126 := h122.1.symm
        subst q126
        refine And.intro (Nat.le_of_ble_eq_true rfl) (And.intro ⟨55, a1, w61, rfl, by decide, i69, by omega⟩ ?_)
        intro v127 s129 h128
        have h128 : s129 = s68 ∧ (True) := h128
        have q132 := h128.1.symm
        subst q132
        intro v133 e134
        intro v135 e136
        have b137 := vg_add e136 (by omega) (by omega)
        exact ⟨rfl, ⟨v109, v121, v133, v135, rfl, (by omega), (by omega), (by omega), (by omega), (by omega), (by omega), i69, k70, u71⟩, (by show (0 + (48 - v135.toInt) * 1000000000000).toNat < (0 + (48 - w61.toInt) * 1000000000000).toNat; omega)⟩
def o_X11_steady : List vg_I := [(0, .iload_n 2, 1, 0, 0, 0, 0), (1, .iconst 0, 1, 0, 0, 0, 0), (2, .sipush 30000, 3, 0, 0, 0, 0), (5, .invokestatic 76, 3, 0, 1, 3, 1175), (8, .ifCond .ne 9, 3, 0, 0, 0, 0), (11, .aload_n 0, 1, 0, 0, 0, 0), (12, .iconst 1, 1, 0, 0, 0, 0), (13, .invokevirtual 242, 3, 1, 11, 1, 1181), (16, .ireturn, 1, 0, 0, 0, 0), (17, .iload_n 1, 1, 0, 0, 0, 0), (18, .invokestatic 261, 3, 2, 1, 1, 1265), (21, .ifCond .ne 9, 3, 0, 0, 0, 0), (24, .aload_n 0, 1, 0, 0, 0, 0), (25, .iconst 2, 1, 0, 0, 0, 0), (26, .invokevirtual 242, 3, 1, 11, 1, 1181), (29, .ireturn, 1, 0, 0, 0, 0), (30, .aload_n 0, 1, 0, 0, 0, 0), (31, .iload_n 1, 1, 0, 0, 0, 0), (32, .invokevirtual 267, 3, 3, 11, 1, 1381), (35, .ifCond .ne 9, 3, 0, 0, 0, 0), (38, .aload_n 0, 1, 0, 0, 0, 0), (39, .iconst 5, 1, 0, 0, 0, 0), (40, .invokevirtual 242, 3, 1, 11, 1, 1181), (43, .ireturn, 1, 0, 0, 0, 0), (44, .iconst 0, 1, 0, 0, 0, 0), (45, .istore_n 3, 1, 0, 0, 0, 0), (46, .iload_n 3, 1, 0, 0, 0, 0), (47, .aload_n 0, 1, 0, 0, 0, 0), (48, .iload_n 1, 1, 0, 0, 0, 0), (49, .invokevirtual 267, 3, 3, 11, 1, 1381), (52, .if_icmp .ge 31, 3, 0, 0, 0, 0), (55, .aload_n 0, 1, 0, 0, 0, 0), (56, .iload_n 1, 1, 0, 0, 0, 0), (57, .iload_n 3, 1, 0, 0, 0, 0), (58, .invokevirtual 231, 3, 4, 11, 2, 1353), (61, .aload_n 0, 1, 0, 0, 0, 0), (62, .iload_n 1, 1, 0, 0, 0, 0), (63, .iconst 0, 1, 0, 0, 0, 0), (64, .invokevirtual 231, 3, 4, 11, 2, 1353), (67, .lsub, 1, 0, 0, 0, 0), (68, .invokestatic 216, 3, 5, 1, 1, 1326), (71, .iload_n 2, 1, 0, 0, 0, 0), (72, .i2l, 1, 0, 0, 0, 0), (73, .lcmp, 1, 0, 0, 0, 0), (74, .ifCond .gt 9, 3, 0, 0, 0, 0), (77, .iinc 3 1, 3, 0, 0, 0, 0), (80, .goto (-34), 3, 0, 0, 0, 0), (83, .aload_n 0, 1, 0, 0, 0, 0), (84, .iload_n 3, 1, 0, 0, 0, 0), (85, .invokevirtual 249, 3, 6, 11, 1, 1206), (88, .ireturn, 1, 0, 0, 0, 0)]
set_option maxRecDepth 100000 in
set_option maxHeartbeats 4000000 in
theorem c_X11_steady (l : Launch) (G : vg_G) (hp : vg_Hp G) : vg_Ct l G vg_sh r_X11_steady := by
  refine vg_meth hp vg_sh_ok r_X11_steady k_X11_steady rfl (fun h => by cases h) o_X11_steady [r_X11_isFrom, r_X11_refuse, r_X11_isStage, r_X11_many, r_X11_latestOf, r_J9_abs_067f4, r_X11_gives] false (by decide +kernel) (by decide +kernel) ⟨_, _, rfl, rfl⟩ (List.forall_mem_cons.mpr ⟨⟨c_X11_isFrom l G hp, Nat.le_of_ble_eq_true rfl, Nat.le_of_ble_eq_true rfl⟩, List.forall_mem_cons.mpr ⟨⟨c_X11_refuse l G hp, Nat.le_of_ble_eq_true rfl, Nat.le_of_ble_eq_true rfl⟩, List.forall_mem_cons.mpr ⟨⟨c_X11_isStage l G hp, Nat.le_of_ble_eq_true rfl, Nat.le_of_ble_eq_true rfl⟩, List.forall_mem_cons.mpr ⟨⟨c_X11_many l G hp, Nat.le_of_ble_eq_true rfl, Nat.le_of_ble_eq_true rfl⟩, List.forall_mem_cons.mpr ⟨⟨c_X11_latestOf l G hp, Nat.le_of_ble_eq_true rfl, Nat.le_of_ble_eq_true rfl⟩, List.forall_mem_cons.mpr ⟨⟨c_J9_abs_067f4 l G hp, Nat.le_of_ble_eq_true rfl, Nat.le_of_ble_eq_true rfl⟩, List.forall_mem_cons.mpr ⟨⟨c_X11_gives l G hp, Nat.le_of_ble_eq_true rfl, Nat.le_of_ble_eq_true rfl⟩, fun _ h => absurd h List.not_mem_nil⟩⟩⟩⟩⟩⟩⟩) (fun h => by cases h) 600 ?_
  intro as s0 hpre
  obtain ⟨r, a1, a2, rfl, hr, i0⟩ := hpre
  simp only [List.mem_cons, List.not_mem_nil, or_false] at hr
  rcases hr with rfl
  ·
    have z0 : (Int32.ofInt 0).toInt = 0 := by decide
    have z1 : (Int32.ofInt 1).toInt = 1 := by decide
    have z2 : (Int32.ofInt 2).toInt = 2 := by decide
    have z5 : (Int32.ofInt 5).toInt = 5 := by decide
    have z30000 : (Int32.ofInt 30000).toInt = 30000 := by decide
    refine ⟨Nat.le_of_ble_eq_true rfl, [(46, [true, true, true, true], (fun L t => ∃ (x3 : Int32), L = [some (.ref 55), some (.int a1), some (.int a2), some (.int x3)] ∧ (0 : Int) ≤ x3.toInt ∧ x3.toInt ≤ (48 : Int) ∧ (0 : Int) ≤ a1.toInt ∧ a1.toInt ≤ (6 : Int) ∧ (0 : Int) ≤ a2.toInt ∧ a2.toInt ≤ (30000 : Int) ∧ Iv t ∧ Kp s0 t ∧ vk t = ((vk s0).1, (vk s0).2)), (fun L _ => (0 + (48 - (vg_li L 3).toInt) * 1000000000000).toNat))], ?_, List.forall_mem_cons.mpr ⟨?_, fun _ h => absurd h List.not_mem_nil⟩⟩
    ·
      refine And.intro (Nat.le_of_ble_eq_true rfl) (And.intro ⟨a2, (Int32.ofInt 0), (Int32.ofInt 30000), rfl, trivial⟩ ?_)
      intro v1 s3 h2
      have h2 : s3 = s0 ∧ ((v1.toInt = 1 ∧ (Int32.ofInt 0).toInt ≤ a2.toInt ∧ a2.toInt ≤ (Int32.ofInt 30000).toInt) ∨ (v1.toInt = 0 ∧ (a2.toInt < (Int32.ofInt 0).toInt ∨ (Int32.ofInt 30000).toInt < a2.toInt))) := h2
      have q6 := h2.1.symm
      subst q6
      have q7 := h2.2
      refine And.intro (fun c8 => ?_) (fun c8 => ?_)
      · have c8 : ¬ v1.toInt = 0 := c8
        refine And.intro (Nat.le_of_ble_eq_true rfl) (And.intro ⟨a1, rfl, trivial⟩ ?_)
        intro v9 s11 h10
        have h10 : s11 = s0 ∧ ((v9.toInt = 1 ∧ 0 ≤ a1.toInt ∧ a1.toInt ≤ 6) ∨ (v9.toInt = 0 ∧ (a1.toInt < 0 ∨ 6 < a1.toInt))) := h10
        have q14 := h10.1.symm
        subst q14
        have q15 := h10.2
        refine And.intro (fun c16 => ?_) (fun c16 => ?_)
        · have c16 : ¬ v9.toInt = 0 := c16
          refine And.intro (Nat.le_of_ble_eq_true rfl) (And.intro ⟨55, a1, rfl, by decide, i0, by omega⟩ ?_)
          intro v17 s19 h18
          have h18 : s19 = s0 ∧ (v17.toInt ≤ 48) := h18
          have q22 := h18.1.symm
          subst q22
          have q23 := h18.2
          refine And.intro (fun c24 => ?_) (fun c24 => ?_)
          · have c24 : ¬ v17.toInt = 0 := c24
            exact ⟨rfl, ⟨(Int32.ofInt 0), rfl, (by omega), (by omega), (by omega), (by omega), (by omega), (by omega), i0, Kx.rf, rfl⟩, trivial⟩
          · have c24 : ¬ (¬ v17.toInt = 0) := c24
            refine And.intro (Nat.le_of_ble_eq_true rfl) (And.intro ⟨55, (Int32.ofInt 5), rfl, by decide, i0⟩ ?_)
            intro v25 s27 h26
            have h26 : Iv s27 ∧ Kp s0 s27 ∧ vk s27 = ((vk s0).1, (vk s0).2) ∧ (v25.toInt = -1) := h26
            have i28 := h26.1
            have k29 : Kp s0 s27 := Kx.tr Kx.rf (h26.2.1)
            have u30 : vk s27 = ((vk s0).1, (vk s0).2) := h26.2.2.1.trans rfl
            have q31 := h26.2.2.2
            show Iv s27 ∧ Kp s0 s27 ∧ vk s27 = ((vk s0).1, (vk s0).2) ∧ (True)
            exact ⟨i28, k29, u30, (trivial)⟩
        · have c16 : ¬ (¬ v9.toInt = 0) := c16
          refine And.intro (Nat.le_of_ble_eq_true rfl) (And.intro ⟨55, (Int32.ofInt 2), rfl, by decide, i0⟩ ?_)
          intro v32 s34 h33
          have h33 : Iv s34 ∧ Kp s0 s34 ∧ vk s34 = ((vk s0).1, (vk s0).2) ∧ (v32.toInt = -1) := h33
          have i35 := h33.1
          have k36 : Kp s0 s34 := Kx.tr Kx.rf (h33.2.1)
          have u37 : vk s34 = ((vk s0).1, (vk s0).2) := h33.2.2.1.trans rfl
          have q38 := h33.2.2.2
          show Iv s34 ∧ Kp s0 s34 ∧ vk s34 = ((vk s0).1, (vk s0).2) ∧ (True)
          exact ⟨i35, k36, u37, (trivial)⟩
      · have c8 : ¬ (¬ v1.toInt = 0) := c8
        refine And.intro (Nat.le_of_ble_eq_true rfl) (And.intro ⟨55, (Int32.ofInt 1), rfl, by decide, i0⟩ ?_)
        intro v39 s41 h40
        have h40 : Iv s41 ∧ Kp s0 s41 ∧ vk s41 = ((vk s0).1, (vk s0).2) ∧ (v39.toInt = -1) := h40
        have i42 := h40.1
        have k43 : Kp s0 s41 := Kx.tr Kx.rf (h40.2.1)
        have u44 : vk s41 = ((vk s0).1, (vk s0).2) := h40.2.2.1.trans rfl
        have q45 := h40.2.2.2
        show Iv s41 ∧ Kp s0 s41 ∧ vk s41 = ((vk s0).1, (vk s0).2) ∧ (True)
        exact ⟨i42, k43, u44, (trivial)⟩
    ·
      intro L s53 hL
      obtain ⟨w46, rfl, b47, b48, b49, b50, b51, b52, i54, k55, u56⟩ := hL
      refine And.intro (Nat.le_of_ble_eq_true rfl) (And.intro ⟨55, a1, rfl, by decide, i54, by omega⟩ ?_)
      intro v57 s59 h58
      have h58 : s59 = s53 ∧ (v57.toInt ≤ 48) := h58
      have q62 := h58.1.symm
      subst q62
      have q63 := h58.2
      refine And.intro (fun c64 => ?_) (fun c64 => ?_)
      · have c64 : v57.toInt ≤ w46.toInt := c64
        refine And.intro (Nat.le_of_ble_eq_true rfl) (And.intro ⟨55, w46, rfl, by decide, i54⟩ ?_)
        intro v65 s67 h66
        have h66 : Iv s67 ∧ Kp s53 s67 ∧ vk s67 = ((vk s53).1, (vk s53).2) ∧ (v65 = w46 ∧ v65.toInt = w46.toInt) := h66
        have i68 := h66.1
        have k69 : Kp s0 s67 := Kx.tr k55 (h66.2.1)
        have u70 : vk s67 = ((vk s0).1, (vk s0).2) := h66.2.2.1.trans u56
        have q71 := h66.2.2.2
        show Iv s67 ∧ Kp s0 s67 ∧ vk s67 = ((vk s0).1, (vk s0).2) ∧ (True)
        exact ⟨i68, k69, u70, (trivial)⟩
      · have c64 : ¬ (v57.toInt ≤ w46.toInt) := c64
        refine And.intro (Nat.le_of_ble_eq_true rfl) (And.intro ⟨55, a1, w46, rfl, by decide, i54, by omega⟩ ?_)
        intro v72 s74 h73
        have h73 : s74 = s53 ∧ (True) := h73
        have q77 := h73.1.symm
        subst q77
        refine And.intro (Nat.le_of_ble_eq_true rfl) (And.intro ⟨55, a1, (Int32.ofInt 0), rfl, by decide, i54, by omega⟩ ?_)
        intro v78 s80 h79
        have h79 : s80 = s53 ∧ (True) := h79
        have q83 := h79.1.symm
        subst q83
        intro v84 e85
        refine And.intro (Nat.le_of_ble_eq_true rfl) (And.intro ⟨v84, rfl, trivial⟩ ?_)
        intro v86 s88 h87
        have h87 : s88 = s53 ∧ (True) := h87
        have q91 := h87.1.symm
        subst q91
        intro v92 e93
        have b94 := vg_i2l e93
        intro v95 e96
        refine And.intro (fun c97 => ?_) (fun c97 => ?_)
        · have c97 : 0 < v95.toInt := c97
          refine And.intro (Nat.le_of_ble_eq_true rfl) (And.intro ⟨55, w46, rfl, by decide, i54⟩ ?_)
          intro v98 s100 h99
          have h99 : Iv s100 ∧ Kp s53 s100 ∧ vk s100 = ((vk s53).1, (vk s53).2) ∧ (v98 = w46 ∧ v98.toInt = w46.toInt) := h99
          have i101 := h99.1
          have k102 : Kp s0 s100 := Kx.tr k55 (h99.2.1)
          have u103 : vk s100 = ((vk s0).1, (vk s0).2) := h99.2.2.1.trans u56
          have q104 := h99.2.2.2
          show Iv s100 ∧ Kp s0 s100 ∧ vk s100 = ((vk s0).1, (vk s0).2) ∧ (True)
          exact ⟨i101, k102, u103, (trivial)⟩
        · have c97 : ¬ (0 < v95.toInt) := c97
          intro v105 e106
          have b107 := vg_add e106 (by omega) (by omega)
          exact ⟨rfl, ⟨v105, rfl, (by omega), (by omega), (by omega), (by omega), (by omega), (by omega), i54, k55, u56⟩, (by show (0 + (48 - v105.toInt) * 1000000000000).toNat < (0 + (48 - w46.toInt) * 1000000000000).toNat; omega)⟩
def o_X11_unlikeNone : List vg_I := [(0, .iconst 0, 1, 0, 0, 0, 0), (1, .istore_n 2, 1, 0, 0, 0, 0), (2, .iconst 0, 1, 0, 0, 0, 0), (3, .istore_n 3, 1, 0, 0, 0, 0), (4, .iload_n 3, 1, 0, 0, 0, 0), (5, .aload_n 0, 1, 0, 0, 0, 0), (6, .iload_n 1, 1, 0, 0, 0, 0), (7, .invokevirtual 195, 3, 0, 11, 1, 1361), (10, .if_icmp .ge 26, 3, 0, 0, 0, 0), (13, .iload_n 2, 1, 0, 0, 0, 0), (14, .aload_n 0, 1, 0, 0, 0, 0), (15, .iload_n 1, 1, 0, 0, 0, 0), (16, .iload_n 3, 1, 0, 0, 0, 0), (17, .invokevirtual 201, 3, 1, 11, 2, 1365), (20, .ifCond .eq 7, 3, 0, 0, 0, 0), (23, .iconst 1, 1, 0, 0, 0, 0), (24, .goto 4, 3, 0, 0, 0, 0), (27, .iconst 0, 1, 0, 0, 0, 0), (28, .iadd, 1, 0, 0, 0, 0), (29, .istore_n 2, 1, 0, 0, 0, 0), (30, .iinc 3 1, 3, 0, 0, 0, 0), (33, .goto (-29), 3, 0, 0, 0, 0), (36, .iload_n 2, 1, 0, 0, 0, 0), (37, .ireturn, 1, 0, 0, 0, 0)]
set_option maxRecDepth 100000 in
set_option maxHeartbeats 4000000 in
theorem c_X11_unlikeNone (l : Launch) (G : vg_G) (hp : vg_Hp G) : vg_Ct l G vg_sh r_X11_unlikeNone := by
  refine vg_meth hp vg_sh_ok r_X11_unlikeNone k_X11_unlikeNone rfl (fun h => by cases h) o_X11_unlikeNone [r_X11_tapMany, r_X11_tapOf] false (by decide +kernel) (by decide +kernel) ⟨_, _, rfl, rfl⟩ (List.forall_mem_cons.mpr ⟨⟨c_X11_tapMany l G hp, Nat.le_of_ble_eq_true rfl, Nat.le_of_ble_eq_true rfl⟩, List.forall_mem_cons.mpr ⟨⟨c_X11_tapOf l G hp, Nat.le_of_ble_eq_true rfl, Nat.le_of_ble_eq_true rfl⟩, fun _ h => absurd h List.not_mem_nil⟩⟩) (fun h => by cases h) 600 ?_
  intro as s0 hpre
  obtain ⟨r, a1, rfl, hr, i0⟩ := hpre
  simp only [List.mem_cons, List.not_mem_nil, or_false] at hr
  rcases hr with rfl
  ·
    have z0 : (Int32.ofInt 0).toInt = 0 := by decide
    have z1 : (Int32.ofInt 1).toInt = 1 := by decide
    refine ⟨Nat.le_of_ble_eq_true rfl, [(4, [true, true, true, true], (fun L t => ∃ (x2 : Int32) (x3 : Int32), L = [some (.ref 55), some (.int a1), some (.int x2), some (.int x3)] ∧ (0 : Int) ≤ x3.toInt ∧ x3.toInt ≤ (11 : Int) ∧ (x2 = vg_cnt (vg_tp (s0.1 61) a1) x3.toNatClampNeg ∧ x3.toInt ≤ (vg_tn a1 : Int)) ∧ t = s0), (fun L _ => (0 + (11 - (vg_li L 3).toInt) * 1000000000000).toNat))], ?_, List.forall_mem_cons.mpr ⟨?_, fun _ h => absurd h List.not_mem_nil⟩⟩
    ·
      exact ⟨rfl, ⟨(Int32.ofInt 0), (Int32.ofInt 0), rfl, (by omega), (by omega), (by first | exact ⟨rfl, by omega⟩ | exact ⟨vg_cnt_s1 None.1 None None None (by omega) (by omega), by omega⟩ | exact ⟨vg_cnt_s2 None.1 None None None (by omega) (by omega), by omega⟩), rfl⟩, trivial⟩
    ·
      intro L s6 hL
      obtain ⟨w1, w2, rfl, b3, b4, x5, q9⟩ := hL
      have q9 := q9.symm
      subst q9
      refine And.intro (Nat.le_of_ble_eq_true rfl) (And.intro ⟨55, a1, rfl, by decide, i0⟩ ?_)
      intro v10 s12 h11
      have h11 : s12 = s0 ∧ (((a1.toInt = 0 ∧ v10.toInt = 3) ∨ (a1.toInt = 2 ∧ v10.toInt = 11) ∨ (¬ a1.toInt = 0 ∧ ¬ a1.toInt = 2 ∧ v10.toInt = 7)) ∧ v10.toInt = (vg_tn a1 : Int)) := h11
      have q15 := h11.1.symm
      subst q15
      have q16 := h11.2
      refine And.intro (fun c17 => ?_) (fun c17 => ?_)
      · have c17 : v10.toInt ≤ w2.toInt := c17
        show s0 = s0 ∧ (w1 = vg_cnt (vg_tp (s0.1 61) a1) (vg_tn a1))
        exact ⟨rfl, (vg_cnt_to x5.1 (by omega))⟩
      · have c17 : ¬ (v10.toInt ≤ w2.toInt) := c17
        refine And.intro (Nat.le_of_ble_eq_true rfl) (And.intro ⟨55, a1, w2, rfl, by decide, i0, by omega⟩ ?_)
        intro v18 s20 h19
        have h19 : s20 = s0 ∧ (v18 = vg_tp (s0.1 61) a1 w2.toNatClampNeg) := h19
        have q23 := h19.1.symm
        subst q23
        have q24 := h19.2
        refine And.intro (fun c25 => ?_) (fun c25 => ?_)
        · have c25 : v18.toInt = 0 := c25
          intro v26 e27
          intro v28 e29
          have b30 := vg_add e29 (by omega) (by omega)
          exact ⟨rfl, ⟨v26, v28, rfl, (by omega), (by omega), (by first | exact ⟨rfl, by omega⟩ | exact ⟨vg_cnt_s1 x5.1 q24 c25 e27 (by omega) (by omega), by omega⟩ | exact ⟨vg_cnt_s2 x5.1 q24 c25 e27 (by omega) (by omega), by omega⟩), rfl⟩, (by show (0 + (11 - v28.toInt) * 1000000000000).toNat < (0 + (11 - w2.toInt) * 1000000000000).toNat; omega)⟩
        · have c25 : ¬ (v18.toInt = 0) := c25
          intro v31 e32
          intro v33 e34
          have b35 := vg_add e34 (by omega) (by omega)
          exact ⟨rfl, ⟨v31, v33, rfl, (by omega), (by omega), (by first | exact ⟨rfl, by omega⟩ | exact ⟨vg_cnt_s1 x5.1 q24 c25 e32 (by omega) (by omega), by omega⟩ | exact ⟨vg_cnt_s2 x5.1 q24 c25 e32 (by omega) (by omega), by omega⟩), rfl⟩, (by show (0 + (11 - v33.toInt) * 1000000000000).toNat < (0 + (11 - w2.toInt) * 1000000000000).toNat; omega)⟩
def o_X11_response : List vg_I := [(0, .iload_n 1, 1, 0, 0, 0, 0), (1, .ifCond .ge 9, 3, 0, 0, 0, 0), (4, .aload_n 0, 1, 0, 0, 0, 0), (5, .iconst 1, 1, 0, 0, 0, 0), (6, .invokevirtual 242, 3, 0, 11, 1, 1181), (9, .ireturn, 1, 0, 0, 0, 0), (10, .iconst 1, 1, 0, 0, 0, 0), (11, .istore_n 2, 1, 0, 0, 0, 0), (12, .aload_n 0, 1, 0, 0, 0, 0), (13, .getfield 55, 3, 1087, 11, 26, 0), (16, .iconst 0, 1, 0, 0, 0, 0), (17, .iconst 1, 1, 0, 0, 0, 0), (18, .iastore, 1, 0, 0, 0, 0), (19, .iconst 0, 1, 0, 0, 0, 0), (20, .istore_n 3, 1, 0, 0, 0, 0), (21, .iload_n 3, 1, 0, 0, 0, 0), (22, .aload_n 0, 1, 0, 0, 0, 0), (23, .getfield 33, 3, 1077, 11, 16, 0), (26, .if_icmp .ge 134, 3, 0, 0, 0, 0), (29, .iconst 0, 1, 0, 0, 0, 0), (30, .istore 4, 2, 0, 0, 0, 0), (32, .iload 4, 2, 0, 0, 0, 0), (34, .iload_n 2, 1, 0, 0, 0, 0), (35, .aload_n 0, 1, 0, 0, 0, 0), (36, .getfield 36, 3, 1078, 11, 17, 0), (39, .iadd, 1, 0, 0, 0, 0), (40, .iconst 1, 1, 0, 0, 0, 0), (41, .isub, 1, 0, 0, 0, 0), (42, .if_icmp .ge 74, 3, 0, 0, 0, 0), (45, .aload_n 0, 1, 0, 0, 0, 0), (46, .getfield 58, 3, 1088, 11, 27, 0), (49, .iload 4, 2, 0, 0, 0, 0), (51, .iconst 0, 1, 0, 0, 0, 0), (52, .iastore, 1, 0, 0, 0, 0), (53, .iconst 0, 1, 0, 0, 0, 0), (54, .istore 5, 2, 0, 0, 0, 0), (56, .iload 5, 2, 0, 0, 0, 0), (58, .aload_n 0, 1, 0, 0, 0, 0), (59, .getfield 36, 3, 1078, 11, 17, 0), (62, .if_icmp .ge 48, 3, 0, 0, 0, 0), (65, .aload_n 0, 1, 0, 0, 0, 0), (66, .getfield 58, 3, 1088, 11, 27, 0), (69, .iload 4, 2, 0, 0, 0, 0), (71, .dup2, 1, 0, 0, 0, 0), (72, .iaload, 1, 0, 0, 0, 0), (73, .iload 4, 2, 0, 0, 0, 0), (75, .iload 5, 2, 0, 0, 0, 0), (77, .isub, 1, 0, 0, 0, 0), (78, .iconst 0, 1, 0, 0, 0, 0), (79, .iload_n 2, 1, 0, 0, 0, 0), (80, .iconst 1, 1, 0, 0, 0, 0), (81, .isub, 1, 0, 0, 0, 0), (82, .invokestatic 76, 3, 1, 1, 3, 1175), (85, .ifCond .eq 16, 3, 0, 0, 0, 0), (88, .aload_n 0, 1, 0, 0, 0, 0), (89, .getfield 55, 3, 1087, 11, 26, 0), (92, .iload 4, 2, 0, 0, 0, 0), (94, .iload 5, 2, 0, 0, 0, 0), (96, .isub, 1, 0, 0, 0, 0), (97, .iaload, 1, 0, 0, 0, 0), (98, .goto 4, 3, 0, 0, 0, 0), (101, .iconst 0, 1, 0, 0, 0, 0), (102, .iadd, 1, 0, 0, 0, 0), (103, .iastore, 1, 0, 0, 0, 0), (104, .iinc 5 1, 3, 0, 0, 0, 0), (107, .goto (-51), 3, 0, 0, 0, 0), (110, .iinc 4 1, 3, 0, 0, 0, 0), (113, .goto (-81), 3, 0, 0, 0, 0), (116, .iload_n 2, 1, 0, 0, 0, 0), (117, .aload_n 0, 1, 0, 0, 0, 0), (118, .getfield 36, 3, 1078, 11, 17, 0), (121, .iconst 1, 1, 0, 0, 0, 0), (122, .isub, 1, 0, 0, 0, 0), (123, .iadd, 1, 0, 0, 0, 0), (124, .istore_n 2, 1, 0, 0, 0, 0), (125, .iconst 0, 1, 0, 0, 0, 0), (126, .istore 4, 2, 0, 0, 0, 0), (128, .iload 4, 2, 0, 0, 0, 0), (130, .iload_n 2, 1, 0, 0, 0, 0), (131, .if_icmp .ge 23, 3, 0, 0, 0, 0), (134, .aload_n 0, 1, 0, 0, 0, 0), (135, .getfield 55, 3, 1087, 11, 26, 0), (138, .iload 4, 2, 0, 0, 0, 0), (140, .aload_n 0, 1, 0, 0, 0, 0), (141, .getfield 58, 3, 1088, 11, 27, 0), (144, .iload 4, 2, 0, 0, 0, 0), (146, .iaload, 1, 0, 0, 0, 0), (147, .iastore, 1, 0, 0, 0, 0), (148, .iinc 4 1, 3, 0, 0, 0, 0), (151, .goto (-23), 3, 0, 0, 0, 0), (154, .iinc 3 1, 3, 0, 0, 0, 0), (157, .goto (-136), 3, 0, 0, 0, 0), (160, .iload_n 1, 1, 0, 0, 0, 0), (161, .iload_n 2, 1, 0, 0, 0, 0), (162, .if_icmp .ge 16, 3, 0, 0, 0, 0), (165, .aload_n 0, 1, 0, 0, 0, 0), (166, .aload_n 0, 1, 0, 0, 0, 0), (167, .getfield 55, 3, 1087, 11, 26, 0), (170, .iload_n 1, 1, 0, 0, 0, 0), (171, .iaload, 1, 0, 0, 0, 0), (172, .invokevirtual 249, 3, 2, 11, 1, 1206), (175, .goto 8, 3, 0, 0, 0, 0), (178, .aload_n 0, 1, 0, 0, 0, 0), (179, .iconst 5, 1, 0, 0, 0, 0), (180, .invokevirtual 242, 3, 0, 11, 1, 1181), (183, .ireturn, 1, 0, 0, 0, 0)]
set_option maxRecDepth 100000 in
set_option maxHeartbeats 4000000 in
theorem c_X11_response (l : Launch) (G : vg_G) (hp : vg_Hp G) : vg_Ct l G vg_sh r_X11_response := by
  refine vg_meth hp vg_sh_ok r_X11_response k_X11_response rfl (fun h => by cases h) o_X11_response [r_X11_refuse, r_X11_isFrom, r_X11_gives] false (by decide +kernel) (by decide +kernel) ⟨_, _, rfl, rfl⟩ (List.forall_mem_cons.mpr ⟨⟨c_X11_refuse l G hp, Nat.le_of_ble_eq_true rfl, Nat.le_of_ble_eq_true rfl⟩, List.forall_mem_cons.mpr ⟨⟨c_X11_isFrom l G hp, Nat.le_of_ble_eq_true rfl, Nat.le_of_ble_eq_true rfl⟩, List.forall_mem_cons.mpr ⟨⟨c_X11_gives l G hp, Nat.le_of_ble_eq_true rfl, Nat.le_of_ble_eq_true rfl⟩, fun _ h => absurd h List.not_mem_nil⟩⟩⟩) (fun h => by cases h) 600 ?_
  intro as s0 hpre
  obtain ⟨r, a1, rfl, hr, i0⟩ := hpre
  simp only [List.mem_cons, List.not_mem_nil, or_false] at hr
  rcases hr with rfl
  ·
    have z0 : (Int32.ofInt 0).toInt = 0 := by decide
    have z1 : (Int32.ofInt 1).toInt = 1 := by decide
    have z5 : (Int32.ofInt 5).toInt = 5 := by decide
    refine ⟨Nat.le_of_ble_eq_true rfl, [(21, [true, true, true, true, false, false], (fun L t => ∃ (x2 : Int32) (x3 : Int32), L = [some (.ref 55), some (.int a1), some (.int x2), some (.int x3), none, none] ∧ (0 : Int) ≤ x3.toInt ∧ x3.toInt ≤ (5 : Int) ∧ (0 : Int) ≤ a1.toInt ∧ (1 ≤ x2.toInt ∧ x2.toInt ≤ 1 + 15 * x3.toInt ∧ x2.toInt = vg_mn (s0.1 55 17).toInt x3.toNatClampNeg ∧ x3.toInt ≤ (s0.1 55 16).toInt ∧ vg_rA (s0.1 55 17).toNatClampNeg t x3.toNatClampNeg x2.toInt) ∧ Iv t ∧ Kp s0 t ∧ vk t = ((vk s0).1, (vk s0).2)), (fun L _ => ((5 - (vg_li L 3).toInt) * 10000000).toNat)), (32, [true, true, true, true, true, false], (fun L t => ∃ (x2 : Int32) (x3 : Int32) (x4 : Int32), L = [some (.ref 55), some (.int a1), some (.int x2), some (.int x3), some (.int x4), none] ∧ (1 : Int) ≤ x2.toInt ∧ x2.toInt ≤ (61 : Int) ∧ (0 : Int) ≤ x3.toInt ∧ x3.toInt ≤ (4 : Int) ∧ (0 : Int) ≤ x4.toInt ∧ x4.toInt ≤ (76 : Int) ∧ (0 : Int) ≤ a1.toInt ∧ (1 ≤ x2.toInt ∧ x2.toInt ≤ 1 + 15 * x3.toInt ∧ x2.toInt = vg_mn (s0.1 55 17).toInt x3.toNatClampNeg ∧ x3.toInt < (s0.1 55 16).toInt ∧ vg_rA (s0.1 55 17).toNatClampNeg t x3.toNatClampNeg x2.toInt ∧ vg_rB (s0.1 55 17).toNatClampNeg t (x3.toNatClampNeg + 1) x4.toInt ∧ x4.toInt ≤ x2.toInt + (s0.1 55 17).toInt - 1) ∧ Iv t ∧ Kp s0 t ∧ vk t = ((vk s0).1, (vk s0).2)), (fun L _ => ((5 - (vg_li L 3).toInt) * 10000000 - 10000000 + 5000000 + (76 - (vg_li L 4).toInt) * 100 + 1).toNat)), (128, [true, true, true, true, true, false], (fun L t => ∃ (x2 : Int32) (x3 : Int32) (x4 : Int32), L = [some (.ref 55), some (.int a1), some (.int x2), some (.int x3), some (.int x4), none] ∧ (1 : Int) ≤ x2.toInt ∧ x2.toInt ≤ (76 : Int) ∧ (0 : Int) ≤ x3.toInt ∧ x3.toInt ≤ (4 : Int) ∧ (0 : Int) ≤ x4.toInt ∧ x4.toInt ≤ (76 : Int) ∧ (0 : Int) ≤ a1.toInt ∧ (1 ≤ x2.toInt ∧ x2.toInt ≤ 1 + 15 * (x3.toInt + 1) ∧ x2.toInt = vg_mn (s0.1 55 17).toInt (x3.toNatClampNeg + 1) ∧ x3.toInt < (s0.1 55 16).toInt ∧ vg_rB (s0.1 55 17).toNatClampNeg t (x3.toNatClampNeg + 1) x2.toInt ∧ vg_rA (s0.1 55 17).toNatClampNeg t (x3.toNatClampNeg + 1) x4.toInt ∧ x4.toInt ≤ x2.toInt) ∧ Iv t ∧ Kp s0 t ∧ vk t = ((vk s0).1, (vk s0).2)), (fun L _ => ((5 - (vg_li L 3).toInt) * 10000000 - 10000000 + (76 - (vg_li L 4).toInt) + 1).toNat)), (56, [true, true, true, true, true, true], (fun L t => ∃ (x2 : Int32) (x3 : Int32) (x4 : Int32) (x5 : Int32), L = [some (.ref 55), some (.int a1), some (.int x2), some (.int x3), some (.int x4), some (.int x5)] ∧ (1 : Int) ≤ x2.toInt ∧ x2.toInt ≤ (61 : Int) ∧ (0 : Int) ≤ x3.toInt ∧ x3.toInt ≤ (4 : Int) ∧ (0 : Int) ≤ x4.toInt ∧ x4.toInt ≤ (75 : Int) ∧ (0 : Int) ≤ x5.toInt ∧ x5.toInt ≤ (16 : Int) ∧ (0 : Int) ≤ a1.toInt ∧ (1 ≤ x2.toInt ∧ x2.toInt ≤ 1 + 15 * x3.toInt ∧ x2.toInt = vg_mn (s0.1 55 17).toInt x3.toNatClampNeg ∧ x3.toInt < (s0.1 55 16).toInt ∧ vg_rA (s0.1 55 17).toNatClampNeg t x3.toNatClampNeg x2.toInt ∧ vg_rB (s0.1 55 17).toNatClampNeg t (x3.toNatClampNeg + 1) x4.toInt ∧ t.1 63 x4.toNatClampNeg = vg_ps (vg_cc (s0.1 55 17).toNatClampNeg x3.toNatClampNeg) x4.toNatClampNeg x5.toNatClampNeg ∧ x5.toInt ≤ (s0.1 55 17).toInt ∧ x4.toInt < x2.toInt + (s0.1 55 17).toInt - 1) ∧ Iv t ∧ Kp s0 t ∧ vk t = ((vk s0).1, (vk s0).2)), (fun L _ => ((5 - (vg_li L 3).toInt) * 10000000 - 10000000 + 5000000 + (76 - (vg_li L 4).toInt) * 100 - 100 + (16 - (vg_li L 5).toInt) + 2).toNat))], ?_, List.forall_mem_cons.mpr ⟨?_, List.forall_mem_cons.mpr ⟨?_, List.forall_mem_cons.mpr ⟨?_, List.forall_mem_cons.mpr ⟨?_, fun _ h => absurd h List.not_mem_nil⟩⟩⟩⟩⟩
    ·
      refine And.intro (fun c1 => ?_) (fun c1 => ?_)
      · have c1 : 0 ≤ a1.toInt := c1
        refine And.intro ⟨by omega, by omega⟩ ?_
        intro s2 e3
        have i4 : Iv s2 := Iv.a1 i0 e3 rfl
        have k5 : Kp s0 s2 := Kx.u1 Kx.rf e3 rfl
        have u6 : vk s2 = ((vk s0).1, (vk s0).2) := vk_k1 rfl e3 rfl
        exact ⟨rfl, ⟨(Int32.ofInt 1), (Int32.ofInt 0), rfl, (by omega), (by omega), (by omega), (by first | exact ⟨by omega, by omega, z1, by have h9 := Iv_55_16 i0; omega, vg_rA0 e3⟩ | exact ⟨by omega, by omega, vg_mn_up None.2.2.1 (by omega) (by omega), by omega, vg_rA_up None.2.2.2.2.2.1 (by omega) (by omega) (by omega)⟩), i4, k5, u6⟩, trivial⟩
      · have c1 : ¬ (0 ≤ a1.toInt) := c1
        refine And.intro (Nat.le_of_ble_eq_true rfl) (And.intro ⟨55, (Int32.ofInt 1), rfl, by decide, i0⟩ ?_)
        intro v7 s9 h8
        have h8 : Iv s9 ∧ Kp s0 s9 ∧ vk s9 = ((vk s0).1, (vk s0).2) ∧ (v7.toInt = -1) := h8
        have i10 := h8.1
        have k11 : Kp s0 s9 := Kx.tr Kx.rf (h8.2.1)
        have u12 : vk s9 = ((vk s0).1, (vk s0).2) := h8.2.2.1.trans rfl
        have q13 := h8.2.2.2
        show Iv s9 ∧ Kp s0 s9 ∧ vk s9 = ((vk s0).1, (vk s0).2) ∧ (((0 ≤ a1.toInt ∧ a1.toInt < vg_mn (s0.1 55 17).toInt (s0.1 55 16).toNatClampNeg) ∧ v7 = vg_cc (s0.1 55 17).toNatClampNeg (s0.1 55 16).toNatClampNeg a1.toNatClampNeg) ∨ (¬ (0 ≤ a1.toInt ∧ a1.toInt < vg_mn (s0.1 55 17).toInt (s0.1 55 16).toNatClampNeg) ∧ v7.toInt = -1))
        exact ⟨i10, k11, u12, (by first | exact Or.inl ⟨by omega, by rw [q13.1]; exact vg_rA_at None.2.2.2.2 None (by omega) (by omega) (by omega)⟩ | exact Or.inr ⟨by omega, by omega⟩)⟩
    ·
      intro L s20 hL
      obtain ⟨w14, w15, rfl, b16, b17, b18, x19, i21, k22, u23⟩ := hL
      have y0 := congrArg Int32.toInt (k22.1 55 17 rfl)
      have y1 := congrArg Int32.toInt (k22.1 55 16 rfl)
      have y2 := Iv_55_17 i0
      intro v24 e25
      have g26 : s20.1 55 16 = v24 := by rw [e25]
      have b27 : v24.toInt = (s20.1 55 16).toInt := congrArg Int32.toInt e25
      have b28 : (1 : Int) ≤ v24.toInt ∧ v24.toInt ≤ 5 := by rw [e25]; exact Iv_55_16 i21
      refine And.intro (fun c29 => ?_) (fun c29 => ?_)
      · have c29 : v24.toInt ≤ w15.toInt := c29
        have y3 := vg_mn_at x19.2.2.1 (o := s0.1 55 16) (by omega)
        refine And.intro (fun c30 => ?_) (fun c30 => ?_)
        · have c30 : w14.toInt ≤ a1.toInt := c30
          refine And.intro (Nat.le_of_ble_eq_true rfl) (And.intro ⟨55, (Int32.ofInt 5), rfl, by decide, i21⟩ ?_)
          intro v31 s33 h32
          have h32 : Iv s33 ∧ Kp s20 s33 ∧ vk s33 = ((vk s20).1, (vk s20).2) ∧ (v31.toInt = -1) := h32
          have i34 := h32.1
          have k35 : Kp s0 s33 := Kx.tr k22 (h32.2.1)
          have u36 : vk s33 = ((vk s0).1, (vk s0).2) := h32.2.2.1.trans u23
          have q37 := h32.2.2.2
          show Iv s33 ∧ Kp s0 s33 ∧ vk s33 = ((vk s0).1, (vk s0).2) ∧ (((0 ≤ a1.toInt ∧ a1.toInt < vg_mn (s0.1 55 17).toInt (s0.1 55 16).toNatClampNeg) ∧ v31 = vg_cc (s0.1 55 17).toNatClampNeg (s0.1 55 16).toNatClampNeg a1.toNatClampNeg) ∨ (¬ (0 ≤ a1.toInt ∧ a1.toInt < vg_mn (s0.1 55 17).toInt (s0.1 55 16).toNatClampNeg) ∧ v31.toInt = -1))
          exact ⟨i34, k35, u36, (by first | exact Or.inl ⟨by omega, by rw [q37.1]; exact vg_rA_at x19.2.2.2.2 None (by omega) (by omega) (by omega)⟩ | exact Or.inr ⟨by omega, by omega⟩)⟩
        · have c30 : ¬ (w14.toInt ≤ a1.toInt) := c30
          refine And.intro ⟨by omega, by omega⟩ ?_
          intro v38 e39
          refine And.intro (Nat.le_of_ble_eq_true rfl) (And.intro ⟨55, v38, rfl, by decide, i21⟩ ?_)
          intro v40 s42 h41
          have h41 : Iv s42 ∧ Kp s20 s42 ∧ vk s42 = ((vk s20).1, (vk s20).2) ∧ (v40 = v38 ∧ v40.toInt = v38.toInt) := h41
          have i43 := h41.1
          have k44 : Kp s0 s42 := Kx.tr k22 (h41.2.1)
          have u45 : vk s42 = ((vk s0).1, (vk s0).2) := h41.2.2.1.trans u23
          have q46 := h41.2.2.2
          show Iv s42 ∧ Kp s0 s42 ∧ vk s42 = ((vk s0).1, (vk s0).2) ∧ (((0 ≤ a1.toInt ∧ a1.toInt < vg_mn (s0.1 55 17).toInt (s0.1 55 16).toNatClampNeg) ∧ v40 = vg_cc (s0.1 55 17).toNatClampNeg (s0.1 55 16).toNatClampNeg a1.toNatClampNeg) ∨ (¬ (0 ≤ a1.toInt ∧ a1.toInt < vg_mn (s0.1 55 17).toInt (s0.1 55 16).toNatClampNeg) ∧ v40.toInt = -1))
          exact ⟨i43, k44, u45, (by first | exact Or.inl ⟨by omega, by rw [q46.1]; exact vg_rA_at x19.2.2.2.2 e39 (by omega) (by omega) (by omega)⟩ | exact Or.inr ⟨by omega, by omega⟩)⟩
      · have c29 : ¬ (v24.toInt ≤ w15.toInt) := c29
        exact ⟨rfl, ⟨w14, w15, (Int32.ofInt 0), rfl, (by omega), (by omega), (by omega), (by omega), (by omega), (by omega), (by omega), (by first | exact ⟨by omega, by omega, x19.2.2.1, by omega, x19.2.2.2.2, vg_rB0, by omega⟩ | exact ⟨by omega, by omega, x19.2.2.1, by omega, x19.2.2.2.2.1, vg_rB_nx x19.2.2.2.2.2.1 x19.2.2.2.2.2.2.1 (by omega) (by omega) (by omega), by omega⟩), i21, k22, u23⟩, (by show ((5 - w15.toInt) * 10000000 - 10000000 + 5000000 + (76 - (Int32.ofInt 0).toInt) * 100 + 1).toNat < ((5 - w15.toInt) * 10000000).toNat; omega)⟩
    ·
      intro L s58 hL
      obtain ⟨w47, w50, w53, rfl, b48, b49, b51, b52, b54, b55, b56, x57, i59, k60, u61⟩ := hL
      have y0 := congrArg Int32.toInt (k60.1 55 17 rfl)
      have y1 := congrArg Int32.toInt (k60.1 55 16 rfl)
      have y2 := Iv_55_17 i0
      intro v62 e63
      have g64 : s58.1 55 17 = v62 := by rw [e63]
      have b65 : v62.toInt = (s58.1 55 17).toInt := congrArg Int32.toInt e63
      have b66 : (1 : Int) ≤ v62.toInt ∧ v62.toInt ≤ 16 := by rw [e63]; exact Iv_55_17 i59
      intro v67 e68
      have b69 := vg_add e68 (by omega) (by omega)
      intro v70 e71
      have b72 := vg_sub e71 (by omega) (by omega)
      refine And.intro (fun c73 => ?_) (fun c73 => ?_)
      · have c73 : v70.toInt ≤ w53.toInt := c73
        intro v74 e75
        have w76 : v62 = v74 := by rw [e75, g64]
        subst w76
        intro v77 e78
        have b79 := vg_sub e78 (by omega) (by omega)
        intro v80 e81
        have b82 := vg_add e81 (by omega) (by omega)
        exact ⟨rfl, ⟨v80, w50, (Int32.ofInt 0), rfl, (by omega), (by omega), (by omega), (by omega), (by omega), (by omega), (by omega), (by first | exact ⟨by omega, by omega, vg_mn_add x57.2.2.1 (by omega), by omega, vg_rB_le x57.2.2.2.2.2.1 (by omega), vg_rAv, by omega⟩ | exact ⟨by omega, by omega, x57.2.2.1, by omega, vg_rB_62 x57.2.2.2.2.1 rfl, vg_rA_nx x57.2.2.2.2.2.1 x57.2.2.2.2.1 None rfl (by omega) (by omega) (by omega), by omega⟩), i59, k60, u61⟩, (by show ((5 - w50.toInt) * 10000000 - 10000000 + (76 - (Int32.ofInt 0).toInt) + 1).toNat < ((5 - w50.toInt) * 10000000 - 10000000 + 5000000 + (76 - w53.toInt) * 100 + 1).toNat; omega)⟩
      · have c73 : ¬ (v70.toInt ≤ w53.toInt) := c73
        refine And.intro ⟨by omega, by omega⟩ ?_
        intro s83 e84
        have i85 : Iv s83 := Iv.a1 i59 e84 rfl
        have k86 : Kp s0 s83 := Kx.u1 k60 e84 rfl
        have u87 : vk s83 = ((vk s0).1, (vk s0).2) := vk_k1 u61 e84 rfl
        exact ⟨rfl, ⟨w47, w50, w53, (Int32.ofInt 0), rfl, (by omega), (by omega), (by omega), (by omega), (by omega), (by omega), (by omega), (by omega), (by omega), (by first | exact ⟨by omega, by omega, x57.2.2.1, by omega, vg_rA_63 x57.2.2.2.2.1 e84, vg_rB_63 x57.2.2.2.2.2.1 e84 (by omega), vg_C0 e84, by omega, by omega⟩ | exact ⟨by omega, by omega, x57.2.2.1, by omega, vg_rA_63 x57.2.2.2.2.1 e84, vg_rB_63 x57.2.2.2.2.2.1 e84 (by omega), vg_C1A x57.2.2.2.2.1 x57.2.2.2.2.2.2.1 None None e71 e84 (by omega) (by omega) (by omega) (by omega) (by omega), by omega, by omega⟩ | exact ⟨by omega, by omega, x57.2.2.1, by omega, vg_rA_63 x57.2.2.2.2.1 e84, vg_rB_63 x57.2.2.2.2.2.1 e84 (by omega), vg_C1B x57.2.2.1 x57.2.2.2.2.2.2.1 None e71 e84 (by omega) (by omega) (by omega) (by omega) (by omega), by omega, by omega⟩), i85, k86, u87⟩, (by show ((5 - w50.toInt) * 10000000 - 10000000 + 5000000 + (76 - w53.toInt) * 100 - 100 + (16 - (Int32.ofInt 0).toInt) + 2).toNat < ((5 - w50.toInt) * 10000000 - 10000000 + 5000000 + (76 - w53.toInt) * 100 + 1).toNat; omega)⟩
    ·
      intro L s99 hL
      obtain ⟨w88, w91, w94, rfl, b89, b90, b92, b93, b95, b96, b97, x98, i100, k101, u102⟩ := hL
      have y0 := congrArg Int32.toInt (k101.1 55 17 rfl)
      have y1 := congrArg Int32.toInt (k101.1 55 16 rfl)
      have y2 := Iv_55_17 i0
      refine And.intro (fun c103 => ?_) (fun c103 => ?_)
      · have c103 : w88.toInt ≤ w94.toInt := c103
        intro v104 e105
        have b106 := vg_add e105 (by omega) (by omega)
        exact ⟨rfl, ⟨w88, v104, rfl, (by omega), (by omega), (by omega), (by first | exact ⟨by omega, by omega, z1, by have h9 := Iv_55_16 i0; omega, vg_rA0 rfl⟩ | exact ⟨by omega, by omega, vg_mn_up x98.2.2.1 (by omega) (by omega), by omega, vg_rA_up x98.2.2.2.2.2.1 (by omega) (by omega) (by omega)⟩), i100, k101, u102⟩, (by show ((5 - v104.toInt) * 10000000).toNat < ((5 - w91.toInt) * 10000000 - 10000000 + (76 - w94.toInt) + 1).toNat; omega)⟩
      · have c103 : ¬ (w88.toInt ≤ w94.toInt) := c103
        refine And.intro ⟨by omega, by omega⟩ ?_
        intro v107 e108
        refine And.intro ⟨by omega, by omega⟩ ?_
        intro s109 e110
        have i111 : Iv s109 := Iv.a1 i100 e110 rfl
        have k112 : Kp s0 s109 := Kx.u1 k101 e110 rfl
        have u113 : vk s109 = ((vk s0).1, (vk s0).2) := vk_k1 u102 e110 rfl
        intro v114 e115
        have b116 := vg_add e115 (by omega) (by omega)
        exact ⟨rfl, ⟨w88, w91, v114, rfl, (by omega), (by omega), (by omega), (by omega), (by omega), (by omega), (by omega), (by first | exact ⟨by omega, by omega, vg_mn_add x98.2.2.1 (by omega), by omega, vg_rB_le x98.2.2.2.2.2.1 (by omega), vg_rAv, by omega⟩ | exact ⟨by omega, by omega, x98.2.2.1, by omega, vg_rB_62 x98.2.2.2.2.1 e110, vg_rA_nx x98.2.2.2.2.2.1 x98.2.2.2.2.1 e108 e110 (by omega) (by omega) (by omega), by omega⟩), i111, k112, u113⟩, (by show ((5 - w91.toInt) * 10000000 - 10000000 + (76 - v114.toInt) + 1).toNat < ((5 - w91.toInt) * 10000000 - 10000000 + (76 - w94.toInt) + 1).toNat; omega)⟩
    ·
      intro L s131 hL
      obtain ⟨w117, w120, w123, w126, rfl, b118, b119, b121, b122, b124, b125, b127, b128, b129, x130, i132, k133, u134⟩ := hL
      have y0 := congrArg Int32.toInt (k133.1 55 17 rfl)
      have y1 := congrArg Int32.toInt (k133.1 55 16 rfl)
      have y2 := Iv_55_17 i0
      intro v135 e136
      have g137 : s131.1 55 17 = v135 := by rw [e136]
      have b138 : v135.toInt = (s131.1 55 17).toInt := congrArg Int32.toInt e136
      have b139 : (1 : Int) ≤ v135.toInt ∧ v135.toInt ≤ 16 := by rw [e136]; exact Iv_55_17 i132
      refine And.intro (fun c140 => ?_) (fun c140 => ?_)
      · have c140 : v135.toInt ≤ w126.toInt := c140
        intro v141 e142
        have b143 := vg_add e142 (by omega) (by omega)
        exact ⟨rfl, ⟨w117, w120, v141, rfl, (by omega), (by omega), (by omega), (by omega), (by omega), (by omega), (by omega), (by first | exact ⟨by omega, by omega, x130.2.2.1, by omega, x130.2.2.2.2, vg_rB0, by omega⟩ | exact ⟨by omega, by omega, x130.2.2.1, by omega, x130.2.2.2.2.1, vg_rB_nx x130.2.2.2.2.2.1 x130.2.2.2.2.2.2.1 (by omega) (by omega) (by omega), by omega⟩), i132, k133, u134⟩, (by show ((5 - w120.toInt) * 10000000 - 10000000 + 5000000 + (76 - v141.toInt) * 100 + 1).toNat < ((5 - w120.toInt) * 10000000 - 10000000 + 5000000 + (76 - w123.toInt) * 100 - 100 + (16 - w126.toInt) + 2).toNat; omega)⟩
      · have c140 : ¬ (v135.toInt ≤ w126.toInt) := c140
        refine And.intro ⟨by omega, by omega⟩ ?_
        intro v144 e145
        intro v146 e147
        have b148 := vg_sub e147 (by omega) (by omega)
        intro v149 e150
        have b151 := vg_sub e150 (by omega) (by omega)
        refine And.intro (Nat.le_of_ble_eq_true rfl) (And.intro ⟨v146, (Int32.ofInt 0), v149, rfl, trivial⟩ ?_)
        intro v152 s154 h153
        have h153 : s154 = s131 ∧ ((v152.toInt = 1 ∧ (Int32.ofInt 0).toInt ≤ v146.toInt ∧ v146.toInt ≤ v149.toInt) ∨ (v152.toInt = 0 ∧ (v146.toInt < (Int32.ofInt 0).toInt ∨ v149.toInt < v146.toInt))) := h153
        have q157 := h153.1.symm
        subst q157
        have q158 := h153.2
        refine And.intro (fun c159 => ?_) (fun c159 => ?_)
        · have c159 : v152.toInt = 0 := c159
          intro v160 e161
          refine And.intro ⟨by omega, by omega⟩ ?_
          intro s162 e163
          have i164 : Iv s162 := Iv.a1 i132 e163 rfl
          have k165 : Kp s0 s162 := Kx.u1 k133 e163 rfl
          have u166 : vk s162 = ((vk s0).1, (vk s0).2) := vk_k1 u134 e163 rfl
          intro v167 e168
          have b169 := vg_add e168 (by omega) (by omega)
          exact ⟨rfl, ⟨w117, w120, w123, v167, rfl, (by omega), (by omega), (by omega), (by omega), (by omega), (by omega), (by omega), (by omega), (by omega), (by first | exact ⟨by omega, by omega, x130.2.2.1, by omega, vg_rA_63 x130.2.2.2.2.1 e163, vg_rB_63 x130.2.2.2.2.2.1 e163 (by omega), vg_C0 e163, by omega, by omega⟩ | exact ⟨by omega, by omega, x130.2.2.1, by omega, vg_rA_63 x130.2.2.2.2.1 e163, vg_rB_63 x130.2.2.2.2.2.1 e163 (by omega), vg_C1A x130.2.2.2.2.1 x130.2.2.2.2.2.2.1 None e145 e161 e163 (by omega) (by omega) (by omega) (by omega) (by omega), by omega, by omega⟩ | exact ⟨by omega, by omega, x130.2.2.1, by omega, vg_rA_63 x130.2.2.2.2.1 e163, vg_rB_63 x130.2.2.2.2.2.1 e163 (by omega), vg_C1B x130.2.2.1 x130.2.2.2.2.2.2.1 e145 e161 e163 (by omega) (by omega) (by omega) (by omega) (by omega), by omega, by omega⟩), i164, k165, u166⟩, (by show ((5 - w120.toInt) * 10000000 - 10000000 + 5000000 + (76 - w123.toInt) * 100 - 100 + (16 - v167.toInt) + 2).toNat < ((5 - w120.toInt) * 10000000 - 10000000 + 5000000 + (76 - w123.toInt) * 100 - 100 + (16 - w126.toInt) + 2).toNat; omega)⟩
        · have c159 : ¬ (v152.toInt = 0) := c159
          intro v170 e171
          have b172 := vg_sub e171 (by omega) (by omega)
          refine And.intro ⟨by omega, by omega⟩ ?_
          intro v173 e174
          intro v175 e176
          refine And.intro ⟨by omega, by omega⟩ ?_
          intro s177 e178
          have i179 : Iv s177 := Iv.a1 i132 e178 rfl
          have k180 : Kp s0 s177 := Kx.u1 k133 e178 rfl
          have u181 : vk s177 = ((vk s0).1, (vk s0).2) := vk_k1 u134 e178 rfl
          intro v182 e183
          have b184 := vg_add e183 (by omega) (by omega)
          exact ⟨rfl, ⟨w117, w120, w123, v182, rfl, (by omega), (by omega), (by omega), (by omega), (by omega), (by omega), (by omega), (by omega), (by omega), (by first | exact ⟨by omega, by omega, x130.2.2.1, by omega, vg_rA_63 x130.2.2.2.2.1 e178, vg_rB_63 x130.2.2.2.2.2.1 e178 (by omega), vg_C0 e178, by omega, by omega⟩ | exact ⟨by omega, by omega, x130.2.2.1, by omega, vg_rA_63 x130.2.2.2.2.1 e178, vg_rB_63 x130.2.2.2.2.2.1 e178 (by omega), vg_C1A x130.2.2.2.2.1 x130.2.2.2.2.2.2.1 e145 e174 e176 e178 (by omega) (by omega) (by omega) (by omega) (by omega), by omega, by omega⟩ | exact ⟨by omega, by omega, x130.2.2.1, by omega, vg_rA_63 x130.2.2.2.2.1 e178, vg_rB_63 x130.2.2.2.2.2.1 e178 (by omega), vg_C1B x130.2.2.1 x130.2.2.2.2.2.2.1 e174 e176 e178 (by omega) (by omega) (by omega) (by omega) (by omega), by omega, by omega⟩), i179, k180, u181⟩, (by show ((5 - w120.toInt) * 10000000 - 10000000 + 5000000 + (76 - w123.toInt) * 100 - 100 + (16 - v182.toInt) + 2).toNat < ((5 - w120.toInt) * 10000000 - 10000000 + 5000000 + (76 - w123.toInt) * 100 - 100 + (16 - w126.toInt) + 2).toNat; omega)⟩
def o_X11_half : List vg_I := [(0, .iload_n 1, 1, 0, 0, 0, 0), (1, .iconst 0, 1, 0, 0, 0, 0), (2, .iconst 3, 1, 0, 0, 0, 0), (3, .invokestatic 76, 3, 0, 1, 3, 1175), (6, .ifCond .eq 12, 3, 0, 0, 0, 0), (9, .iload_n 2, 1, 0, 0, 0, 0), (10, .iconst 0, 1, 0, 0, 0, 0), (11, .iconst 3, 1, 0, 0, 0, 0), (12, .invokestatic 76, 3, 0, 1, 3, 1175), (15, .ifCond .ne 9, 3, 0, 0, 0, 0), (18, .aload_n 0, 1, 0, 0, 0, 0), (19, .iconst 1, 1, 0, 0, 0, 0), (20, .invokevirtual 242, 3, 1, 11, 1, 1181), (23, .ireturn, 1, 0, 0, 0, 0), (24, .aload_n 0, 1, 0, 0, 0, 0), (25, .iload_n 1, 1, 0, 0, 0, 0), (26, .invokevirtual 195, 3, 2, 11, 1, 1361), (29, .iconst 2, 1, 0, 0, 0, 0), (30, .idiv, 1, 0, 0, 0, 0), (31, .istore_n 3, 1, 0, 0, 0, 0), (32, .iconst 0, 1, 0, 0, 0, 0), (33, .istore 4, 2, 0, 0, 0, 0), (35, .iconst 1, 1, 0, 0, 0, 0), (36, .istore 5, 2, 0, 0, 0, 0), (38, .iconst 0, 1, 0, 0, 0, 0), (39, .istore 6, 2, 0, 0, 0, 0), (41, .iload 6, 2, 0, 0, 0, 0), (43, .aload_n 0, 1, 0, 0, 0, 0), (44, .iload_n 1, 1, 0, 0, 0, 0), (45, .invokevirtual 195, 3, 2, 11, 1, 1361), (48, .if_icmp .ge 58, 3, 0, 0, 0, 0), (51, .iload 4, 2, 0, 0, 0, 0), (53, .aload_n 0, 1, 0, 0, 0, 0), (54, .iload_n 1, 1, 0, 0, 0, 0), (55, .iload 6, 2, 0, 0, 0, 0), (57, .invokevirtual 201, 3, 3, 11, 2, 1365), (60, .iadd, 1, 0, 0, 0, 0), (61, .istore 4, 2, 0, 0, 0, 0), (63, .iload 5, 2, 0, 0, 0, 0), (65, .ifCond .eq 32, 3, 0, 0, 0, 0), (68, .iload 6, 2, 0, 0, 0, 0), (70, .iload_n 3, 1, 0, 0, 0, 0), (71, .if_icmp .eq 22, 3, 0, 0, 0, 0), (74, .iload 6, 2, 0, 0, 0, 0), (76, .iload_n 3, 1, 0, 0, 0, 0), (77, .isub, 1, 0, 0, 0, 0), (78, .iconst 2, 1, 0, 0, 0, 0), (79, .irem, 1, 0, 0, 0, 0), (80, .ifCond .ne 13, 3, 0, 0, 0, 0), (83, .aload_n 0, 1, 0, 0, 0, 0), (84, .iload_n 1, 1, 0, 0, 0, 0), (85, .iload 6, 2, 0, 0, 0, 0), (87, .invokevirtual 201, 3, 3, 11, 2, 1365), (90, .ifCond .ne 7, 3, 0, 0, 0, 0), (93, .iconst 1, 1, 0, 0, 0, 0), (94, .goto 4, 3, 0, 0, 0, 0), (97, .iconst 0, 1, 0, 0, 0, 0), (98, .istore 5, 2, 0, 0, 0, 0), (100, .iinc 6 1, 3, 0, 0, 0, 0), (103, .goto (-62), 3, 0, 0, 0, 0), (106, .aload_n 0, 1, 0, 0, 0, 0), (107, .iload_n 2, 1, 0, 0, 0, 0), (108, .ifCond .ne 8, 3, 0, 0, 0, 0), (111, .iload 4, 2, 0, 0, 0, 0), (113, .goto 39, 3, 0, 0, 0, 0), (116, .iload_n 2, 1, 0, 0, 0, 0), (117, .iconst 1, 1, 0, 0, 0, 0), (118, .if_icmp .ne 16, 3, 0, 0, 0, 0), (121, .iload 5, 2, 0, 0, 0, 0), (123, .ifCond .eq 7, 3, 0, 0, 0, 0), (126, .iconst 1, 1, 0, 0, 0, 0), (127, .goto 25, 3, 0, 0, 0, 0), (130, .iconst 0, 1, 0, 0, 0, 0), (131, .goto 21, 3, 0, 0, 0, 0), (134, .iload_n 2, 1, 0, 0, 0, 0), (135, .iconst 2, 1, 0, 0, 0, 0), (136, .if_icmp .ne 11, 3, 0, 0, 0, 0), (139, .aload_n 0, 1, 0, 0, 0, 0), (140, .iload_n 1, 1, 0, 0, 0, 0), (141, .invokevirtual 204, 3, 4, 11, 1, 1369), (144, .goto 8, 3, 0, 0, 0, 0), (147, .aload_n 0, 1, 0, 0, 0, 0), (148, .iload_n 1, 1, 0, 0, 0, 0), (149, .invokevirtual 276, 3, 5, 11, 1, 1433), (152, .invokevirtual 249, 3, 6, 11, 1, 1206), (155, .ireturn, 1, 0, 0, 0, 0)]
set_option maxRecDepth 100000 in
set_option maxHeartbeats 4000000 in
theorem c_X11_half (l : Launch) (G : vg_G) (hp : vg_Hp G) : vg_Ct l G vg_sh r_X11_half := by
  refine vg_meth hp vg_sh_ok r_X11_half k_X11_half rfl (fun h => by cases h) o_X11_half [r_X11_isFrom, r_X11_refuse, r_X11_tapMany, r_X11_tapOf, r_X11_shiftOf, r_X11_unlikeNone, r_X11_gives] false (by decide +kernel) (by decide +kernel) ⟨_, _, rfl, rfl⟩ (List.forall_mem_cons.mpr ⟨⟨c_X11_isFrom l G hp, Nat.le_of_ble_eq_true rfl, Nat.le_of_ble_eq_true rfl⟩, List.forall_mem_cons.mpr ⟨⟨c_X11_refuse l G hp, Nat.le_of_ble_eq_true rfl, Nat.le_of_ble_eq_true rfl⟩, List.forall_mem_cons.mpr ⟨⟨c_X11_tapMany l G hp, Nat.le_of_ble_eq_true rfl, Nat.le_of_ble_eq_true rfl⟩, List.forall_mem_cons.mpr ⟨⟨c_X11_tapOf l G hp, Nat.le_of_ble_eq_true rfl, Nat.le_of_ble_eq_true rfl⟩, List.forall_mem_cons.mpr ⟨⟨c_X11_shiftOf l G hp, Nat.le_of_ble_eq_true rfl, Nat.le_of_ble_eq_true rfl⟩, List.forall_mem_cons.mpr ⟨⟨c_X11_unlikeNone l G hp, Nat.le_of_ble_eq_true rfl, Nat.le_of_ble_eq_true rfl⟩, List.forall_mem_cons.mpr ⟨⟨c_X11_gives l G hp, Nat.le_of_ble_eq_true rfl, Nat.le_of_ble_eq_true rfl⟩, fun _ h => absurd h List.not_mem_nil⟩⟩⟩⟩⟩⟩⟩) (fun h => by cases h) 600 ?_
  intro as s0 hpre
  obtain ⟨r, a1, a2, rfl, hr, i0⟩ := hpre
  simp only [List.mem_cons, List.not_mem_nil, or_false] at hr
  rcases hr with rfl
  ·
    have z0 : (Int32.ofInt 0).toInt = 0 := by decide
    have z1 : (Int32.ofInt 1).toInt = 1 := by decide
    have z2 : (Int32.ofInt 2).toInt = 2 := by decide
    have z3 : (Int32.ofInt 3).toInt = 3 := by decide
    refine ⟨Nat.le_of_ble_eq_true rfl, [(41, [true, true, true, true, true, true, true], (fun L t => ∃ (x3 : Int32) (x4 : Int32) (x5 : Int32) (x6 : Int32), L = [some (.ref 55), some (.int a1), some (.int a2), some (.int x3), some (.int x4), some (.int x5), some (.int x6)] ∧ (1 : Int) ≤ x3.toInt ∧ x3.toInt ≤ (5 : Int) ∧ (0 : Int) ≤ x6.toInt ∧ x6.toInt ≤ (11 : Int) ∧ (0 : Int) ≤ a1.toInt ∧ a1.toInt ≤ (3 : Int) ∧ (0 : Int) ≤ a2.toInt ∧ a2.toInt ≤ (3 : Int) ∧ (x4 = vg_rs (vg_tp (s0.1 61) a1) x6.toNatClampNeg ∧ x6.toInt ≤ (vg_tn a1 : Int) ∧ x3.toInt = (vg_tn a1 : Int) / 2 ∧ vg_hbr (vg_tp (s0.1 61) a1) x3.toInt x6.toInt x5) ∧ Iv t ∧ Kp s0 t ∧ vk t = ((vk s0).1, (vk s0).2)), (fun L _ => (0 + (11 - (vg_li L 6).toInt) * 1000000000000).toNat))], ?_, List.forall_mem_cons.mpr ⟨?_, fun _ h => absurd h List.not_mem_nil⟩⟩
    ·
      refine And.intro (Nat.le_of_ble_eq_true rfl) (And.intro ⟨a1, (Int32.ofInt 0), (Int32.ofInt 3), rfl, trivial⟩ ?_)
      intro v1 s3 h2
      have h2 : s3 = s0 ∧ ((v1.toInt = 1 ∧ (Int32.ofInt 0).toInt ≤ a1.toInt ∧ a1.toInt ≤ (Int32.ofInt 3).toInt) ∨ (v1.toInt = 0 ∧ (a1.toInt < (Int32.ofInt 0).toInt ∨ (Int32.ofInt 3).toInt < a1.toInt))) := h2
      have q6 := h2.1.symm
      subst q6
      have q7 := h2.2
      refine And.intro (fun c8 => ?_) (fun c8 => ?_)
      · have c8 : v1.toInt = 0 := c8
        refine And.intro (Nat.le_of_ble_eq_true rfl) (And.intro ⟨55, (Int32.ofInt 1), rfl, by decide, i0⟩ ?_)
        intro v9 s11 h10
        have h10 : Iv s11 ∧ Kp s0 s11 ∧ vk s11 = ((vk s0).1, (vk s0).2) ∧ (v9.toInt = -1) := h10
        have i12 := h10.1
        have k13 : Kp s0 s11 := Kx.tr Kx.rf (h10.2.1)
        have u14 : vk s11 = ((vk s0).1, (vk s0).2) := h10.2.2.1.trans rfl
        have q15 := h10.2.2.2
        show Iv s11 ∧ Kp s0 s11 ∧ vk s11 = ((vk s0).1, (vk s0).2) ∧ (((0 ≤ a1.toInt ∧ a1.toInt ≤ 3 ∧ 0 ≤ a2.toInt ∧ a2.toInt ≤ 3) ∧ ((a2.toInt = 0 ∧ (v9 = vg_rs (vg_tp (s0.1 61) a1) (vg_tn a1))) ∨ (a2.toInt = 1 ∧ (vg_hbr (vg_tp (s0.1 61) a1) ((vg_tn a1 : Int) / 2) (vg_tn a1 : Int) v9)) ∨ (a2.toInt = 2 ∧ ((a1.toInt = 0 ∧ v9.toInt = 2) ∨ (a1.toInt = 1 ∧ v9.toInt = 5) ∨ (a1.toInt = 2 ∧ v9.toInt = 9) ∨ (¬ a1.toInt = 0 ∧ ¬ a1.toInt = 1 ∧ ¬ a1.toInt = 2 ∧ v9.toInt = (s0.1 55 21).toInt))) ∨ (a2.toInt = 3 ∧ (v9 = vg_cnt (vg_tp (s0.1 61) a1) (vg_tn a1))))) ∨ (¬ (0 ≤ a1.toInt ∧ a1.toInt ≤ 3 ∧ 0 ≤ a2.toInt ∧ a2.toInt ≤ 3) ∧ v9.toInt = -1))
        exact ⟨i12, k13, u14, (by first | exact Or.inr ⟨by omega, by omega⟩ | exact Or.inl ⟨by omega, Or.inl ⟨by omega, by rw [q15.1]; exact vg_rs_to None.1 (by omega)⟩⟩ | exact Or.inl ⟨by omega, Or.inr (Or.inl ⟨by omega, vg_hbr_to None.2.2.2 (by omega) (by omega)⟩)⟩ | exact Or.inl ⟨by omega, Or.inr (Or.inr (Or.inl ⟨by omega, by omega⟩))⟩ | exact Or.inl ⟨by omega, Or.inr (Or.inr (Or.inr ⟨by omega, by rw [q15.1, ← yk]; exact y9⟩))⟩)⟩
      · have c8 : ¬ (v1.toInt = 0) := c8
        refine And.intro (Nat.le_of_ble_eq_true rfl) (And.intro ⟨a2, (Int32.ofInt 0), (Int32.ofInt 3), rfl, trivial⟩ ?_)
        intro v16 s18 h17
        have h17 : s18 = s0 ∧ ((v16.toInt = 1 ∧ (Int32.ofInt 0).toInt ≤ a2.toInt ∧ a2.toInt ≤ (Int32.ofInt 3).toInt) ∨ (v16.toInt = 0 ∧ (a2.toInt < (Int32.ofInt 0).toInt ∨ (Int32.ofInt 3).toInt < a2.toInt))) := h17
        have q21 := h17.1.symm
        subst q21
        have q22 := h17.2
        refine And.intro (fun c23 => ?_) (fun c23 => ?_)
        · have c23 : ¬ v16.toInt = 0 := c23
          refine And.intro (Nat.le_of_ble_eq_true rfl) (And.intro ⟨55, a1, rfl, by decide, i0⟩ ?_)
          intro v24 s26 h25
          have h25 : s26 = s0 ∧ (((a1.toInt = 0 ∧ v24.toInt = 3) ∨ (a1.toInt = 2 ∧ v24.toInt = 11) ∨ (¬ a1.toInt = 0 ∧ ¬ a1.toInt = 2 ∧ v24.toInt = 7)) ∧ v24.toInt = (vg_tn a1 : Int)) := h25
          have q29 := h25.1.symm
          subst q29
          have q30 := h25.2
          refine And.intro (by omega) ?_
          intro v31 e32
          have b33 : v31.toInt = v24.toInt / 2 := by have h9 := vg_div e32 (by omega) (by omega); rw [z2] at h9; exact h9
          exact ⟨rfl, ⟨v31, (Int32.ofInt 0), (Int32.ofInt 1), (Int32.ofInt 0), rfl, (by omega), (by omega), (by omega), (by omega), (by omega), (by omega), (by omega), (by omega), (by first | exact ⟨rfl, by omega, by omega, vg_hbr0⟩ | exact ⟨vg_rs_up y1 (by omega) (by omega), by omega, by omega, vg_hbs0 None.2.2.2 (by omega) (by omega)⟩ | exact ⟨vg_rs_up y1 (by omega) (by omega), by omega, by omega, vg_hbs2 y6 (by omega) (by omega) (by omega) (by omega) (by omega)⟩ | exact ⟨vg_rs_up y1 (by omega) (by omega), by omega, by omega, vg_hbs1 None.2.2.2 (by omega) (by omega) (by omega) (by first | exact Or.inl (by omega) | exact Or.inr (Or.inl (by omega)) | exact Or.inr (Or.inr (vg_hbt y6 (by omega))))⟩), i0, Kx.rf, rfl⟩, trivial⟩
        · have c23 : ¬ (¬ v16.toInt = 0) := c23
          refine And.intro (Nat.le_of_ble_eq_true rfl) (And.intro ⟨55, (Int32.ofInt 1), rfl, by decide, i0⟩ ?_)
          intro v34 s36 h35
          have h35 : Iv s36 ∧ Kp s0 s36 ∧ vk s36 = ((vk s0).1, (vk s0).2) ∧ (v34.toInt = -1) := h35
          have i37 := h35.1
          have k38 : Kp s0 s36 := Kx.tr Kx.rf (h35.2.1)
          have u39 : vk s36 = ((vk s0).1, (vk s0).2) := h35.2.2.1.trans rfl
          have q40 := h35.2.2.2
          show Iv s36 ∧ Kp s0 s36 ∧ vk s36 = ((vk s0).1, (vk s0).2) ∧ (((0 ≤ a1.toInt ∧ a1.toInt ≤ 3 ∧ 0 ≤ a2.toInt ∧ a2.toInt ≤ 3) ∧ ((a2.toInt = 0 ∧ (v34 = vg_rs (vg_tp (s0.1 61) a1) (vg_tn a1))) ∨ (a2.toInt = 1 ∧ (vg_hbr (vg_tp (s0.1 61) a1) ((vg_tn a1 : Int) / 2) (vg_tn a1 : Int) v34)) ∨ (a2.toInt = 2 ∧ ((a1.toInt = 0 ∧ v34.toInt = 2) ∨ (a1.toInt = 1 ∧ v34.toInt = 5) ∨ (a1.toInt = 2 ∧ v34.toInt = 9) ∨ (¬ a1.toInt = 0 ∧ ¬ a1.toInt = 1 ∧ ¬ a1.toInt = 2 ∧ v34.toInt = (s0.1 55 21).toInt))) ∨ (a2.toInt = 3 ∧ (v34 = vg_cnt (vg_tp (s0.1 61) a1) (vg_tn a1))))) ∨ (¬ (0 ≤ a1.toInt ∧ a1.toInt ≤ 3 ∧ 0 ≤ a2.toInt ∧ a2.toInt ≤ 3) ∧ v34.toInt = -1))
          exact ⟨i37, k38, u39, (by first | exact Or.inr ⟨by omega, by omega⟩ | exact Or.inl ⟨by omega, Or.inl ⟨by omega, by rw [q40.1]; exact vg_rs_to None.1 (by omega)⟩⟩ | exact Or.inl ⟨by omega, Or.inr (Or.inl ⟨by omega, vg_hbr_to None.2.2.2 (by omega) (by omega)⟩)⟩ | exact Or.inl ⟨by omega, Or.inr (Or.inr (Or.inl ⟨by omega, by omega⟩))⟩ | exact Or.inl ⟨by omega, Or.inr (Or.inr (Or.inr ⟨by omega, by rw [q40.1, ← yk]; exact y9⟩))⟩)⟩
    ·
      intro L s54 hL
      obtain ⟨w41, w44, w45, w46, rfl, b42, b43, b47, b48, b49, b50, b51, b52, x53, i55, k56, u57⟩ := hL
      have yk : s54.1 61 = s0.1 61 := funext (fun j => k56.1 61 j rfl)
      have y5 := congrArg Int32.toInt (k56.1 55 21 rfl)
      refine And.intro (Nat.le_of_ble_eq_true rfl) (And.intro ⟨55, a1, rfl, by decide, i55⟩ ?_)
      intro v58 s60 h59
      have h59 : s60 = s54 ∧ (((a1.toInt = 0 ∧ v58.toInt = 3) ∨ (a1.toInt = 2 ∧ v58.toInt = 11) ∨ (¬ a1.toInt = 0 ∧ ¬ a1.toInt = 2 ∧ v58.toInt = 7)) ∧ v58.toInt = (vg_tn a1 : Int)) := h59
      have q63 := h59.1.symm
      subst q63
      have q64 := h59.2
      refine And.intro (fun c65 => ?_) (fun c65 => ?_)
      · have c65 : v58.toInt ≤ w46.toInt := c65
        refine And.intro (fun c66 => ?_) (fun c66 => ?_)
        · have c66 : ¬ a2.toInt = 0 := c66
          refine And.intro (fun c67 => ?_) (fun c67 => ?_)
          · have c67 : ¬ a2.toInt = (Int32.ofInt 1).toInt := c67
            refine And.intro (fun c68 => ?_) (fun c68 => ?_)
            · have c68 : ¬ a2.toInt = (Int32.ofInt 2).toInt := c68
              refine And.intro (Nat.le_of_ble_eq_true rfl) (And.intro ⟨55, a1, rfl, by decide, i55⟩ ?_)
              intro v69 s71 h70
              have h70 : s71 = s54 ∧ (v69 = vg_cnt (vg_tp (s54.1 61) a1) (vg_tn a1)) := h70
              have q74 := h70.1.symm
              subst q74
              have q75 := h70.2
              have y9 := q75
              refine And.intro (Nat.le_of_ble_eq_true rfl) (And.intro ⟨55, v69, rfl, by decide, i55⟩ ?_)
              intro v76 s78 h77
              have h77 : Iv s78 ∧ Kp s54 s78 ∧ vk s78 = ((vk s54).1, (vk s54).2) ∧ (v76 = v69 ∧ v76.toInt = v69.toInt) := h77
              have i79 := h77.1
              have k80 : Kp s0 s78 := Kx.tr k56 (h77.2.1)
              have u81 : vk s78 = ((vk s0).1, (vk s0).2) := h77.2.2.1.trans u57
              have q82 := h77.2.2.2
              show Iv s78 ∧ Kp s0 s78 ∧ vk s78 = ((vk s0).1, (vk s0).2) ∧ (((0 ≤ a1.toInt ∧ a1.toInt ≤ 3 ∧ 0 ≤ a2.toInt ∧ a2.toInt ≤ 3) ∧ ((a2.toInt = 0 ∧ (v76 = vg_rs (vg_tp (s0.1 61) a1) (vg_tn a1))) ∨ (a2.toInt = 1 ∧ (vg_hbr (vg_tp (s0.1 61) a1) ((vg_tn a1 : Int) / 2) (vg_tn a1 : Int) v76)) ∨ (a2.toInt = 2 ∧ ((a1.toInt = 0 ∧ v76.toInt = 2) ∨ (a1.toInt = 1 ∧ v76.toInt = 5) ∨ (a1.toInt = 2 ∧ v76.toInt = 9) ∨ (¬ a1.toInt = 0 ∧ ¬ a1.toInt = 1 ∧ ¬ a1.toInt = 2 ∧ v76.toInt = (s0.1 55 21).toInt))) ∨ (a2.toInt = 3 ∧ (v76 = vg_cnt (vg_tp (s0.1 61) a1) (vg_tn a1))))) ∨ (¬ (0 ≤ a1.toInt ∧ a1.toInt ≤ 3 ∧ 0 ≤ a2.toInt ∧ a2.toInt ≤ 3) ∧ v76.toInt = -1))
              exact ⟨i79, k80, u81, (by first | exact Or.inr ⟨by omega, by omega⟩ | exact Or.inl ⟨by omega, Or.inl ⟨by omega, by rw [q82.1]; exact vg_rs_to x53.1 (by omega)⟩⟩ | exact Or.inl ⟨by omega, Or.inr (Or.inl ⟨by omega, vg_hbr_to x53.2.2.2 (by omega) (by omega)⟩)⟩ | exact Or.inl ⟨by omega, Or.inr (Or.inr (Or.inl ⟨by omega, by omega⟩))⟩ | exact Or.inl ⟨by omega, Or.inr (Or.inr (Or.inr ⟨by omega, by rw [q82.1, ← yk]; exact y9⟩))⟩)⟩
            · have c68 : ¬ (¬ a2.toInt = (Int32.ofInt 2).toInt) := c68
              refine And.intro (Nat.le_of_ble_eq_true rfl) (And.intro ⟨55, a1, rfl, by decide, i55⟩ ?_)
              intro v83 s85 h84
              have h84 : s85 = s54 ∧ ((a1.toInt = 0 ∧ v83.toInt = 2) ∨ (a1.toInt = 1 ∧ v83.toInt = 5) ∨ (a1.toInt = 2 ∧ v83.toInt = 9) ∨ (¬ a1.toInt = 0 ∧ ¬ a1.toInt = 1 ∧ ¬ a1.toInt = 2 ∧ v83.toInt = (s54.1 55 21).toInt)) := h84
              have q88 := h84.1.symm
              subst q88
              have q89 := h84.2
              have y9 := q89
              refine And.intro (Nat.le_of_ble_eq_true rfl) (And.intro ⟨55, v83, rfl, by decide, i55⟩ ?_)
              intro v90 s92 h91
              have h91 : Iv s92 ∧ Kp s54 s92 ∧ vk s92 = ((vk s54).1, (vk s54).2) ∧ (v90 = v83 ∧ v90.toInt = v83.toInt) := h91
              have i93 := h91.1
              have k94 : Kp s0 s92 := Kx.tr k56 (h91.2.1)
              have u95 : vk s92 = ((vk s0).1, (vk s0).2) := h91.2.2.1.trans u57
              have q96 := h91.2.2.2
              show Iv s92 ∧ Kp s0 s92 ∧ vk s92 = ((vk s0).1, (vk s0).2) ∧ (((0 ≤ a1.toInt ∧ a1.toInt ≤ 3 ∧ 0 ≤ a2.toInt ∧ a2.toInt ≤ 3) ∧ ((a2.toInt = 0 ∧ (v90 = vg_rs (vg_tp (s0.1 61) a1) (vg_tn a1))) ∨ (a2.toInt = 1 ∧ (vg_hbr (vg_tp (s0.1 61) a1) ((vg_tn a1 : Int) / 2) (vg_tn a1 : Int) v90)) ∨ (a2.toInt = 2 ∧ ((a1.toInt = 0 ∧ v90.toInt = 2) ∨ (a1.toInt = 1 ∧ v90.toInt = 5) ∨ (a1.toInt = 2 ∧ v90.toInt = 9) ∨ (¬ a1.toInt = 0 ∧ ¬ a1.toInt = 1 ∧ ¬ a1.toInt = 2 ∧ v90.toInt = (s0.1 55 21).toInt))) ∨ (a2.toInt = 3 ∧ (v90 = vg_cnt (vg_tp (s0.1 61) a1) (vg_tn a1))))) ∨ (¬ (0 ≤ a1.toInt ∧ a1.toInt ≤ 3 ∧ 0 ≤ a2.toInt ∧ a2.toInt ≤ 3) ∧ v90.toInt = -1))
              exact ⟨i93, k94, u95, (by first | exact Or.inr ⟨by omega, by omega⟩ | exact Or.inl ⟨by omega, Or.inl ⟨by omega, by rw [q96.1]; exact vg_rs_to x53.1 (by omega)⟩⟩ | exact Or.inl ⟨by omega, Or.inr (Or.inl ⟨by omega, vg_hbr_to x53.2.2.2 (by omega) (by omega)⟩)⟩ | exact Or.inl ⟨by omega, Or.inr (Or.inr (Or.inl ⟨by omega, by omega⟩))⟩ | exact Or.inl ⟨by omega, Or.inr (Or.inr (Or.inr ⟨by omega, by rw [q96.1, ← yk]; exact y9⟩))⟩)⟩
          · have c67 : ¬ (¬ a2.toInt = (Int32.ofInt 1).toInt) := c67
            refine And.intro (fun c97 => ?_) (fun c97 => ?_)
            · have c97 : w45.toInt = 0 := c97
              have y9 := q64
              refine And.intro (Nat.le_of_ble_eq_true rfl) (And.intro ⟨55, (Int32.ofInt 0), rfl, by decide, i55⟩ ?_)
              intro v98 s100 h99
              have h99 : Iv s100 ∧ Kp s54 s100 ∧ vk s100 = ((vk s54).1, (vk s54).2) ∧ (v98 = (Int32.ofInt 0) ∧ v98.toInt = (Int32.ofInt 0).toInt) := h99
              have i101 := h99.1
              have k102 : Kp s0 s100 := Kx.tr k56 (h99.2.1)
              have u103 : vk s100 = ((vk s0).1, (vk s0).2) := h99.2.2.1.trans u57
              have q104 := h99.2.2.2
              show Iv s100 ∧ Kp s0 s100 ∧ vk s100 = ((vk s0).1, (vk s0).2) ∧ (((0 ≤ a1.toInt ∧ a1.toInt ≤ 3 ∧ 0 ≤ a2.toInt ∧ a2.toInt ≤ 3) ∧ ((a2.toInt = 0 ∧ (v98 = vg_rs (vg_tp (s0.1 61) a1) (vg_tn a1))) ∨ (a2.toInt = 1 ∧ (vg_hbr (vg_tp (s0.1 61) a1) ((vg_tn a1 : Int) / 2) (vg_tn a1 : Int) v98)) ∨ (a2.toInt = 2 ∧ ((a1.toInt = 0 ∧ v98.toInt = 2) ∨ (a1.toInt = 1 ∧ v98.toInt = 5) ∨ (a1.toInt = 2 ∧ v98.toInt = 9) ∨ (¬ a1.toInt = 0 ∧ ¬ a1.toInt = 1 ∧ ¬ a1.toInt = 2 ∧ v98.toInt = (s0.1 55 21).toInt))) ∨ (a2.toInt = 3 ∧ (v98 = vg_cnt (vg_tp (s0.1 61) a1) (vg_tn a1))))) ∨ (¬ (0 ≤ a1.toInt ∧ a1.toInt ≤ 3 ∧ 0 ≤ a2.toInt ∧ a2.toInt ≤ 3) ∧ v98.toInt = -1))
              exact ⟨i101, k102, u103, (by first | exact Or.inr ⟨by omega, by omega⟩ | exact Or.inl ⟨by omega, Or.inl ⟨by omega, by rw [q104.1]; exact vg_rs_to x53.1 (by omega)⟩⟩ | exact Or.inl ⟨by omega, Or.inr (Or.inl ⟨by omega, vg_hbr_to x53.2.2.2 (by omega) (by omega)⟩)⟩ | exact Or.inl ⟨by omega, Or.inr (Or.inr (Or.inl ⟨by omega, by omega⟩))⟩ | exact Or.inl ⟨by omega, Or.inr (Or.inr (Or.inr ⟨by omega, by rw [q104.1, ← yk]; exact y9⟩))⟩)⟩
            · have c97 : ¬ (w45.toInt = 0) := c97
              have y9 := q64
              refine And.intro (Nat.le_of_ble_eq_true rfl) (And.intro ⟨55, (Int32.ofInt 1), rfl, by decide, i55⟩ ?_)
              intro v105 s107 h106
              have h106 : Iv s107 ∧ Kp s54 s107 ∧ vk s107 = ((vk s54).1, (vk s54).2) ∧ (v105 = (Int32.ofInt 1) ∧ v105.toInt = (Int32.ofInt 1).toInt) := h106
              have i108 := h106.1
              have k109 : Kp s0 s107 := Kx.tr k56 (h106.2.1)
              have u110 : vk s107 = ((vk s0).1, (vk s0).2) := h106.2.2.1.trans u57
              have q111 := h106.2.2.2
              show Iv s107 ∧ Kp s0 s107 ∧ vk s107 = ((vk s0).1, (vk s0).2) ∧ (((0 ≤ a1.toInt ∧ a1.toInt ≤ 3 ∧ 0 ≤ a2.toInt ∧ a2.toInt ≤ 3) ∧ ((a2.toInt = 0 ∧ (v105 = vg_rs (vg_tp (s0.1 61) a1) (vg_tn a1))) ∨ (a2.toInt = 1 ∧ (vg_hbr (vg_tp (s0.1 61) a1) ((vg_tn a1 : Int) / 2) (vg_tn a1 : Int) v105)) ∨ (a2.toInt = 2 ∧ ((a1.toInt = 0 ∧ v105.toInt = 2) ∨ (a1.toInt = 1 ∧ v105.toInt = 5) ∨ (a1.toInt = 2 ∧ v105.toInt = 9) ∨ (¬ a1.toInt = 0 ∧ ¬ a1.toInt = 1 ∧ ¬ a1.toInt = 2 ∧ v105.toInt = (s0.1 55 21).toInt))) ∨ (a2.toInt = 3 ∧ (v105 = vg_cnt (vg_tp (s0.1 61) a1) (vg_tn a1))))) ∨ (¬ (0 ≤ a1.toInt ∧ a1.toInt ≤ 3 ∧ 0 ≤ a2.toInt ∧ a2.toInt ≤ 3) ∧ v105.toInt = -1))
              exact ⟨i108, k109, u110, (by first | exact Or.inr ⟨by omega, by omega⟩ | exact Or.inl ⟨by omega, Or.inl ⟨by omega, by rw [q111.1]; exact vg_rs_to x53.1 (by omega)⟩⟩ | exact Or.inl ⟨by omega, Or.inr (Or.inl ⟨by omega, vg_hbr_to x53.2.2.2 (by omega) (by omega)⟩)⟩ | exact Or.inl ⟨by omega, Or.inr (Or.inr (Or.inl ⟨by omega, by omega⟩))⟩ | exact Or.inl ⟨by omega, Or.inr (Or.inr (Or.inr ⟨by omega, by rw [q111.1, ← yk]; exact y9⟩))⟩)⟩
        · have c66 : ¬ (¬ a2.toInt = 0) := c66
          have y9 := q64
          refine And.intro (Nat.le_of_ble_eq_true rfl) (And.intro ⟨55, w44, rfl, by decide, i55⟩ ?_)
          intro v112 s114 h113
          have h113 : Iv s114 ∧ Kp s54 s114 ∧ vk s114 = ((vk s54).1, (vk s54).2) ∧ (v112 = w44 ∧ v112.toInt = w44.toInt) := h113
          have i115 := h113.1
          have k116 : Kp s0 s114 := Kx.tr k56 (h113.2.1)
          have u117 : vk s114 = ((vk s0).1, (vk s0).2) := h113.2.2.1.trans u57
          have q118 := h113.2.2.2
          show Iv s114 ∧ Kp s0 s114 ∧ vk s114 = ((vk s0).1, (vk s0).2) ∧ (((0 ≤ a1.toInt ∧ a1.toInt ≤ 3 ∧ 0 ≤ a2.toInt ∧ a2.toInt ≤ 3) ∧ ((a2.toInt = 0 ∧ (v112 = vg_rs (vg_tp (s0.1 61) a1) (vg_tn a1))) ∨ (a2.toInt = 1 ∧ (vg_hbr (vg_tp (s0.1 61) a1) ((vg_tn a1 : Int) / 2) (vg_tn a1 : Int) v112)) ∨ (a2.toInt = 2 ∧ ((a1.toInt = 0 ∧ v112.toInt = 2) ∨ (a1.toInt = 1 ∧ v112.toInt = 5) ∨ (a1.toInt = 2 ∧ v112.toInt = 9) ∨ (¬ a1.toInt = 0 ∧ ¬ a1.toInt = 1 ∧ ¬ a1.toInt = 2 ∧ v112.toInt = (s0.1 55 21).toInt))) ∨ (a2.toInt = 3 ∧ (v112 = vg_cnt (vg_tp (s0.1 61) a1) (vg_tn a1))))) ∨ (¬ (0 ≤ a1.toInt ∧ a1.toInt ≤ 3 ∧ 0 ≤ a2.toInt ∧ a2.toInt ≤ 3) ∧ v112.toInt = -1))
          exact ⟨i115, k116, u117, (by first | exact Or.inr ⟨by omega, by omega⟩ | exact Or.inl ⟨by omega, Or.inl ⟨by omega, by rw [q118.1]; exact vg_rs_to x53.1 (by omega)⟩⟩ | exact Or.inl ⟨by omega, Or.inr (Or.inl ⟨by omega, vg_hbr_to x53.2.2.2 (by omega) (by omega)⟩)⟩ | exact Or.inl ⟨by omega, Or.inr (Or.inr (Or.inl ⟨by omega, by omega⟩))⟩ | exact Or.inl ⟨by omega, Or.inr (Or.inr (Or.inr ⟨by omega, by rw [q118.1, ← yk]; exact y9⟩))⟩)⟩
      · have c65 : ¬ (v58.toInt ≤ w46.toInt) := c65
        refine And.intro (Nat.le_of_ble_eq_true rfl) (And.intro ⟨55, a1, w46, rfl, by decide, i55, by omega⟩ ?_)
        intro v119 s121 h120
        have h120 : s121 = s54 ∧ (v119 = vg_tp (s54.1 61) a1 w46.toNatClampNeg) := h120
        have q124 := h120.1.symm
        subst q124
        have q125 := h120.2
        intro v126 e127
        have y1 := vg_rs_nx x53.1 (by rw [← yk]; exact q125) e127
        refine And.intro (fun c128 => ?_) (fun c128 => ?_)
        · have c128 : w45.toInt = 0 := c128
          intro v129 e130
          have b131 := vg_add e130 (by omega) (by omega)
          exact ⟨rfl, ⟨w41, v126, (Int32.ofInt 0), v129, rfl, (by omega), (by omega), (by omega), (by omega), (by omega), (by omega), (by omega), (by omega), (by first | exact ⟨rfl, by omega, by omega, vg_hbr0⟩ | exact ⟨vg_rs_up y1 (by omega) (by omega), by omega, by omega, vg_hbs0 x53.2.2.2 (by omega) (by omega)⟩ | exact ⟨vg_rs_up y1 (by omega) (by omega), by omega, by omega, vg_hbs2 y6 (by omega) (by omega) (by omega) (by omega) (by omega)⟩ | exact ⟨vg_rs_up y1 (by omega) (by omega), by omega, by omega, vg_hbs1 x53.2.2.2 (by omega) (by omega) (by omega) (by first | exact Or.inl (by omega) | exact Or.inr (Or.inl (by omega)) | exact Or.inr (Or.inr (vg_hbt y6 (by omega))))⟩), i55, k56, u57⟩, (by show (0 + (11 - v129.toInt) * 1000000000000).toNat < (0 + (11 - w46.toInt) * 1000000000000).toNat; omega)⟩
        · have c128 : ¬ (w45.toInt = 0) := c128
          refine And.intro (fun c132 => ?_) (fun c132 => ?_)
          · have c132 : w46.toInt = w41.toInt := c132
            intro v133 e134
            have b135 := vg_add e134 (by omega) (by omega)
            exact ⟨rfl, ⟨w41, v126, (Int32.ofInt 1), v133, rfl, (by omega), (by omega), (by omega), (by omega), (by omega), (by omega), (by omega), (by omega), (by first | exact ⟨rfl, by omega, by omega, vg_hbr0⟩ | exact ⟨vg_rs_up y1 (by omega) (by omega), by omega, by omega, vg_hbs0 x53.2.2.2 (by omega) (by omega)⟩ | exact ⟨vg_rs_up y1 (by omega) (by omega), by omega, by omega, vg_hbs2 y6 (by omega) (by omega) (by omega) (by omega) (by omega)⟩ | exact ⟨vg_rs_up y1 (by omega) (by omega), by omega, by omega, vg_hbs1 x53.2.2.2 (by omega) (by omega) (by omega) (by first | exact Or.inl (by omega) | exact Or.inr (Or.inl (by omega)) | exact Or.inr (Or.inr (vg_hbt y6 (by omega))))⟩), i55, k56, u57⟩, (by show (0 + (11 - v133.toInt) * 1000000000000).toNat < (0 + (11 - w46.toInt) * 1000000000000).toNat; omega)⟩
          · have c132 : ¬ (w46.toInt = w41.toInt) := c132
            intro v136 e137
            have b138 := vg_sub e137 (by omega) (by omega)
            refine And.intro (by omega) ?_
            intro v139 e140
            have b141 := vg_remx e140 (by omega)
            have y2 := vg_par e140 (by omega) (by omega)
            refine And.intro (fun c142 => ?_) (fun c142 => ?_)
            · have c142 : ¬ v139.toInt = 0 := c142
              intro v143 e144
              have b145 := vg_add e144 (by omega) (by omega)
              exact ⟨rfl, ⟨w41, v126, (Int32.ofInt 1), v143, rfl, (by omega), (by omega), (by omega), (by omega), (by omega), (by omega), (by omega), (by omega), (by first | exact ⟨rfl, by omega, by omega, vg_hbr0⟩ | exact ⟨vg_rs_up y1 (by omega) (by omega), by omega, by omega, vg_hbs0 x53.2.2.2 (by omega) (by omega)⟩ | exact ⟨vg_rs_up y1 (by omega) (by omega), by omega, by omega, vg_hbs2 y6 (by omega) (by omega) (by omega) (by omega) (by omega)⟩ | exact ⟨vg_rs_up y1 (by omega) (by omega), by omega, by omega, vg_hbs1 x53.2.2.2 (by omega) (by omega) (by omega) (by first | exact Or.inl (by omega) | exact Or.inr (Or.inl (by omega)) | exact Or.inr (Or.inr (vg_hbt y6 (by omega))))⟩), i55, k56, u57⟩, (by show (0 + (11 - v143.toInt) * 1000000000000).toNat < (0 + (11 - w46.toInt) * 1000000000000).toNat; omega)⟩
            · have c142 : ¬ (¬ v139.toInt = 0) := c142
              refine And.intro (Nat.le_of_ble_eq_true rfl) (And.intro ⟨55, a1, w46, rfl, by decide, i55, by omega⟩ ?_)
              intro v146 s148 h147
              have h147 : s148 = s54 ∧ (v146 = vg_tp (s54.1 61) a1 w46.toNatClampNeg) := h147
              have q151 := h147.1.symm
              subst q151
              have q152 := h147.2
              have y6 : v146 = vg_tp (s0.1 61) a1 w46.toNatClampNeg := by rw [← yk]; exact q152
              refine And.intro (fun c153 => ?_) (fun c153 => ?_)
              · have c153 : ¬ v146.toInt = 0 := c153
                intro v154 e155
                have b156 := vg_add e155 (by omega) (by omega)
                exact ⟨rfl, ⟨w41, v126, (Int32.ofInt 0), v154, rfl, (by omega), (by omega), (by omega), (by omega), (by omega), (by omega), (by omega), (by omega), (by first | exact ⟨rfl, by omega, by omega, vg_hbr0⟩ | exact ⟨vg_rs_up y1 (by omega) (by omega), by omega, by omega, vg_hbs0 x53.2.2.2 (by omega) (by omega)⟩ | exact ⟨vg_rs_up y1 (by omega) (by omega), by omega, by omega, vg_hbs2 y6 (by omega) (by omega) (by omega) (by omega) (by omega)⟩ | exact ⟨vg_rs_up y1 (by omega) (by omega), by omega, by omega, vg_hbs1 x53.2.2.2 (by omega) (by omega) (by omega) (by first | exact Or.inl (by omega) | exact Or.inr (Or.inl (by omega)) | exact Or.inr (Or.inr (vg_hbt y6 (by omega))))⟩), i55, k56, u57⟩, (by show (0 + (11 - v154.toInt) * 1000000000000).toNat < (0 + (11 - w46.toInt) * 1000000000000).toNat; omega)⟩
              · have c153 : ¬ (¬ v146.toInt = 0) := c153
                intro v157 e158
                have b159 := vg_add e158 (by omega) (by omega)
                exact ⟨rfl, ⟨w41, v126, (Int32.ofInt 1), v157, rfl, (by omega), (by omega), (by omega), (by omega), (by omega), (by omega), (by omega), (by omega), (by first | exact ⟨rfl, by omega, by omega, vg_hbr0⟩ | exact ⟨vg_rs_up y1 (by omega) (by omega), by omega, by omega, vg_hbs0 x53.2.2.2 (by omega) (by omega)⟩ | exact ⟨vg_rs_up y1 (by omega) (by omega), by omega, by omega, vg_hbs2 y6 (by omega) (by omega) (by omega) (by omega) (by omega)⟩ | exact ⟨vg_rs_up y1 (by omega) (by omega), by omega, by omega, vg_hbs1 x53.2.2.2 (by omega) (by omega) (by omega) (by first | exact Or.inl (by omega) | exact Or.inr (Or.inl (by omega)) | exact Or.inr (Or.inr (vg_hbt y6 (by omega))))⟩), i55, k56, u57⟩, (by show (0 + (11 - v157.toInt) * 1000000000000).toNat < (0 + (11 - w46.toInt) * 1000000000000).toNat; omega)⟩
def o_X11_beatOf : List vg_I := [(0, .aload_n 0, 1, 0, 0, 0, 0), (1, .iload_n 1, 1, 0, 0, 0, 0), (2, .invokevirtual 267, 3, 0, 11, 1, 1381), (5, .istore_n 3, 1, 0, 0, 0, 0), (6, .lconst 0, 1, 0, 0, 0, 0), (7, .lstore 4, 2, 0, 0, 0, 0), (9, .lconst 0, 1, 0, 0, 0, 0), (10, .lstore 6, 2, 0, 0, 0, 0), (12, .iconst 0, 1, 0, 0, 0, 0), (13, .istore 8, 2, 0, 0, 0, 0), (15, .iload 8, 2, 0, 0, 0, 0), (17, .iload_n 3, 1, 0, 0, 0, 0), (18, .if_icmp .ge 21, 3, 0, 0, 0, 0), (21, .lload 4, 2, 0, 0, 0, 0), (23, .aload_n 0, 1, 0, 0, 0, 0), (24, .iload_n 1, 1, 0, 0, 0, 0), (25, .iload 8, 2, 0, 0, 0, 0), (27, .invokevirtual 231, 3, 1, 11, 2, 1353), (30, .ladd, 1, 0, 0, 0, 0), (31, .lstore 4, 2, 0, 0, 0, 0), (33, .iinc 8 1, 3, 0, 0, 0, 0), (36, .goto (-21), 3, 0, 0, 0, 0), (39, .iconst 0, 1, 0, 0, 0, 0), (40, .istore 8, 2, 0, 0, 0, 0), (42, .iload 8, 2, 0, 0, 0, 0), (44, .iload_n 2, 1, 0, 0, 0, 0), (45, .iadd, 1, 0, 0, 0, 0), (46, .iload_n 3, 1, 0, 0, 0, 0), (47, .if_icmp .ge 43, 3, 0, 0, 0, 0), (50, .lload 6, 2, 0, 0, 0, 0), (52, .iload_n 3, 1, 0, 0, 0, 0), (53, .i2l, 1, 0, 0, 0, 0), (54, .aload_n 0, 1, 0, 0, 0, 0), (55, .iload_n 1, 1, 0, 0, 0, 0), (56, .iload 8, 2, 0, 0, 0, 0), (58, .invokevirtual 231, 3, 1, 11, 2, 1353), (61, .lmul, 1, 0, 0, 0, 0), (62, .lload 4, 2, 0, 0, 0, 0), (64, .lsub, 1, 0, 0, 0, 0), (65, .iload_n 3, 1, 0, 0, 0, 0), (66, .i2l, 1, 0, 0, 0, 0), (67, .aload_n 0, 1, 0, 0, 0, 0), (68, .iload_n 1, 1, 0, 0, 0, 0), (69, .iload 8, 2, 0, 0, 0, 0), (71, .iload_n 2, 1, 0, 0, 0, 0), (72, .iadd, 1, 0, 0, 0, 0), (73, .invokevirtual 231, 3, 1, 11, 2, 1353), (76, .lmul, 1, 0, 0, 0, 0), (77, .lload 4, 2, 0, 0, 0, 0), (79, .lsub, 1, 0, 0, 0, 0), (80, .lmul, 1, 0, 0, 0, 0), (81, .ladd, 1, 0, 0, 0, 0), (82, .lstore 6, 2, 0, 0, 0, 0), (84, .iinc 8 1, 3, 0, 0, 0, 0), (87, .goto (-45), 3, 0, 0, 0, 0), (90, .lload 6, 2, 0, 0, 0, 0), (92, .lreturn, 1, 0, 0, 0, 0)]
set_option maxRecDepth 100000 in
set_option maxHeartbeats 4000000 in
theorem c_X11_beatOf (l : Launch) (G : vg_G) (hp : vg_Hp G) : vg_Ct l G vg_sh r_X11_beatOf := by
  refine vg_meth hp vg_sh_ok r_X11_beatOf k_X11_beatOf rfl (fun h => by cases h) o_X11_beatOf [r_X11_many, r_X11_latestOf] false (by decide +kernel) (by decide +kernel) ⟨_, _, rfl, rfl⟩ (List.forall_mem_cons.mpr ⟨⟨c_X11_many l G hp, Nat.le_of_ble_eq_true rfl, Nat.le_of_ble_eq_true rfl⟩, List.forall_mem_cons.mpr ⟨⟨c_X11_latestOf l G hp, Nat.le_of_ble_eq_true rfl, Nat.le_of_ble_eq_true rfl⟩, fun _ h => absurd h List.not_mem_nil⟩⟩) (fun h => by cases h) 600 ?_
  intro as s0 hpre
  obtain ⟨r, a1, a2, rfl, hr, i0, p0⟩ := hpre
  simp only [List.mem_cons, List.not_mem_nil, or_false] at hr
  rcases hr with rfl
  ·
    have z0 : (Int32.ofInt 0).toInt = 0 := by decide
    have z1 : (Int32.ofInt 1).toInt = 1 := by decide
    refine ⟨Nat.le_of_ble_eq_true rfl, [(15, [true, true, true, true, true, false, true, false, true], (fun L t => ∃ (x3 : Int32) (x4 : Int64) (x6 : Int64) (x8 : Int32), L = [some (.ref 55), some (.int a1), some (.int a2), some (.int x3), some (.long x4), none, some (.long x6), none, some (.int x8)] ∧ x3.toInt ≤ (48 : Int) ∧ (0 : Int) ≤ x8.toInt ∧ x8.toInt ≤ (48 : Int) ∧ t = s0), (fun L _ => (10000000000000000 + (48 - (vg_li L 8).toInt) * 1000000000000).toNat)), (42, [true, true, true, true, true, false, true, false, true], (fun L t => ∃ (x3 : Int32) (x4 : Int64) (x6 : Int64) (x8 : Int32), L = [some (.ref 55), some (.int a1), some (.int a2), some (.int x3), some (.long x4), none, some (.long x6), none, some (.int x8)] ∧ x3.toInt ≤ (48 : Int) ∧ (0 : Int) ≤ x8.toInt ∧ x8.toInt ≤ (48 : Int) ∧ t = s0), (fun L _ => (48 - (vg_li L 8).toInt).toNat))], ?_, List.forall_mem_cons.mpr ⟨?_, List.forall_mem_cons.mpr ⟨?_, fun _ h => absurd h List.not_mem_nil⟩⟩⟩
    ·
      refine And.intro (Nat.le_of_ble_eq_true rfl) (And.intro ⟨55, a1, rfl, by decide, i0, by omega⟩ ?_)
      intro v1 s3 h2
      have h2 : s3 = s0 ∧ (v1.toInt ≤ 48) := h2
      have q6 := h2.1.symm
      subst q6
      have q7 := h2.2
      exact ⟨rfl, ⟨v1, (Int64.ofNat 0), (Int64.ofNat 0), (Int32.ofInt 0), rfl, (by omega), (by omega), (by omega), rfl⟩, trivial⟩
    ·
      intro L s15 hL
      obtain ⟨w8, w10, w11, w12, rfl, b9, b13, b14, q18⟩ := hL
      have q18 := q18.symm
      subst q18
      refine And.intro (fun c19 => ?_) (fun c19 => ?_)
      · have c19 : w8.toInt ≤ w12.toInt := c19
        exact ⟨rfl, ⟨w8, w10, w11, (Int32.ofInt 0), rfl, (by omega), (by omega), (by omega), rfl⟩, (by show (48 - (Int32.ofInt 0).toInt).toNat < (10000000000000000 + (48 - w12.toInt) * 1000000000000).toNat; omega)⟩
      · have c19 : ¬ (w8.toInt ≤ w12.toInt) := c19
        refine And.intro (Nat.le_of_ble_eq_true rfl) (And.intro ⟨55, a1, w12, rfl, by decide, i0, by omega⟩ ?_)
        intro v20 s22 h21
        have h21 : s22 = s0 ∧ (True) := h21
        have q25 := h21.1.symm
        subst q25
        intro v26 e27
        intro v28 e29
        have b30 := vg_add e29 (by omega) (by omega)
        exact ⟨rfl, ⟨w8, v26, w11, v28, rfl, (by omega), (by omega), (by omega), rfl⟩, (by show (10000000000000000 + (48 - v28.toInt) * 1000000000000).toNat < (10000000000000000 + (48 - w12.toInt) * 1000000000000).toNat; omega)⟩
    ·
      intro L s38 hL
      obtain ⟨w31, w33, w34, w35, rfl, b32, b36, b37, q41⟩ := hL
      have q41 := q41.symm
      subst q41
      intro v42 e43
      have b44 := vg_add e43 (by omega) (by omega)
      refine And.intro (fun c45 => ?_) (fun c45 => ?_)
      · have c45 : w31.toInt ≤ v42.toInt := c45
        show s0 = s0 ∧ (True)
        exact ⟨rfl, (trivial)⟩
      · have c45 : ¬ (w31.toInt ≤ v42.toInt) := c45
        intro v46 e47
        have b48 := vg_i2l e47
        refine And.intro (Nat.le_of_ble_eq_true rfl) (And.intro ⟨55, a1, w35, rfl, by decide, i0, by omega⟩ ?_)
        intro v49 s51 h50
        have h50 : s51 = s0 ∧ (True) := h50
        have q54 := h50.1.symm
        subst q54
        intro v55 e56
        intro v57 e58
        intro v59 e60
        have b61 := vg_i2l e60
        intro v62 e63
        have b64 := vg_add e63 (by omega) (by omega)
        refine And.intro (Nat.le_of_ble_eq_true rfl) (And.intro ⟨55, a1, v62, rfl, by decide, i0, by omega⟩ ?_)
        intro v65 s67 h66
        have h66 : s67 = s0 ∧ (True) := h66
        have q70 := h66.1.symm
        subst q70
        intro v71 e72
        intro v73 e74
        intro v75 e76
        intro v77 e78
        intro v79 e80
        have b81 := vg_add e80 (by omega) (by omega)
        exact ⟨rfl, ⟨w31, w33, v77, v79, rfl, (by omega), (by omega), (by omega), rfl⟩, (by show (48 - v79.toInt).toNat < (48 - w35.toInt).toNat; omega)⟩
def o_X11_beat : List vg_I := [(0, .iload_n 2, 1, 0, 0, 0, 0), (1, .iconst 0, 1, 0, 0, 0, 0), (2, .bipush 47, 2, 0, 0, 0, 0), (4, .invokestatic 76, 3, 0, 1, 3, 1175), (7, .ifCond .ne 10, 3, 0, 0, 0, 0), (10, .aload_n 0, 1, 0, 0, 0, 0), (11, .iconst 1, 1, 0, 0, 0, 0), (12, .invokevirtual 242, 3, 1, 11, 1, 1181), (15, .i2l, 1, 0, 0, 0, 0), (16, .lreturn, 1, 0, 0, 0, 0), (17, .iload_n 1, 1, 0, 0, 0, 0), (18, .iconst 0, 1, 0, 0, 0, 0), (19, .iconst 2, 1, 0, 0, 0, 0), (20, .invokestatic 76, 3, 0, 1, 3, 1175), (23, .ifCond .ne 10, 3, 0, 0, 0, 0), (26, .aload_n 0, 1, 0, 0, 0, 0), (27, .iconst 2, 1, 0, 0, 0, 0), (28, .invokevirtual 242, 3, 1, 11, 1, 1181), (31, .i2l, 1, 0, 0, 0, 0), (32, .lreturn, 1, 0, 0, 0, 0), (33, .aload_n 0, 1, 0, 0, 0, 0), (34, .iload_n 1, 1, 0, 0, 0, 0), (35, .invokevirtual 267, 3, 2, 11, 1, 1381), (38, .iload_n 2, 1, 0, 0, 0, 0), (39, .if_icmp .le 16, 3, 0, 0, 0, 0), (42, .aload_n 0, 1, 0, 0, 0, 0), (43, .aload_n 0, 1, 0, 0, 0, 0), (44, .iload_n 1, 1, 0, 0, 0, 0), (45, .iload_n 2, 1, 0, 0, 0, 0), (46, .invokevirtual 280, 3, 3, 11, 2, 1454), (49, .invokevirtual 270, 3, 4, 11, 1, 1393), (52, .goto 9, 3, 0, 0, 0, 0), (55, .aload_n 0, 1, 0, 0, 0, 0), (56, .iconst 5, 1, 0, 0, 0, 0), (57, .invokevirtual 242, 3, 1, 11, 1, 1181), (60, .i2l, 1, 0, 0, 0, 0), (61, .lreturn, 1, 0, 0, 0, 0)]
set_option maxRecDepth 100000 in
set_option maxHeartbeats 4000000 in
theorem c_X11_beat (l : Launch) (G : vg_G) (hp : vg_Hp G) : vg_Ct l G vg_sh r_X11_beat := by
  refine vg_meth hp vg_sh_ok r_X11_beat k_X11_beat rfl (fun h => by cases h) o_X11_beat [r_X11_isFrom, r_X11_refuse, r_X11_many, r_X11_beatOf, r_X11_givesLong] false (by decide +kernel) (by decide +kernel) ⟨_, _, rfl, rfl⟩ (List.forall_mem_cons.mpr ⟨⟨c_X11_isFrom l G hp, Nat.le_of_ble_eq_true rfl, Nat.le_of_ble_eq_true rfl⟩, List.forall_mem_cons.mpr ⟨⟨c_X11_refuse l G hp, Nat.le_of_ble_eq_true rfl, Nat.le_of_ble_eq_true rfl⟩, List.forall_mem_cons.mpr ⟨⟨c_X11_many l G hp, Nat.le_of_ble_eq_true rfl, Nat.le_of_ble_eq_true rfl⟩, List.forall_mem_cons.mpr ⟨⟨c_X11_beatOf l G hp, Nat.le_of_ble_eq_true rfl, Nat.le_of_ble_eq_true rfl⟩, List.forall_mem_cons.mpr ⟨⟨c_X11_givesLong l G hp, Nat.le_of_ble_eq_true rfl, Nat.le_of_ble_eq_true rfl⟩, fun _ h => absurd h List.not_mem_nil⟩⟩⟩⟩⟩) (fun h => by cases h) 600 ?_
  intro as s0 hpre
  obtain ⟨r, a1, a2, rfl, hr, i0⟩ := hpre
  simp only [List.mem_cons, List.not_mem_nil, or_false] at hr
  rcases hr with rfl
  ·
    have z0 : (Int32.ofInt 0).toInt = 0 := by decide
    have z1 : (Int32.ofInt 1).toInt = 1 := by decide
    have z2 : (Int32.ofInt 2).toInt = 2 := by decide
    have z5 : (Int32.ofInt 5).toInt = 5 := by decide
    have z47 : (Int32.ofInt 47).toInt = 47 := by decide
    refine ⟨Nat.le_of_ble_eq_true rfl, [], ?_, fun _ h => absurd h List.not_mem_nil⟩
    ·
      refine And.intro (Nat.le_of_ble_eq_true rfl) (And.intro ⟨a2, (Int32.ofInt 0), (Int32.ofInt 47), rfl, trivial⟩ ?_)
      intro v1 s3 h2
      have h2 : s3 = s0 ∧ ((v1.toInt = 1 ∧ (Int32.ofInt 0).toInt ≤ a2.toInt ∧ a2.toInt ≤ (Int32.ofInt 47).toInt) ∨ (v1.toInt = 0 ∧ (a2.toInt < (Int32.ofInt 0).toInt ∨ (Int32.ofInt 47).toInt < a2.toInt))) := h2
      have q6 := h2.1.symm
      subst q6
      have q7 := h2.2
      refine And.intro (fun c8 => ?_) (fun c8 => ?_)
      · have c8 : ¬ v1.toInt = 0 := c8
        refine And.intro (Nat.le_of_ble_eq_true rfl) (And.intro ⟨a1, (Int32.ofInt 0), (Int32.ofInt 2), rfl, trivial⟩ ?_)
        intro v9 s11 h10
        have h10 : s11 = s0 ∧ ((v9.toInt = 1 ∧ (Int32.ofInt 0).toInt ≤ a1.toInt ∧ a1.toInt ≤ (Int32.ofInt 2).toInt) ∨ (v9.toInt = 0 ∧ (a1.toInt < (Int32.ofInt 0).toInt ∨ (Int32.ofInt 2).toInt < a1.toInt))) := h10
        have q14 := h10.1.symm
        subst q14
        have q15 := h10.2
        refine And.intro (fun c16 => ?_) (fun c16 => ?_)
        · have c16 : ¬ v9.toInt = 0 := c16
          refine And.intro (Nat.le_of_ble_eq_true rfl) (And.intro ⟨55, a1, rfl, by decide, i0, by omega⟩ ?_)
          intro v17 s19 h18
          have h18 : s19 = s0 ∧ (v17.toInt ≤ 48) := h18
          have q22 := h18.1.symm
          subst q22
          have q23 := h18.2
          refine And.intro (fun c24 => ?_) (fun c24 => ?_)
          · have c24 : v17.toInt ≤ a2.toInt := c24
            refine And.intro (Nat.le_of_ble_eq_true rfl) (And.intro ⟨55, (Int32.ofInt 5), rfl, by decide, i0⟩ ?_)
            intro v25 s27 h26
            have h26 : Iv s27 ∧ Kp s0 s27 ∧ vk s27 = ((vk s0).1, (vk s0).2) ∧ (v25.toInt = -1) := h26
            have i28 := h26.1
            have k29 : Kp s0 s27 := Kx.tr Kx.rf (h26.2.1)
            have u30 : vk s27 = ((vk s0).1, (vk s0).2) := h26.2.2.1.trans rfl
            have q31 := h26.2.2.2
            intro v32 e33
            show Iv s27 ∧ Kp s0 s27 ∧ vk s27 = ((vk s0).1, (vk s0).2) ∧ (True)
            exact ⟨i28, k29, u30, (trivial)⟩
          · have c24 : ¬ (v17.toInt ≤ a2.toInt) := c24
            refine And.intro (Nat.le_of_ble_eq_true rfl) (And.intro ⟨55, a1, a2, rfl, by decide, i0, by omega⟩ ?_)
            intro v34 s36 h35
            have h35 : s36 = s0 ∧ (True) := h35
            have q39 := h35.1.symm
            subst q39
            refine And.intro (Nat.le_of_ble_eq_true rfl) (And.intro ⟨55, v34, rfl, by decide, i0⟩ ?_)
            intro v40 s42 h41
            have h41 : Iv s42 ∧ Kp s0 s42 ∧ vk s42 = ((vk s0).1, (vk s0).2) ∧ (v40 = v34) := h41
            have i43 := h41.1
            have k44 : Kp s0 s42 := Kx.tr Kx.rf (h41.2.1)
            have u45 : vk s42 = ((vk s0).1, (vk s0).2) := h41.2.2.1.trans rfl
            have q46 := h41.2.2.2
            show Iv s42 ∧ Kp s0 s42 ∧ vk s42 = ((vk s0).1, (vk s0).2) ∧ (True)
            exact ⟨i43, k44, u45, (trivial)⟩
        · have c16 : ¬ (¬ v9.toInt = 0) := c16
          refine And.intro (Nat.le_of_ble_eq_true rfl) (And.intro ⟨55, (Int32.ofInt 2), rfl, by decide, i0⟩ ?_)
          intro v47 s49 h48
          have h48 : Iv s49 ∧ Kp s0 s49 ∧ vk s49 = ((vk s0).1, (vk s0).2) ∧ (v47.toInt = -1) := h48
          have i50 := h48.1
          have k51 : Kp s0 s49 := Kx.tr Kx.rf (h48.2.1)
          have u52 : vk s49 = ((vk s0).1, (vk s0).2) := h48.2.2.1.trans rfl
          have q53 := h48.2.2.2
          intro v54 e55
          show Iv s49 ∧ Kp s0 s49 ∧ vk s49 = ((vk s0).1, (vk s0).2) ∧ (True)
          exact ⟨i50, k51, u52, (trivial)⟩
      · have c8 : ¬ (¬ v1.toInt = 0) := c8
        refine And.intro (Nat.le_of_ble_eq_true rfl) (And.intro ⟨55, (Int32.ofInt 1), rfl, by decide, i0⟩ ?_)
        intro v56 s58 h57
        have h57 : Iv s58 ∧ Kp s0 s58 ∧ vk s58 = ((vk s0).1, (vk s0).2) ∧ (v56.toInt = -1) := h57
        have i59 := h57.1
        have k60 : Kp s0 s58 := Kx.tr Kx.rf (h57.2.1)
        have u61 : vk s58 = ((vk s0).1, (vk s0).2) := h57.2.2.1.trans rfl
        have q62 := h57.2.2.2
        intro v63 e64
        show Iv s58 ∧ Kp s0 s58 ∧ vk s58 = ((vk s0).1, (vk s0).2) ∧ (True)
        exact ⟨i59, k60, u61, (trivial)⟩
def o_X11_tonal : List vg_I := [(0, .iload_n 1, 1, 0, 0, 0, 0), (1, .iconst 0, 1, 0, 0, 0, 0), (2, .iconst 2, 1, 0, 0, 0, 0), (3, .invokestatic 76, 3, 0, 1, 3, 1175), (6, .ifCond .ne 9, 3, 0, 0, 0, 0), (9, .aload_n 0, 1, 0, 0, 0, 0), (10, .iconst 2, 1, 0, 0, 0, 0), (11, .invokevirtual 242, 3, 1, 11, 1, 1181), (14, .ireturn, 1, 0, 0, 0, 0), (15, .aload_n 0, 1, 0, 0, 0, 0), (16, .iload_n 1, 1, 0, 0, 0, 0), (17, .invokevirtual 267, 3, 2, 11, 1, 1381), (20, .bipush 24, 2, 0, 0, 0, 0), (22, .if_icmp .gt 9, 3, 0, 0, 0, 0), (25, .aload_n 0, 1, 0, 0, 0, 0), (26, .iconst 5, 1, 0, 0, 0, 0), (27, .invokevirtual 242, 3, 1, 11, 1, 1181), (30, .ireturn, 1, 0, 0, 0, 0), (31, .iconst 2, 1, 0, 0, 0, 0), (32, .istore_n 2, 1, 0, 0, 0, 0), (33, .iconst 3, 1, 0, 0, 0, 0), (34, .istore_n 3, 1, 0, 0, 0, 0), (35, .iload_n 3, 1, 0, 0, 0, 0), (36, .bipush 24, 2, 0, 0, 0, 0), (38, .if_icmp .gt 31, 3, 0, 0, 0, 0), (41, .aload_n 0, 1, 0, 0, 0, 0), (42, .iload_n 1, 1, 0, 0, 0, 0), (43, .iload_n 3, 1, 0, 0, 0, 0), (44, .invokevirtual 280, 3, 3, 11, 2, 1454), (47, .aload_n 0, 1, 0, 0, 0, 0), (48, .iload_n 1, 1, 0, 0, 0, 0), (49, .iload_n 2, 1, 0, 0, 0, 0), (50, .invokevirtual 280, 3, 3, 11, 2, 1454), (53, .lcmp, 1, 0, 0, 0, 0), (54, .ifCond .le 7, 3, 0, 0, 0, 0), (57, .iload_n 3, 1, 0, 0, 0, 0), (58, .goto 4, 3, 0, 0, 0, 0), (61, .iload_n 2, 1, 0, 0, 0, 0), (62, .istore_n 2, 1, 0, 0, 0, 0), (63, .iinc 3 1, 3, 0, 0, 0, 0), (66, .goto (-31), 3, 0, 0, 0, 0), (69, .aload_n 0, 1, 0, 0, 0, 0), (70, .iload_n 2, 1, 0, 0, 0, 0), (71, .invokevirtual 249, 3, 4, 11, 1, 1206), (74, .ireturn, 1, 0, 0, 0, 0)]
set_option maxRecDepth 100000 in
set_option maxHeartbeats 4000000 in
theorem c_X11_tonal (l : Launch) (G : vg_G) (hp : vg_Hp G) : vg_Ct l G vg_sh r_X11_tonal := by
  refine vg_meth hp vg_sh_ok r_X11_tonal k_X11_tonal rfl (fun h => by cases h) o_X11_tonal [r_X11_isFrom, r_X11_refuse, r_X11_many, r_X11_beatOf, r_X11_gives] false (by decide +kernel) (by decide +kernel) ⟨_, _, rfl, rfl⟩ (List.forall_mem_cons.mpr ⟨⟨c_X11_isFrom l G hp, Nat.le_of_ble_eq_true rfl, Nat.le_of_ble_eq_true rfl⟩, List.forall_mem_cons.mpr ⟨⟨c_X11_refuse l G hp, Nat.le_of_ble_eq_true rfl, Nat.le_of_ble_eq_true rfl⟩, List.forall_mem_cons.mpr ⟨⟨c_X11_many l G hp, Nat.le_of_ble_eq_true rfl, Nat.le_of_ble_eq_true rfl⟩, List.forall_mem_cons.mpr ⟨⟨c_X11_beatOf l G hp, Nat.le_of_ble_eq_true rfl, Nat.le_of_ble_eq_true rfl⟩, List.forall_mem_cons.mpr ⟨⟨c_X11_gives l G hp, Nat.le_of_ble_eq_true rfl, Nat.le_of_ble_eq_true rfl⟩, fun _ h => absurd h List.not_mem_nil⟩⟩⟩⟩⟩) (fun h => by cases h) 600 ?_
  intro as s0 hpre
  obtain ⟨r, a1, rfl, hr, i0⟩ := hpre
  simp only [List.mem_cons, List.not_mem_nil, or_false] at hr
  rcases hr with rfl
  ·
    have z0 : (Int32.ofInt 0).toInt = 0 := by decide
    have z1 : (Int32.ofInt 1).toInt = 1 := by decide
    have z2 : (Int32.ofInt 2).toInt = 2 := by decide
    have z3 : (Int32.ofInt 3).toInt = 3 := by decide
    have z5 : (Int32.ofInt 5).toInt = 5 := by decide
    have z24 : (Int32.ofInt 24).toInt = 24 := by decide
    refine ⟨Nat.le_of_ble_eq_true rfl, [(35, [true, true, true, true], (fun L t => ∃ (x2 : Int32) (x3 : Int32), L = [some (.ref 55), some (.int a1), some (.int x2), some (.int x3)] ∧ (2 : Int) ≤ x2.toInt ∧ x2.toInt ≤ (24 : Int) ∧ (3 : Int) ≤ x3.toInt ∧ x3.toInt ≤ (25 : Int) ∧ (0 : Int) ≤ a1.toInt ∧ a1.toInt ≤ (2 : Int) ∧ Iv t ∧ Kp s0 t ∧ vk t = ((vk s0).1, (vk s0).2)), (fun L _ => (0 + (25 - (vg_li L 3).toInt) * 1000000000000).toNat))], ?_, List.forall_mem_cons.mpr ⟨?_, fun _ h => absurd h List.not_mem_nil⟩⟩
    ·
      refine And.intro (Nat.le_of_ble_eq_true rfl) (And.intro ⟨a1, (Int32.ofInt 0), (Int32.ofInt 2), rfl, trivial⟩ ?_)
      intro v1 s3 h2
      have h2 : s3 = s0 ∧ ((v1.toInt = 1 ∧ (Int32.ofInt 0).toInt ≤ a1.toInt ∧ a1.toInt ≤ (Int32.ofInt 2).toInt) ∨ (v1.toInt = 0 ∧ (a1.toInt < (Int32.ofInt 0).toInt ∨ (Int32.ofInt 2).toInt < a1.toInt))) := h2
      have q6 := h2.1.symm
      subst q6
      have q7 := h2.2
      refine And.intro (fun c8 => ?_) (fun c8 => ?_)
      · have c8 : ¬ v1.toInt = 0 := c8
        refine And.intro (Nat.le_of_ble_eq_true rfl) (And.intro ⟨55, a1, rfl, by decide, i0, by omega⟩ ?_)
        intro v9 s11 h10
        have h10 : s11 = s0 ∧ (v9.toInt ≤ 48) := h10
        have q14 := h10.1.symm
        subst q14
        have q15 := h10.2
        refine And.intro (fun c16 => ?_) (fun c16 => ?_)
        · have c16 : (Int32.ofInt 24).toInt < v9.toInt := c16
          exact ⟨rfl, ⟨(Int32.ofInt 2), (Int32.ofInt 3), rfl, (by omega), (by omega), (by omega), (by omega), (by omega), (by omega), i0, Kx.rf, rfl⟩, trivial⟩
        · have c16 : ¬ ((Int32.ofInt 24).toInt < v9.toInt) := c16
          refine And.intro (Nat.le_of_ble_eq_true rfl) (And.intro ⟨55, (Int32.ofInt 5), rfl, by decide, i0⟩ ?_)
          intro v17 s19 h18
          have h18 : Iv s19 ∧ Kp s0 s19 ∧ vk s19 = ((vk s0).1, (vk s0).2) ∧ (v17.toInt = -1) := h18
          have i20 := h18.1
          have k21 : Kp s0 s19 := Kx.tr Kx.rf (h18.2.1)
          have u22 : vk s19 = ((vk s0).1, (vk s0).2) := h18.2.2.1.trans rfl
          have q23 := h18.2.2.2
          show Iv s19 ∧ Kp s0 s19 ∧ vk s19 = ((vk s0).1, (vk s0).2) ∧ (True)
          exact ⟨i20, k21, u22, (trivial)⟩
      · have c8 : ¬ (¬ v1.toInt = 0) := c8
        refine And.intro (Nat.le_of_ble_eq_true rfl) (And.intro ⟨55, (Int32.ofInt 2), rfl, by decide, i0⟩ ?_)
        intro v24 s26 h25
        have h25 : Iv s26 ∧ Kp s0 s26 ∧ vk s26 = ((vk s0).1, (vk s0).2) ∧ (v24.toInt = -1) := h25
        have i27 := h25.1
        have k28 : Kp s0 s26 := Kx.tr Kx.rf (h25.2.1)
        have u29 : vk s26 = ((vk s0).1, (vk s0).2) := h25.2.2.1.trans rfl
        have q30 := h25.2.2.2
        show Iv s26 ∧ Kp s0 s26 ∧ vk s26 = ((vk s0).1, (vk s0).2) ∧ (True)
        exact ⟨i27, k28, u29, (trivial)⟩
    ·
      intro L s39 hL
      obtain ⟨w31, w34, rfl, b32, b33, b35, b36, b37, b38, i40, k41, u42⟩ := hL
      refine And.intro (fun c43 => ?_) (fun c43 => ?_)
      · have c43 : (Int32.ofInt 24).toInt < w34.toInt := c43
        refine And.intro (Nat.le_of_ble_eq_true rfl) (And.intro ⟨55, w31, rfl, by decide, i40⟩ ?_)
        intro v44 s46 h45
        have h45 : Iv s46 ∧ Kp s39 s46 ∧ vk s46 = ((vk s39).1, (vk s39).2) ∧ (v44 = w31 ∧ v44.toInt = w31.toInt) := h45
        have i47 := h45.1
        have k48 : Kp s0 s46 := Kx.tr k41 (h45.2.1)
        have u49 : vk s46 = ((vk s0).1, (vk s0).2) := h45.2.2.1.trans u42
        have q50 := h45.2.2.2
        show Iv s46 ∧ Kp s0 s46 ∧ vk s46 = ((vk s0).1, (vk s0).2) ∧ (True)
        exact ⟨i47, k48, u49, (trivial)⟩
      · have c43 : ¬ ((Int32.ofInt 24).toInt < w34.toInt) := c43
        refine And.intro (Nat.le_of_ble_eq_true rfl) (And.intro ⟨55, a1, w34, rfl, by decide, i40, by omega⟩ ?_)
        intro v51 s53 h52
        have h52 : s53 = s39 ∧ (True) := h52
        have q56 := h52.1.symm
        subst q56
        refine And.intro (Nat.le_of_ble_eq_true rfl) (And.intro ⟨55, a1, w31, rfl, by decide, i40, by omega⟩ ?_)
        intro v57 s59 h58
        have h58 : s59 = s39 ∧ (True) := h58
        have q62 := h58.1.symm
        subst q62
        intro v63 e64
        refine And.intro (fun c65 => ?_) (fun c65 => ?_)
        · have c65 : v63.toInt ≤ 0 := c65
          intro v66 e67
          have b68 := vg_add e67 (by omega) (by omega)
          exact ⟨rfl, ⟨w31, v66, rfl, (by omega), (by omega), (by omega), (by omega), (by omega), (by omega), i40, k41, u42⟩, (by show (0 + (25 - v66.toInt) * 1000000000000).toNat < (0 + (25 - w34.toInt) * 1000000000000).toNat; omega)⟩
        · have c65 : ¬ (v63.toInt ≤ 0) := c65
          intro v69 e70
          have b71 := vg_add e70 (by omega) (by omega)
          exact ⟨rfl, ⟨w34, v69, rfl, (by omega), (by omega), (by omega), (by omega), (by omega), (by omega), i40, k41, u42⟩, (by show (0 + (25 - v69.toInt) * 1000000000000).toNat < (0 + (25 - w34.toInt) * 1000000000000).toNat; omega)⟩
def o_X11_lays : List vg_I := [(0, .iconst 0, 1, 0, 0, 0, 0), (1, .istore_n 2, 1, 0, 0, 0, 0), (2, .iload_n 2, 1, 0, 0, 0, 0), (3, .bipush 16, 2, 0, 0, 0, 0), (5, .if_icmp .ge 29, 3, 0, 0, 0, 0), (8, .aload_n 0, 1, 0, 0, 0, 0), (9, .getfield 61, 3, 1089, 11, 28, 0), (12, .bipush 17, 2, 0, 0, 0, 0), (14, .iload_n 1, 1, 0, 0, 0, 0), (15, .imul, 1, 0, 0, 0, 0), (16, .iload_n 2, 1, 0, 0, 0, 0), (17, .iadd, 1, 0, 0, 0, 0), (18, .aload_n 0, 1, 0, 0, 0, 0), (19, .getfield 7, 3, 1061, 11, 0, 0), (22, .bipush 23, 2, 0, 0, 0, 0), (24, .iload_n 2, 1, 0, 0, 0, 0), (25, .iadd, 1, 0, 0, 0, 0), (26, .laload, 1, 0, 0, 0, 0), (27, .lastore, 1, 0, 0, 0, 0), (28, .iinc 2 1, 3, 0, 0, 0, 0), (31, .goto (-29), 3, 0, 0, 0, 0), (34, .aload_n 0, 1, 0, 0, 0, 0), (35, .getfield 61, 3, 1089, 11, 28, 0), (38, .bipush 17, 2, 0, 0, 0, 0), (40, .iload_n 1, 1, 0, 0, 0, 0), (41, .imul, 1, 0, 0, 0, 0), (42, .bipush 16, 2, 0, 0, 0, 0), (44, .iadd, 1, 0, 0, 0, 0), (45, .aload_n 0, 1, 0, 0, 0, 0), (46, .getfield 99, 3, 1068, 11, 7, 0), (49, .iconst 1, 1, 0, 0, 0, 0), (50, .if_icmp .ne 12, 3, 0, 0, 0, 0), (53, .aload_n 0, 1, 0, 0, 0, 0), (54, .getfield 7, 3, 1061, 11, 0, 0), (57, .iconst 2, 1, 0, 0, 0, 0), (58, .laload, 1, 0, 0, 0, 0), (59, .goto 4, 3, 0, 0, 0, 0), (62, .lconst 0, 1, 0, 0, 0, 0), (63, .lastore, 1, 0, 0, 0, 0), (64, .return_, 1, 0, 0, 0, 0)]
set_option maxRecDepth 100000 in
set_option maxHeartbeats 4000000 in
theorem c_X11_lays (l : Launch) (G : vg_G) (hp : vg_Hp G) : vg_Ct l G vg_sh r_X11_lays := by
  refine vg_meth hp vg_sh_ok r_X11_lays k_X11_lays rfl (fun h => by cases h) o_X11_lays [] false (by decide +kernel) (by decide +kernel) ⟨_, _, rfl, rfl⟩ (fun _ h => absurd h List.not_mem_nil) (fun h => by cases h) 600 ?_
  intro as s0 hpre
  obtain ⟨r, a1, rfl, hr, i0, p0⟩ := hpre
  simp only [List.mem_cons, List.not_mem_nil, or_false] at hr
  rcases hr with rfl
  ·
    have z0 : (Int32.ofInt 0).toInt = 0 := by decide
    have z1 : (Int32.ofInt 1).toInt = 1 := by decide
    have z2 : (Int32.ofInt 2).toInt = 2 := by decide
    have z16 : (Int32.ofInt 16).toInt = 16 := by decide
    have z17 : (Int32.ofInt 17).toInt = 17 := by decide
    have z23 : (Int32.ofInt 23).toInt = 23 := by decide
    refine ⟨Nat.le_of_ble_eq_true rfl, [(2, [true, true, true], (fun L t => ∃ (x2 : Int32), L = [some (.ref 55), some (.int a1), some (.int x2)] ∧ (0 : Int) ≤ x2.toInt ∧ x2.toInt ≤ (16 : Int) ∧ Iv t ∧ Kp s0 t ∧ vk t = ((vk s0).1, (vk s0).2)), (fun L _ => (0 + (16 - (vg_li L 2).toInt) * 1000000000000).toNat))], ?_, List.forall_mem_cons.mpr ⟨?_, fun _ h => absurd h List.not_mem_nil⟩⟩
    ·
      exact ⟨rfl, ⟨(Int32.ofInt 0), rfl, (by omega), (by omega), i0, Kx.rf, rfl⟩, trivial⟩
    ·
      intro L s4 hL
      obtain ⟨w1, rfl, b2, b3, i5, k6, u7⟩ := hL
      refine And.intro (fun c8 => ?_) (fun c8 => ?_)
      · have c8 : (Int32.ofInt 16).toInt ≤ w1.toInt := c8
        intro v9 e10
        have b11 : v9.toInt = (17) * a1.toInt := vg_mulL e10 (by omega) (by omega) (by omega)
        intro v12 e13
        have b14 := vg_add e13 (by omega) (by omega)
        intro v15 e16
        have g17 : s4.1 55 7 = v15 := by rw [e16]
        refine And.intro (fun c18 => ?_) (fun c18 => ?_)
        · have c18 : ¬ v15.toInt = (Int32.ofInt 1).toInt := c18
          refine And.intro ⟨by omega, by omega⟩ ?_
          intro s19 e20
          have i21 : Iv s19 := Iv.u2 i5 e20
          have k22 : Kp s0 s19 := Kx.u2 k6 e20 (vg_kq_no ⟨rfl, rfl, rfl⟩).1
          have u23 : vk s19 = ((vk s0).1, (vk s0).2) := vk_k2 u7 e20 rfl
          show Iv s19 ∧ Kp s0 s19 ∧ vk s19 = ((vk s0).1, (vk s0).2) ∧ (True)
          exact ⟨i21, k22, u23, (trivial)⟩
        · have c18 : ¬ (¬ v15.toInt = (Int32.ofInt 1).toInt) := c18
          refine And.intro ⟨by omega, by omega⟩ ?_
          intro v24 e25
          refine And.intro ⟨by omega, by omega⟩ ?_
          intro s26 e27
          have i28 : Iv s26 := Iv.u2 i5 e27
          have k29 : Kp s0 s26 := Kx.u2 k6 e27 (vg_kq_no ⟨rfl, rfl, rfl⟩).1
          have u30 : vk s26 = ((vk s0).1, (vk s0).2) := vk_k2 u7 e27 rfl
          show Iv s26 ∧ Kp s0 s26 ∧ vk s26 = ((vk s0).1, (vk s0).2) ∧ (True)
          exact ⟨i28, k29, u30, (trivial)⟩
      · have c8 : ¬ ((Int32.ofInt 16).toInt ≤ w1.toInt) := c8
        intro v31 e32
        have b33 : v31.toInt = (17) * a1.toInt := vg_mulL e32 (by omega) (by omega) (by omega)
        intro v34 e35
        have b36 := vg_add e35 (by omega) (by omega)
        intro v37 e38
        have b39 := vg_add e38 (by omega) (by omega)
        refine And.intro ⟨by omega, by omega⟩ ?_
        intro v40 e41
        refine And.intro ⟨by omega, by omega⟩ ?_
        intro s42 e43
        have i44 : Iv s42 := Iv.u2 i5 e43
        have k45 : Kp s0 s42 := Kx.u2 k6 e43 (vg_kq_no ⟨rfl, rfl, rfl⟩).1
        have u46 : vk s42 = ((vk s0).1, (vk s0).2) := vk_k2 u7 e43 rfl
        intro v47 e48
        have b49 := vg_add e48 (by omega) (by omega)
        exact ⟨rfl, ⟨v47, rfl, (by omega), (by omega), i44, k45, u46⟩, (by show (0 + (16 - v47.toInt) * 1000000000000).toNat < (0 + (16 - w1.toInt) * 1000000000000).toNat; omega)⟩
def o_X11_isLike : List vg_I := [(0, .iconst 0, 1, 0, 0, 0, 0), (1, .istore_n 3, 1, 0, 0, 0, 0), (2, .iload_n 3, 1, 0, 0, 0, 0), (3, .bipush 17, 2, 0, 0, 0, 0), (5, .if_icmp .ge 37, 3, 0, 0, 0, 0), (8, .aload_n 0, 1, 0, 0, 0, 0), (9, .getfield 61, 3, 1089, 11, 28, 0), (12, .bipush 17, 2, 0, 0, 0, 0), (14, .iload_n 1, 1, 0, 0, 0, 0), (15, .imul, 1, 0, 0, 0, 0), (16, .iload_n 3, 1, 0, 0, 0, 0), (17, .iadd, 1, 0, 0, 0, 0), (18, .laload, 1, 0, 0, 0, 0), (19, .aload_n 0, 1, 0, 0, 0, 0), (20, .getfield 61, 3, 1089, 11, 28, 0), (23, .bipush 17, 2, 0, 0, 0, 0), (25, .iload_n 2, 1, 0, 0, 0, 0), (26, .imul, 1, 0, 0, 0, 0), (27, .iload_n 3, 1, 0, 0, 0, 0), (28, .iadd, 1, 0, 0, 0, 0), (29, .laload, 1, 0, 0, 0, 0), (30, .lcmp, 1, 0, 0, 0, 0), (31, .ifCond .eq 5, 3, 0, 0, 0, 0), (34, .iconst 0, 1, 0, 0, 0, 0), (35, .ireturn, 1, 0, 0, 0, 1), (36, .iinc 3 1, 3, 0, 0, 0, 0), (39, .goto (-37), 3, 0, 0, 0, 0), (42, .iconst 1, 1, 0, 0, 0, 0), (43, .ireturn, 1, 0, 0, 0, 1)]
set_option maxRecDepth 100000 in
set_option maxHeartbeats 4000000 in
theorem c_X11_isLike (l : Launch) (G : vg_G) (hp : vg_Hp G) : vg_Ct l G vg_sh r_X11_isLike := by
  refine vg_meth hp vg_sh_ok r_X11_isLike k_X11_isLike rfl (fun h => by cases h) o_X11_isLike [] false (by decide +kernel) (by decide +kernel) ⟨_, _, rfl, rfl⟩ (fun _ h => absurd h List.not_mem_nil) (fun h => by cases h) 600 ?_
  intro as s0 hpre
  obtain ⟨r, a1, a2, rfl, hr, i0, p0⟩ := hpre
  simp only [List.mem_cons, List.not_mem_nil, or_false] at hr
  rcases hr with rfl
  ·
    have z0 : (Int32.ofInt 0).toInt = 0 := by decide
    have z1 : (Int32.ofInt 1).toInt = 1 := by decide
    have z17 : (Int32.ofInt 17).toInt = 17 := by decide
    refine ⟨Nat.le_of_ble_eq_true rfl, [(2, [true, true, true, true], (fun L t => ∃ (x3 : Int32), L = [some (.ref 55), some (.int a1), some (.int a2), some (.int x3)] ∧ (0 : Int) ≤ x3.toInt ∧ x3.toInt ≤ (17 : Int) ∧ t = s0), (fun L _ => (0 + (17 - (vg_li L 3).toInt) * 1000000000000).toNat))], ?_, List.forall_mem_cons.mpr ⟨?_, fun _ h => absurd h List.not_mem_nil⟩⟩
    ·
      exact ⟨rfl, ⟨(Int32.ofInt 0), rfl, (by omega), (by omega), rfl⟩, trivial⟩
    ·
      intro L s4 hL
      obtain ⟨w1, rfl, b2, b3, q7⟩ := hL
      have q7 := q7.symm
      subst q7
      refine And.intro (fun c8 => ?_) (fun c8 => ?_)
      · have c8 : (Int32.ofInt 17).toInt ≤ w1.toInt := c8
        refine And.intro (by first | exact Or.inl rfl | exact Or.inr rfl | exact vg_01 (by omega) (by omega)) ?_
        show s0 = s0 ∧ (0 ≤ (Int32.ofInt 1).toInt ∧ (Int32.ofInt 1).toInt ≤ 1)
        exact ⟨rfl, (by first | trivial | omega | assumption)⟩
      · have c8 : ¬ ((Int32.ofInt 17).toInt ≤ w1.toInt) := c8
        intro v9 e10
        have b11 : v9.toInt = (17) * a1.toInt := vg_mulL e10 (by omega) (by omega) (by omega)
        intro v12 e13
        have b14 := vg_add e13 (by omega) (by omega)
        refine And.intro ⟨by omega, by omega⟩ ?_
        intro v15 e16
        intro v17 e18
        have b19 : v17.toInt = (17) * a2.toInt := vg_mulL e18 (by omega) (by omega) (by omega)
        intro v20 e21
        have b22 := vg_add e21 (by omega) (by omega)
        refine And.intro ⟨by omega, by omega⟩ ?_
        intro v23 e24
        intro v25 e26
        refine And.intro (fun c27 => ?_) (fun c27 => ?_)
        · have c27 : v25.toInt = 0 := c27
          intro v28 e29
          have b30 := vg_add e29 (by omega) (by omega)
          exact ⟨rfl, ⟨v28, rfl, (by omega), (by omega), rfl⟩, (by show (0 + (17 - v28.toInt) * 1000000000000).toNat < (0 + (17 - w1.toInt) * 1000000000000).toNat; omega)⟩
        · have c27 : ¬ (v25.toInt = 0) := c27
          refine And.intro (by first | exact Or.inl rfl | exact Or.inr rfl | exact vg_01 (by omega) (by omega)) ?_
          show s0 = s0 ∧ (0 ≤ (Int32.ofInt 0).toInt ∧ (Int32.ofInt 0).toInt ≤ 1)
          exact ⟨rfl, (by first | trivial | omega | assumption)⟩
def o_X11_tones : List vg_I := [(0, .aload_n 0, 1, 0, 0, 0, 0), (1, .getfield 7, 3, 1061, 11, 0, 0), (4, .aload_n 0, 1, 0, 0, 0, 0), (5, .getfield 13, 3, 1062, 11, 1, 0), (8, .invokestatic 283, 3, 0, 1, 2, 1474), (11, .aload_n 0, 1, 0, 0, 0, 0), (12, .invokevirtual 84, 3, 1, 11, 0, 1193), (15, .aload_n 0, 1, 0, 0, 0, 0), (16, .iconst 0, 1, 0, 0, 0, 0), (17, .invokevirtual 287, 3, 2, 11, 1, 1477), (20, .aload_n 0, 1, 0, 0, 0, 0), (21, .iconst (-1), 1, 0, 0, 0, 0), (22, .putfield 290, 3, 1092, 11, 31, 0), (25, .iconst 0, 1, 0, 0, 0, 0), (26, .istore_n 3, 1, 0, 0, 0, 0), (27, .iload_n 3, 1, 0, 0, 0, 0), (28, .sipush 1000, 3, 0, 0, 0, 0), (31, .if_icmp .ge 94, 3, 0, 0, 0, 0), (34, .iload_n 2, 1, 0, 0, 0, 0), (35, .ifCond .ne 11, 3, 0, 0, 0, 0), (38, .aload_n 0, 1, 0, 0, 0, 0), (39, .getfield 290, 3, 1092, 11, 31, 0), (42, .iconst (-1), 1, 0, 0, 0, 0), (43, .if_icmp .ne 82, 3, 0, 0, 0, 0), (46, .aload_n 0, 1, 0, 0, 0, 0), (47, .getfield 64, 3, 1090, 11, 29, 0), (50, .iload_n 3, 1, 0, 0, 0, 0), (51, .aload_n 0, 1, 0, 0, 0, 0), (52, .iload_n 1, 1, 0, 0, 0, 0), (53, .iconst 0, 1, 0, 0, 0, 0), (54, .invokevirtual 213, 3, 3, 11, 2, 1293), (57, .iastore, 1, 0, 0, 0, 0), (58, .aload_n 0, 1, 0, 0, 0, 0), (59, .iload_n 3, 1, 0, 0, 0, 0), (60, .iconst 1, 1, 0, 0, 0, 0), (61, .iadd, 1, 0, 0, 0, 0), (62, .invokevirtual 287, 3, 2, 11, 1, 1477), (65, .iconst 0, 1, 0, 0, 0, 0), (66, .istore 4, 2, 0, 0, 0, 0), (68, .iload 4, 2, 0, 0, 0, 0), (70, .iload_n 3, 1, 0, 0, 0, 0), (71, .if_icmp .gt 48, 3, 0, 0, 0, 0), (74, .aload_n 0, 1, 0, 0, 0, 0), (75, .getfield 290, 3, 1092, 11, 31, 0), (78, .iconst (-1), 1, 0, 0, 0, 0), (79, .if_icmp .ne 40, 3, 0, 0, 0, 0), (82, .aload_n 0, 1, 0, 0, 0, 0), (83, .iload 4, 2, 0, 0, 0, 0), (85, .iload_n 3, 1, 0, 0, 0, 0), (86, .iconst 1, 1, 0, 0, 0, 0), (87, .iadd, 1, 0, 0, 0, 0), (88, .invokevirtual 293, 3, 4, 11, 2, 1481), (91, .ifCond .ne 6, 3, 0, 0, 0, 0), (94, .goto 19, 3, 0, 0, 0, 0), (97, .aload_n 0, 1, 0, 0, 0, 0), (98, .iload 4, 2, 0, 0, 0, 0), (100, .putfield 297, 3, 1091, 11, 30, 0), (103, .aload_n 0, 1, 0, 0, 0, 0), (104, .iload_n 3, 1, 0, 0, 0, 0), (105, .iconst 1, 1, 0, 0, 0, 0), (106, .iadd, 1, 0, 0, 0, 0), (107, .iload 4, 2, 0, 0, 0, 0), (109, .isub, 1, 0, 0, 0, 0), (110, .putfield 290, 3, 1092, 11, 31, 0), (113, .iinc 4 1, 3, 0, 0, 0, 0), (116, .goto (-48), 3, 0, 0, 0, 0), (119, .iinc 3 1, 3, 0, 0, 0, 0), (122, .goto (-95), 3, 0, 0, 0, 0), (125, .aload_n 0, 1, 0, 0, 0, 0), (126, .getfield 13, 3, 1062, 11, 1, 0), (129, .aload_n 0, 1, 0, 0, 0, 0), (130, .getfield 7, 3, 1061, 11, 0, 0), (133, .invokestatic 283, 3, 0, 1, 2, 1474), (136, .return_, 1, 0, 0, 0, 0)]
set_option maxRecDepth 100000 in
set_option maxHeartbeats 4000000 in
theorem c_X11_tones (l : Launch) (G : vg_G) (hp : vg_Hp G) : vg_Ct l G vg_sh r_X11_tones := by
  refine vg_meth hp vg_sh_ok r_X11_tones k_X11_tones rfl (fun h => by cases h) o_X11_tones [r_X11_copies, r_X11_beginsLoop, r_X11_lays, r_X11_loops, r_X11_isLike] false (by decide +kernel) (by decide +kernel) ⟨_, _, rfl, rfl⟩ (List.forall_mem_cons.mpr ⟨⟨c_X11_copies l G hp, Nat.le_of_ble_eq_true rfl, Nat.le_of_ble_eq_true rfl⟩, List.forall_mem_cons.mpr ⟨⟨c_X11_beginsLoop l G hp, Nat.le_of_ble_eq_true rfl, Nat.le_of_ble_eq_true rfl⟩, List.forall_mem_cons.mpr ⟨⟨c_X11_lays l G hp, Nat.le_of_ble_eq_true rfl, Nat.le_of_ble_eq_true rfl⟩, List.forall_mem_cons.mpr ⟨⟨c_X11_loops l G hp, Nat.le_of_ble_eq_true rfl, Nat.le_of_ble_eq_true rfl⟩, List.forall_mem_cons.mpr ⟨⟨c_X11_isLike l G hp, Nat.le_of_ble_eq_true rfl, Nat.le_of_ble_eq_true rfl⟩, fun _ h => absurd h List.not_mem_nil⟩⟩⟩⟩⟩) (fun h => by cases h) 600 ?_
  intro as s0 hpre
  obtain ⟨r, a1, a2, rfl, hr, i0⟩ := hpre
  simp only [List.mem_cons, List.not_mem_nil, or_false] at hr
  rcases hr with rfl
  ·
    have zm1 : (Int32.ofInt (-1)).toInt = -1 := by decide
    have z0 : (Int32.ofInt 0).toInt = 0 := by decide
    have z1 : (Int32.ofInt 1).toInt = 1 := by decide
    have z1000 : (Int32.ofInt 1000).toInt = 1000 := by decide
    refine ⟨Nat.le_of_ble_eq_true rfl, [(27, [true, true, true, true, false], (fun L t => ∃ (x3 : Int32), L = [some (.ref 55), some (.int a1), some (.int a2), some (.int x3), none] ∧ (0 : Int) ≤ x3.toInt ∧ x3.toInt ≤ (1000 : Int) ∧ (∀ j : Nat, j < 481 → t.2 57 j = s0.2 56 j) ∧ (t.2 57 0 = s0.2 56 0) ∧ ((t.1 55 31).toInt = -1 ∨ (0 ≤ (t.1 55 30).toInt ∧ 1 ≤ (t.1 55 31).toInt ∧ (t.1 55 30).toInt + (t.1 55 31).toInt ≤ 1000)) ∧ Iv t ∧ Kt s0 t ∧ vk t = ((vk s0).1, (vk s0).2)), (fun L _ => (0 + (1000 - (vg_li L 3).toInt) * 1000000000000).toNat)), (68, [true, true, true, true, true], (fun L t => ∃ (x3 : Int32) (x4 : Int32), L = [some (.ref 55), some (.int a1), some (.int a2), some (.int x3), some (.int x4)] ∧ (0 : Int) ≤ x3.toInt ∧ x3.toInt ≤ (999 : Int) ∧ (0 : Int) ≤ x4.toInt ∧ x4.toInt ≤ (1000 : Int) ∧ (∀ j : Nat, j < 481 → t.2 57 j = s0.2 56 j) ∧ (t.2 57 0 = s0.2 56 0) ∧ ((t.1 55 31).toInt = -1 ∨ (0 ≤ (t.1 55 30).toInt ∧ 1 ≤ (t.1 55 31).toInt ∧ (t.1 55 30).toInt + (t.1 55 31).toInt ≤ 1000)) ∧ Iv t ∧ Kt s0 t ∧ vk t = ((vk s0).1, (vk s0).2)), (fun L _ => (0 + (1000 - (vg_li L 3).toInt) * 1000000000000 - 1000000000000 + 0 + (1000 - (vg_li L 4).toInt) * 100000 + 1).toNat))], ?_, List.forall_mem_cons.mpr ⟨?_, List.forall_mem_cons.mpr ⟨?_, fun _ h => absurd h List.not_mem_nil⟩⟩⟩
    ·
      refine And.intro (Nat.le_of_ble_eq_true rfl) (And.intro ⟨56, 57, rfl, by decide, by decide, i0, by decide⟩ ?_)
      intro s2 h1
      have h1 : (s2.1 = s0.1 ∧ s2.2 57 0 = s0.2 56 0 ∧ (∀ k, k ≠ 57 → s2.2 k = s0.2 k) ∧ ∀ j : Nat, j < 481 → s2.2 57 j = s0.2 56 j) := h1
      have i3 : Iv s2 := Iv.of i0 (fun q _ => by rw [h1.1]) (by rw [h1.1])
      have k4 : Kt s0 s2 := by first | exact vg_cp_out1 Kx.rf h1.1 h1.2.2.1 (by decide) | exact vg_cp_outn Kx.rf h1.1
      have u5 : vk s2 = ((vk s0).1, (vk s0).2) := vk_cpo h1.1 (h1.2.2.1 56 (by decide)) rfl
      have y6 : ∀ j : Nat, j < 481 → s2.2 57 j = s0.2 56 j := h1.2.2.2
      have y7 : s2.2 57 0 = s0.2 56 0 := h1.2.1
      refine And.intro (Nat.le_of_ble_eq_true rfl) (And.intro ⟨55, rfl, by decide, i3⟩ ?_)
      intro s9 h8
      have h8 : Iv s9 ∧ Kp s2 s9 ∧ vk s9 = ((vk s2).1, (vk s2).2) ∧ (True) := h8
      have i10 := h8.1
      have k11 : Kt s0 s9 := Kx.tr k4 (((h8.2.1).pt).pk)
      have u12 : vk s9 = ((vk s0).1, (vk s0).2) := h8.2.2.1.trans u5
      have y13 : ∀ j : Nat, j < 481 → s9.2 57 j = s0.2 56 j := fun j hj => by rw [h8.2.1.2 57 j rfl]; exact y6 j hj
      have y14 : s9.2 57 0 = s0.2 56 0 := by rw [h8.2.1.2 57 0 rfl]; exact y7
      refine And.intro (Nat.le_of_ble_eq_true rfl) (And.intro ⟨55, (Int32.ofInt 0), rfl, by decide, i10, by omega⟩ ?_)
      intro s16 h15
      have h15 : Iv s16 ∧ Kp s9 s16 ∧ vk s16 = ((vk s9).1, (vk s9).2) ∧ (True) := h15
      have i17 := h15.1
      have k18 : Kt s0 s16 := Kx.tr k11 (((h15.2.1).pt).pk)
      have u19 : vk s16 = ((vk s0).1, (vk s0).2) := h15.2.2.1.trans u12
      have y20 : ∀ j : Nat, j < 481 → s16.2 57 j = s0.2 56 j := fun j hj => by rw [h15.2.1.2 57 j rfl]; exact y13 j hj
      have y21 : s16.2 57 0 = s0.2 56 0 := by rw [h15.2.1.2 57 0 rfl]; exact y14
      intro s22 e23
      have i24 : Iv s22 := Iv.u1 i17 e23 rfl
      have k25 : Kt s0 s22 := Kx.u1 k18 e23 rfl
      have u26 : vk s22 = ((vk s0).1, (vk s0).2) := vk_k1 u19 e23 rfl
      have y27 : ∀ j : Nat, j < 481 → s22.2 57 j = s0.2 56 j := by rw [e23]; exact y20
      have y28 : s22.2 57 0 = s0.2 56 0 := by rw [e23]; exact y21
      obtain ⟨v29, e30⟩ : ∃ y, y = s22.1 55 31 := ⟨_, rfl⟩
      have w31 : (Int32.ofInt (-1)) = v29 := by rw [e30, e23]; exact vg_u1_self.symm
      subst w31
      have b32 := congrArg Int32.toInt e30
      have y33 : (s22.1 55 31).toInt = -1 ∨ (0 ≤ (s22.1 55 30).toInt ∧ 1 ≤ (s22.1 55 31).toInt ∧ (s22.1 55 30).toInt + (s22.1 55 31).toInt ≤ 1000) := by first | exact None | omega
      exact ⟨rfl, ⟨(Int32.ofInt 0), rfl, (by omega), (by omega), y27, y28, y33, i24, k25, u26⟩, trivial⟩
    ·
      intro L s40 hL
      obtain ⟨w34, rfl, b35, b36, y37, y38, y39, i41, k42, u43⟩ := hL
      refine And.intro (fun c44 => ?_) (fun c44 => ?_)
      · have c44 : (Int32.ofInt 1000).toInt ≤ w34.toInt := c44
        refine And.intro (Nat.le_of_ble_eq_true rfl) (And.intro ⟨57, 56, rfl, by decide, by decide, i41, by decide⟩ ?_)
        intro s46 h45
        have h45 : (s46.1 = s40.1 ∧ s46.2 56 0 = s40.2 57 0 ∧ (∀ k, k ≠ 56 → s46.2 k = s40.2 k) ∧ ∀ j : Nat, j < 481 → s46.2 56 j = s40.2 57 j) := h45
        have i47 : Iv s46 := Iv.of i41 (fun q _ => by rw [h45.1]) (by rw [h45.1])
        have k48 : Kt s0 s46 := vg_cp_in k42 h45.1 (h45.2.1.trans y38)
        have u49 : vk s46 = ((vk s0).1, (vk s0).2) := vk_cpi h45.1 h45.2.2.2 y37 u43
        have y50 : ∀ j : Nat, j < 481 → s46.2 57 j = s0.2 56 j := by rw [h45.2.2.1 57 (by decide)]; exact y37
        have y51 : s46.2 57 0 = s0.2 56 0 := by rw [h45.2.2.1 57 (by decide)]; exact y38
        have y52 : (s46.1 55 31).toInt = -1 ∨ (0 ≤ (s46.1 55 30).toInt ∧ 1 ≤ (s46.1 55 31).toInt ∧ (s46.1 55 30).toInt + (s46.1 55 31).toInt ≤ 1000) := by rw [h45.1]; exact y39
        show Iv s46 ∧ Kt s0 s46 ∧ vk s46 = ((vk s0).1, (vk s0).2) ∧ ((s46.1 55 31).toInt = -1 ∨ (0 ≤ (s46.1 55 30).toInt ∧ 1 ≤ (s46.1 55 31).toInt ∧ (s46.1 55 30).toInt + (s46.1 55 31).toInt ≤ 1000))
        exact ⟨i47, k48, u49, (y52)⟩
      · have c44 : ¬ ((Int32.ofInt 1000).toInt ≤ w34.toInt) := c44
        refine And.intro (fun c53 => ?_) (fun c53 => ?_)
        · have c53 : ¬ a2.toInt = 0 := c53
          refine And.intro (Nat.le_of_ble_eq_true rfl) (And.intro ⟨55, a1, (Int32.ofInt 0), rfl, by decide, i41⟩ ?_)
          intro v54 s56 h55
          have h55 : Iv s56 ∧ Kp s40 s56 ∧ vk s56 = ((vk s40).1, (vk s40).2) ∧ (True) := h55
          have i57 := h55.1
          have k58 : Kt s0 s56 := Kx.tr k42 (((h55.2.1).pt).pk)
          have u59 : vk s56 = ((vk s0).1, (vk s0).2) := h55.2.2.1.trans u43
          have y60 : ∀ j : Nat, j < 481 → s56.2 57 j = s0.2 56 j := fun j hj => by rw [h55.2.1.2 57 j rfl]; exact y37 j hj
          have y61 : s56.2 57 0 = s0.2 56 0 := by rw [h55.2.1.2 57 0 rfl]; exact y38
          have y62 : (s56.1 55 31).toInt = -1 ∨ (0 ≤ (s56.1 55 30).toInt ∧ 1 ≤ (s56.1 55 31).toInt ∧ (s56.1 55 30).toInt + (s56.1 55 31).toInt ≤ 1000) := by rw [h55.2.1.1 55 30 rfl, h55.2.1.1 55 31 rfl]; exact y39
          refine And.intro ⟨by omega, by omega⟩ ?_
          intro s63 e64
          have i65 : Iv s63 := Iv.a1 i57 e64 rfl
          have k66 : Kt s0 s63 := Kx.u1 k58 e64 rfl
          have u67 : vk s63 = ((vk s0).1, (vk s0).2) := vk_k1 u59 e64 rfl
          have y68 : ∀ j : Nat, j < 481 → s63.2 57 j = s0.2 56 j := by rw [e64]; exact y60
          have y69 : s63.2 57 0 = s0.2 56 0 := by rw [e64]; exact y61
          have y70 : (s63.1 55 31).toInt = -1 ∨ (0 ≤ (s63.1 55 30).toInt ∧ 1 ≤ (s63.1 55 31).toInt ∧ (s63.1 55 30).toInt + (s63.1 55 31).toInt ≤ 1000) := by rw [e64, vg_u1_ne (a := 55) (k := 65) (by decide)]; exact y62
          intro v71 e72
          have b73 := vg_add e72 (by omega) (by omega)
          refine And.intro (Nat.le_of_ble_eq_true rfl) (And.intro ⟨55, v71, rfl, by decide, i65, by omega⟩ ?_)
          intro s75 h74
          have h74 : Iv s75 ∧ Kp s63 s75 ∧ vk s75 = ((vk s63).1, (vk s63).2) ∧ (True) := h74
          have i76 := h74.1
          have k77 : Kt s0 s75 := Kx.tr k66 (((h74.2.1).pt).pk)
          have u78 : vk s75 = ((vk s0).1, (vk s0).2) := h74.2.2.1.trans u67
          have y79 : ∀ j : Nat, j < 481 → s75.2 57 j = s0.2 56 j := fun j hj => by rw [h74.2.1.2 57 j rfl]; exact y68 j hj
          have y80 : s75.2 57 0 = s0.2 56 0 := by rw [h74.2.1.2 57 0 rfl]; exact y69
          have y81 : (s75.1 55 31).toInt = -1 ∨ (0 ≤ (s75.1 55 30).toInt ∧ 1 ≤ (s75.1 55 31).toInt ∧ (s75.1 55 30).toInt + (s75.1 55 31).toInt ≤ 1000) := by rw [h74.2.1.1 55 30 rfl, h74.2.1.1 55 31 rfl]; exact y70
          exact ⟨rfl, ⟨w34, (Int32.ofInt 0), rfl, (by omega), (by omega), (by omega), (by omega), y79, y80, y81, i76, k77, u78⟩, (by show (0 + (1000 - w34.toInt) * 1000000000000 - 1000000000000 + 0 + (1000 - (Int32.ofInt 0).toInt) * 100000 + 1).toNat < (0 + (1000 - w34.toInt) * 1000000000000).toNat; omega)⟩
        · have c53 : ¬ (¬ a2.toInt = 0) := c53
          intro v82 e83
          have g84 : s40.1 55 31 = v82 := by rw [e83]
          have b85 : v82.toInt = (s40.1 55 31).toInt := congrArg Int32.toInt e83
          refine And.intro (fun c86 => ?_) (fun c86 => ?_)
          · have c86 : ¬ v82.toInt = (Int32.ofInt (-1)).toInt := c86
            refine And.intro (Nat.le_of_ble_eq_true rfl) (And.intro ⟨57, 56, rfl, by decide, by decide, i41, by decide⟩ ?_)
            intro s88 h87
            have h87 : (s88.1 = s40.1 ∧ s88.2 56 0 = s40.2 57 0 ∧ (∀ k, k ≠ 56 → s88.2 k = s40.2 k) ∧ ∀ j : Nat, j < 481 → s88.2 56 j = s40.2 57 j) := h87
            have i89 : Iv s88 := Iv.of i41 (fun q _ => by rw [h87.1]) (by rw [h87.1])
            have k90 : Kt s0 s88 := vg_cp_in k42 h87.1 (h87.2.1.trans y38)
            have u91 : vk s88 = ((vk s0).1, (vk s0).2) := vk_cpi h87.1 h87.2.2.2 y37 u43
            have y92 : ∀ j : Nat, j < 481 → s88.2 57 j = s0.2 56 j := by rw [h87.2.2.1 57 (by decide)]; exact y37
            have y93 : s88.2 57 0 = s0.2 56 0 := by rw [h87.2.2.1 57 (by decide)]; exact y38
            have y94 : (s88.1 55 31).toInt = -1 ∨ (0 ≤ (s88.1 55 30).toInt ∧ 1 ≤ (s88.1 55 31).toInt ∧ (s88.1 55 30).toInt + (s88.1 55 31).toInt ≤ 1000) := by rw [h87.1]; exact y39
            show Iv s88 ∧ Kt s0 s88 ∧ vk s88 = ((vk s0).1, (vk s0).2) ∧ ((s88.1 55 31).toInt = -1 ∨ (0 ≤ (s88.1 55 30).toInt ∧ 1 ≤ (s88.1 55 31).toInt ∧ (s88.1 55 30).toInt + (s88.1 55 31).toInt ≤ 1000))
            exact ⟨i89, k90, u91, (y94)⟩
          · have c86 : ¬ (¬ v82.toInt = (Int32.ofInt (-1)).toInt) := c86
            refine And.intro (Nat.le_of_ble_eq_true rfl) (And.intro ⟨55, a1, (Int32.ofInt 0), rfl, by decide, i41⟩ ?_)
            intro v95 s97 h96
            have h96 : Iv s97 ∧ Kp s40 s97 ∧ vk s97 = ((vk s40).1, (vk s40).2) ∧ (True) := h96
            have i98 := h96.1
            have k99 : Kt s0 s97 := Kx.tr k42 (((h96.2.1).pt).pk)
            have u100 : vk s97 = ((vk s0).1, (vk s0).2) := h96.2.2.1.trans u43
            have y101 : ∀ j : Nat, j < 481 → s97.2 57 j = s0.2 56 j := fun j hj => by rw [h96.2.1.2 57 j rfl]; exact y37 j hj
            have y102 : s97.2 57 0 = s0.2 56 0 := by rw [h96.2.1.2 57 0 rfl]; exact y38
            have y103 : (s97.1 55 31).toInt = -1 ∨ (0 ≤ (s97.1 55 30).toInt ∧ 1 ≤ (s97.1 55 31).toInt ∧ (s97.1 55 30).toInt + (s97.1 55 31).toInt ≤ 1000) := by rw [h96.2.1.1 55 30 rfl, h96.2.1.1 55 31 rfl]; exact y39
            refine And.intro ⟨by omega, by omega⟩ ?_
            intro s104 e105
            have i106 : Iv s104 := Iv.a1 i98 e105 rfl
            have k107 : Kt s0 s104 := Kx.u1 k99 e105 rfl
            have u108 : vk s104 = ((vk s0).1, (vk s0).2) := vk_k1 u100 e105 rfl
            have y109 : ∀ j : Nat, j < 481 → s104.2 57 j = s0.2 56 j := by rw [e105]; exact y101
            have y110 : s104.2 57 0 = s0.2 56 0 := by rw [e105]; exact y102
            have y111 : (s104.1 55 31).toInt = -1 ∨ (0 ≤ (s104.1 55 30).toInt ∧ 1 ≤ (s104.1 55 31).toInt ∧ (s104.1 55 30).toInt + (s104.1 55 31).toInt ≤ 1000) := by rw [e105, vg_u1_ne (a := 55) (k := 65) (by decide)]; exact y103
            intro v112 e113
            have b114 := vg_add e113 (by omega) (by omega)
            refine And.intro (Nat.le_of_ble_eq_true rfl) (And.intro ⟨55, v112, rfl, by decide, i106, by omega⟩ ?_)
            intro s116 h115
            have h115 : Iv s116 ∧ Kp s104 s116 ∧ vk s116 = ((vk s104).1, (vk s104).2) ∧ (True) := h115
            have i117 := h115.1
            have k118 : Kt s0 s116 := Kx.tr k107 (((h115.2.1).pt).pk)
            have u119 : vk s116 = ((vk s0).1, (vk s0).2) := h115.2.2.1.trans u108
            have y120 : ∀ j : Nat, j < 481 → s116.2 57 j = s0.2 56 j := fun j hj => by rw [h115.2.1.2 57 j rfl]; exact y109 j hj
            have y121 : s116.2 57 0 = s0.2 56 0 := by rw [h115.2.1.2 57 0 rfl]; exact y110
            have y122 : (s116.1 55 31).toInt = -1 ∨ (0 ≤ (s116.1 55 30).toInt ∧ 1 ≤ (s116.1 55 31).toInt ∧ (s116.1 55 30).toInt + (s116.1 55 31).toInt ≤ 1000) := by rw [h115.2.1.1 55 30 rfl, h115.2.1.1 55 31 rfl]; exact y111
            exact ⟨rfl, ⟨w34, (Int32.ofInt 0), rfl, (by omega), (by omega), (by omega), (by omega), y120, y121, y122, i117, k118, u119⟩, (by show (0 + (1000 - w34.toInt) * 1000000000000 - 1000000000000 + 0 + (1000 - (Int32.ofInt 0).toInt) * 100000 + 1).toNat < (0 + (1000 - w34.toInt) * 1000000000000).toNat; omega)⟩
    ·
      intro L s132 hL
      obtain ⟨w123, w126, rfl, b124, b125, b127, b128, y129, y130, y131, i133, k134, u135⟩ := hL
      refine And.intro (fun c136 => ?_) (fun c136 => ?_)
      · have c136 : w123.toInt < w126.toInt := c136
        intro v137 e138
        have b139 := vg_add e138 (by omega) (by omega)
        exact ⟨rfl, ⟨v137, rfl, (by omega), (by omega), y129, y130, y131, i133, k134, u135⟩, (by show (0 + (1000 - v137.toInt) * 1000000000000).toNat < (0 + (1000 - w123.toInt) * 1000000000000 - 1000000000000 + 0 + (1000 - w126.toInt) * 100000 + 1).toNat; omega)⟩
      · have c136 : ¬ (w123.toInt < w126.toInt) := c136
        intro v140 e141
        have g142 : s132.1 55 31 = v140 := by rw [e141]
        have b143 : v140.toInt = (s132.1 55 31).toInt := congrArg Int32.toInt e141
        refine And.intro (fun c144 => ?_) (fun c144 => ?_)
        · have c144 : ¬ v140.toInt = (Int32.ofInt (-1)).toInt := c144
          intro v145 e146
          have b147 := vg_add e146 (by omega) (by omega)
          exact ⟨rfl, ⟨v145, rfl, (by omega), (by omega), y129, y130, y131, i133, k134, u135⟩, (by show (0 + (1000 - v145.toInt) * 1000000000000).toNat < (0 + (1000 - w123.toInt) * 1000000000000 - 1000000000000 + 0 + (1000 - w126.toInt) * 100000 + 1).toNat; omega)⟩
        · have c144 : ¬ (¬ v140.toInt = (Int32.ofInt (-1)).toInt) := c144
          intro v148 e149
          have b150 := vg_add e149 (by omega) (by omega)
          refine And.intro (Nat.le_of_ble_eq_true rfl) (And.intro ⟨55, w126, v148, rfl, by decide, i133, by omega⟩ ?_)
          intro v151 s153 h152
          have h152 : s153 = s132 ∧ (0 ≤ v151.toInt ∧ v151.toInt ≤ 1) := h152
          have q156 := h152.1.symm
          subst q156
          have q157 := h152.2
          refine And.intro (fun c158 => ?_) (fun c158 => ?_)
          · have c158 : ¬ v151.toInt = 0 := c158
            intro s159 e160
            have i161 : Iv s159 := Iv.u1 i133 e160 rfl
            have k162 : Kt s0 s159 := Kx.u1 k134 e160 rfl
            have u163 : vk s159 = ((vk s0).1, (vk s0).2) := vk_k1 u135 e160 rfl
            have y164 : ∀ j : Nat, j < 481 → s159.2 57 j = s0.2 56 j := by rw [e160]; exact y129
            have y165 : s159.2 57 0 = s0.2 56 0 := by rw [e160]; exact y130
            intro v166 e167
            have b168 := vg_add e167 (by omega) (by omega)
            intro v169 e170
            have b171 := vg_sub e170 (by omega) (by omega)
            intro s172 e173
            have i174 : Iv s172 := Iv.u1 i161 e173 rfl
            have k175 : Kt s0 s172 := Kx.u1 k162 e173 rfl
            have u176 : vk s172 = ((vk s0).1, (vk s0).2) := vk_k1 u163 e173 rfl
            have y177 : ∀ j : Nat, j < 481 → s172.2 57 j = s0.2 56 j := by rw [e173]; exact y164
            have y178 : s172.2 57 0 = s0.2 56 0 := by rw [e173]; exact y165
            obtain ⟨v179, e180⟩ : ∃ y, y = s172.1 55 30 := ⟨_, rfl⟩
            have w181 : w126 = v179 := by rw [e180, e173, vg_u1_at (a := 55) (b := 30) (k := 55) (i := 31) (by decide), e160]; exact vg_u1_self.symm
            subst w181
            have b182 := congrArg Int32.toInt e180
            obtain ⟨v183, e184⟩ : ∃ y, y = s172.1 55 31 := ⟨_, rfl⟩
            have w185 : v169 = v183 := by rw [e184, e173]; exact vg_u1_self.symm
            subst w185
            have b186 := congrArg Int32.toInt e184
            have y187 : (s172.1 55 31).toInt = -1 ∨ (0 ≤ (s172.1 55 30).toInt ∧ 1 ≤ (s172.1 55 31).toInt ∧ (s172.1 55 30).toInt + (s172.1 55 31).toInt ≤ 1000) := by first | exact None | omega
            intro v188 e189
            have b190 := vg_add e189 (by omega) (by omega)
            exact ⟨rfl, ⟨w123, v188, rfl, (by omega), (by omega), (by omega), (by omega), y177, y178, y187, i174, k175, u176⟩, (by show (0 + (1000 - w123.toInt) * 1000000000000 - 1000000000000 + 0 + (1000 - v188.toInt) * 100000 + 1).toNat < (0 + (1000 - w123.toInt) * 1000000000000 - 1000000000000 + 0 + (1000 - w126.toInt) * 100000 + 1).toNat; omega)⟩
          · have c158 : ¬ (¬ v151.toInt = 0) := c158
            obtain ⟨v191, e192⟩ : ∃ y, y = s132.1 55 30 := ⟨_, rfl⟩
            have g193 : s132.1 55 30 = v191 := by rw [e192]
            have b194 := congrArg Int32.toInt e192
            obtain ⟨v195, e196⟩ : ∃ y, y = s132.1 55 31 := ⟨_, rfl⟩
            have w197 : v140 = v195 := by rw [e196, g142]
            subst w197
            have b198 := congrArg Int32.toInt e196
            have y199 : (s132.1 55 31).toInt = -1 ∨ (0 ≤ (s132.1 55 30).toInt ∧ 1 ≤ (s132.1 55 31).toInt ∧ (s132.1 55 30).toInt + (s132.1 55 31).toInt ≤ 1000) := by first | exact y131 | omega
            intro v200 e201
            have b202 := vg_add e201 (by omega) (by omega)
            exact ⟨rfl, ⟨w123, v200, rfl, (by omega), (by omega), (by omega), (by omega), y129, y130, y199, i133, k134, u135⟩, (by show (0 + (1000 - w123.toInt) * 1000000000000 - 1000000000000 + 0 + (1000 - v200.toInt) * 100000 + 1).toNat < (0 + (1000 - w123.toInt) * 1000000000000 - 1000000000000 + 0 + (1000 - w126.toInt) * 100000 + 1).toNat; omega)⟩
def o_X11_asks : List vg_I := [(0, .iconst 0, 1, 0, 0, 0, 0), (1, .istore_n 2, 1, 0, 0, 0, 0), (2, .iload_n 2, 1, 0, 0, 0, 0), (3, .aload_n 0, 1, 0, 0, 0, 0), (4, .getfield 252, 3, 1094, 11, 33, 0), (7, .if_icmp .ge 20, 3, 0, 0, 0, 0), (10, .aload_n 0, 1, 0, 0, 0, 0), (11, .getfield 67, 3, 1093, 11, 32, 0), (14, .iload_n 2, 1, 0, 0, 0, 0), (15, .iaload, 1, 0, 0, 0, 0), (16, .iload_n 1, 1, 0, 0, 0, 0), (17, .if_icmp .ne 4, 3, 0, 0, 0, 0), (20, .return_, 1, 0, 0, 0, 0), (21, .iinc 2 1, 3, 0, 0, 0, 0), (24, .goto (-22), 3, 0, 0, 0, 0), (27, .aload_n 0, 1, 0, 0, 0, 0), (28, .getfield 67, 3, 1093, 11, 32, 0), (31, .aload_n 0, 1, 0, 0, 0, 0), (32, .getfield 252, 3, 1094, 11, 33, 0), (35, .iload_n 1, 1, 0, 0, 0, 0), (36, .iastore, 1, 0, 0, 0, 0), (37, .aload_n 0, 1, 0, 0, 0, 0), (38, .dup, 1, 0, 0, 0, 0), (39, .getfield 252, 3, 1094, 11, 33, 0), (42, .iconst 1, 1, 0, 0, 0, 0), (43, .iadd, 1, 0, 0, 0, 0), (44, .putfield 252, 3, 1094, 11, 33, 0), (47, .aload_n 0, 1, 0, 0, 0, 0), (48, .getfield 252, 3, 1094, 11, 33, 0), (51, .bipush 12, 2, 0, 0, 0, 0), (53, .if_icmp .gt 4, 3, 0, 0, 0, 0), (56, .return_, 1, 0, 0, 0, 0), (57, .aload_n 0, 1, 0, 0, 0, 0), (58, .dup, 1, 0, 0, 0, 0), (59, .getfield 252, 3, 1094, 11, 33, 0), (62, .iconst 1, 1, 0, 0, 0, 0), (63, .isub, 1, 0, 0, 0, 0), (64, .putfield 252, 3, 1094, 11, 33, 0), (67, .iconst 0, 1, 0, 0, 0, 0), (68, .istore_n 2, 1, 0, 0, 0, 0), (69, .iload_n 2, 1, 0, 0, 0, 0), (70, .aload_n 0, 1, 0, 0, 0, 0), (71, .getfield 252, 3, 1094, 11, 33, 0), (74, .if_icmp .ge 23, 3, 0, 0, 0, 0), (77, .aload_n 0, 1, 0, 0, 0, 0), (78, .getfield 67, 3, 1093, 11, 32, 0), (81, .iload_n 2, 1, 0, 0, 0, 0), (82, .aload_n 0, 1, 0, 0, 0, 0), (83, .getfield 67, 3, 1093, 11, 32, 0), (86, .iload_n 2, 1, 0, 0, 0, 0), (87, .iconst 1, 1, 0, 0, 0, 0), (88, .iadd, 1, 0, 0, 0, 0), (89, .iaload, 1, 0, 0, 0, 0), (90, .iastore, 1, 0, 0, 0, 0), (91, .iinc 2 1, 3, 0, 0, 0, 0), (94, .goto (-25), 3, 0, 0, 0, 0), (97, .return_, 1, 0, 0, 0, 0)]
set_option maxRecDepth 100000 in
set_option maxHeartbeats 4000000 in
theorem c_X11_asks (l : Launch) (G : vg_G) (hp : vg_Hp G) : vg_Ct l G vg_sh r_X11_asks := by
  refine vg_meth hp vg_sh_ok r_X11_asks k_X11_asks rfl (fun h => by cases h) o_X11_asks [] false (by decide +kernel) (by decide +kernel) ⟨_, _, rfl, rfl⟩ (fun _ h => absurd h List.not_mem_nil) (fun h => by cases h) 600 ?_
  intro as s0 hpre
  obtain ⟨r, a1, rfl, hr, i0⟩ := hpre
  simp only [List.mem_cons, List.not_mem_nil, or_false] at hr
  rcases hr with rfl
  ·
    have z0 : (Int32.ofInt 0).toInt = 0 := by decide
    have z1 : (Int32.ofInt 1).toInt = 1 := by decide
    have z12 : (Int32.ofInt 12).toInt = 12 := by decide
    refine ⟨Nat.le_of_ble_eq_true rfl, [(2, [true, true, true], (fun L t => ∃ (x2 : Int32), L = [some (.ref 55), some (.int a1), some (.int x2)] ∧ (0 : Int) ≤ x2.toInt ∧ x2.toInt ≤ (12 : Int) ∧ (t.1 55 33 = s0.1 55 33 ∧ t.1 66 = s0.1 66 ∧ ∀ j : Nat, (j : Int) < x2.toInt → s0.1 66 j ≠ a1) ∧ Iv t ∧ K_X11_asks s0 t ∧ vk t = ((vk s0).1, (vk s0).2)), (fun L _ => (10000000000000000 + (12 - (vg_li L 2).toInt) * 1000000000000).toNat)), (69, [true, false, true], (fun L t => ∃ (x2 : Int32), L = [some (.ref 55), none, some (.int x2)] ∧ (0 : Int) ≤ x2.toInt ∧ x2.toInt ≤ (12 : Int) ∧ (vg_asx s0 t a1 x2) ∧ Iv t ∧ K_X11_asks s0 t ∧ vk t = ((vk s0).1, (vk s0).2)), (fun L _ => (0 + (12 - (vg_li L 2).toInt) * 1000000000000).toNat))], ?_, List.forall_mem_cons.mpr ⟨?_, List.forall_mem_cons.mpr ⟨?_, fun _ h => absurd h List.not_mem_nil⟩⟩⟩
    ·
      exact ⟨rfl, ⟨(Int32.ofInt 0), rfl, (by omega), (by omega), (by first | exact ⟨rfl, rfl, fun j hj => absurd hj (by omega)⟩ | exact ⟨None.1, None.2.1, vg_nf_step None.2.2 None None.2.1 None (by omega) (by omega)⟩), i0, Kx.rf, rfl⟩, trivial⟩
    ·
      intro L s5 hL
      obtain ⟨w1, rfl, b2, b3, x4, i6, k7, u8⟩ := hL
      have y0 := congrArg Int32.toInt x4.1
      intro v9 e10
      have g11 : s5.1 55 33 = v9 := by rw [e10]
      have b12 : v9.toInt = (s5.1 55 33).toInt := congrArg Int32.toInt e10
      have b13 : (0 : Int) ≤ v9.toInt ∧ v9.toInt ≤ 12 := by rw [e10]; exact Iv_55_33 i6
      refine And.intro (fun c14 => ?_) (fun c14 => ?_)
      · have c14 : v9.toInt ≤ w1.toInt := c14
        intro v15 e16
        have w17 : v9 = v15 := by rw [e16, g11]
        subst w17
        refine And.intro ⟨by omega, by omega⟩ ?_
        intro s18 e19
        have i20 : Iv s18 := Iv.a1 i6 e19 rfl
        have k21 : K_X11_asks s0 s18 := Kx.u1 k7 e19 rfl
        have u22 : vk s18 = ((vk s0).1, (vk s0).2) := vk_k1 u8 e19 rfl
        intro v23 e24
        have w25 : v9 = v23 := by rw [e24, e19, vg_u1_ne (a := 55) (k := 66) (by decide), g11]
        subst w25
        intro v26 e27
        have b28 := vg_add e27 (by omega) (by omega)
        intro s29 e30
        have k32 : K_X11_asks s0 s29 := Kx.u1 k21 e30 rfl
        have u33 : vk s29 = ((vk s0).1, (vk s0).2) := vk_k1 u22 e30 rfl
        intro v34 e35
        have w36 : v26 = v34 := by rw [e35, e30]; exact vg_u1_self.symm
        subst w36
        refine And.intro (fun c37 => ?_) (fun c37 => ?_)
        · have c37 : (Int32.ofInt 12).toInt < v26.toInt := c37
          intro v38 e39
          have w40 : v26 = v38 := by rw [e39, e30]; exact vg_u1_self.symm
          subst w40
          intro v41 e42
          have b43 := vg_sub e42 (by omega) (by omega)
          intro s44 e45
          have k47 : K_X11_asks s0 s44 := Kx.u1 k32 e45 rfl
          have u48 : vk s44 = ((vk s0).1, (vk s0).2) := vk_k1 u33 e45 rfl
          have i49 : Iv s44 := vg_ivc2 i20 e30 e45 (by omega) (by omega)
          exact ⟨rfl, ⟨(Int32.ofInt 0), rfl, (by omega), (by omega), (by first | exact vg_asx0 e19 e30 e45 x4.2.1 x4.2.2 (by omega) (by omega) (by omega) (by omega) | exact vg_asx1 x4 None e45 (by omega) (by omega) (by omega)), i49, k47, u48⟩, (by show (0 + (12 - (Int32.ofInt 0).toInt) * 1000000000000).toNat < (10000000000000000 + (12 - w1.toInt) * 1000000000000).toNat; omega)⟩
        · have c37 : ¬ ((Int32.ofInt 12).toInt < v26.toInt) := c37
          have i50 : Iv s29 := Iv.c1 (lo := 0) (hi := 12) i20 e30 rfl (by omega) (by omega)
          show Iv s29 ∧ K_X11_asks s0 s29 ∧ vk s29 = ((vk s0).1, (vk s0).2) ∧ (vg_adk (s0.1 55 33).toInt (s0.1 66) a1 (s29.1 55 33).toInt (s29.1 66))
          exact ⟨i50, k32, u33, (by first | exact vg_adk_in None x4.2.1 c37 (by omega) (by omega) y0 | exact vg_adk_out (by decide) e19 e30 x4.2.1 x4.2.2 (by omega) (by omega) (by omega) (by omega) | exact vg_ask_full x4 (by omega))⟩
      · have c14 : ¬ (v9.toInt ≤ w1.toInt) := c14
        refine And.intro ⟨by omega, by omega⟩ ?_
        intro v51 e52
        refine And.intro (fun c53 => ?_) (fun c53 => ?_)
        · have c53 : ¬ v51.toInt = a1.toInt := c53
          intro v54 e55
          have b56 := vg_add e55 (by omega) (by omega)
          exact ⟨rfl, ⟨v54, rfl, (by omega), (by omega), (by first | exact ⟨rfl, rfl, fun j hj => absurd hj (by omega)⟩ | exact ⟨x4.1, x4.2.1, vg_nf_step x4.2.2 e52 x4.2.1 c53 (by omega) (by omega)⟩), i6, k7, u8⟩, (by show (10000000000000000 + (12 - v54.toInt) * 1000000000000).toNat < (10000000000000000 + (12 - w1.toInt) * 1000000000000).toNat; omega)⟩
        · have c53 : ¬ (¬ v51.toInt = a1.toInt) := c53
          show Iv s5 ∧ K_X11_asks s0 s5 ∧ vk s5 = ((vk s0).1, (vk s0).2) ∧ (vg_adk (s0.1 55 33).toInt (s0.1 66) a1 (s5.1 55 33).toInt (s5.1 66))
          exact ⟨i6, k7, u8, (by first | exact vg_adk_in e52 x4.2.1 c53 (by omega) (by omega) y0 | exact vg_adk_out (by decide)  x4.2.1 x4.2.2 (by omega) (by omega) (by omega) (by omega) | exact vg_ask_full x4 (by omega))⟩
    ·
      intro L s61 hL
      obtain ⟨w57, rfl, b58, b59, x60, i62, k63, u64⟩ := hL
      have y0 := x60.1
      intro v65 e66
      have g67 : s61.1 55 33 = v65 := by rw [e66]
      have b68 : v65.toInt = (s61.1 55 33).toInt := congrArg Int32.toInt e66
      have b69 : (0 : Int) ≤ v65.toInt ∧ v65.toInt ≤ 12 := by rw [e66]; exact Iv_55_33 i62
      refine And.intro (fun c70 => ?_) (fun c70 => ?_)
      · have c70 : v65.toInt ≤ w57.toInt := c70
        show Iv s61 ∧ K_X11_asks s0 s61 ∧ vk s61 = ((vk s0).1, (vk s0).2) ∧ (vg_adk (s0.1 55 33).toInt (s0.1 66) a1 (s61.1 55 33).toInt (s61.1 66))
        exact ⟨i62, k63, u64, (by first | exact vg_adk_in None x60.2.1 c70 (by omega) (by omega) y0 | exact vg_adk_out (by decide)  x60.2.1 x60.2.2 (by omega) (by omega) (by omega) (by omega) | exact vg_ask_full x60 (by omega))⟩
      · have c70 : ¬ (v65.toInt ≤ w57.toInt) := c70
        intro v71 e72
        have b73 := vg_add e72 (by omega) (by omega)
        refine And.intro ⟨by omega, by omega⟩ ?_
        intro v74 e75
        refine And.intro ⟨by omega, by omega⟩ ?_
        intro s76 e77
        have i78 : Iv s76 := Iv.a1 i62 e77 rfl
        have k79 : K_X11_asks s0 s76 := Kx.u1 k63 e77 rfl
        have u80 : vk s76 = ((vk s0).1, (vk s0).2) := vk_k1 u64 e77 rfl
        intro v81 e82
        have b83 := vg_add e82 (by omega) (by omega)
        exact ⟨rfl, ⟨v81, rfl, (by omega), (by omega), (by first | exact vg_asx0 e77 x60.2.1 x60.2.2 (by omega) (by omega) (by omega) (by omega) | exact vg_asx1 x60 e75 e77 (by omega) (by omega) (by omega)), i78, k79, u80⟩, (by show (0 + (12 - v81.toInt) * 1000000000000).toNat < (0 + (12 - w57.toInt) * 1000000000000).toNat; omega)⟩
def o_X11_inPattern : List vg_I := [(0, .aload_n 0, 1, 0, 0, 0, 0), (1, .getfield 64, 3, 1090, 11, 29, 0), (4, .aload_n 0, 1, 0, 0, 0, 0), (5, .getfield 297, 3, 1091, 11, 30, 0), (8, .iload_n 1, 1, 0, 0, 0, 0), (9, .aload_n 0, 1, 0, 0, 0, 0), (10, .getfield 290, 3, 1092, 11, 31, 0), (13, .irem, 1, 0, 0, 0, 0), (14, .iadd, 1, 0, 0, 0, 0), (15, .iaload, 1, 0, 0, 0, 0), (16, .ireturn, 1, 0, 0, 0, 0)]
set_option maxRecDepth 100000 in
set_option maxHeartbeats 4000000 in
theorem c_X11_inPattern (l : Launch) (G : vg_G) (hp : vg_Hp G) : vg_Ct l G vg_sh r_X11_inPattern := by
  refine vg_meth hp vg_sh_ok r_X11_inPattern k_X11_inPattern rfl (fun h => by cases h) o_X11_inPattern [] false (by decide +kernel) (by decide +kernel) ⟨_, _, rfl, rfl⟩ (fun _ h => absurd h List.not_mem_nil) (fun h => by cases h) 600 ?_
  intro as s0 hpre
  obtain ⟨r, a1, rfl, hr, i0, p0⟩ := hpre
  have ra1 := vg_rng a1
  simp only [List.mem_cons, List.not_mem_nil, or_false] at hr
  rcases hr with rfl
  ·
    refine ⟨Nat.le_of_ble_eq_true rfl, [], ?_, fun _ h => absurd h List.not_mem_nil⟩
    ·
      intro v1 e2
      have g3 : s0.1 55 30 = v1 := by rw [e2]
      have b4 : v1.toInt = (s0.1 55 30).toInt := congrArg Int32.toInt e2
      intro v5 e6
      have g7 : s0.1 55 31 = v5 := by rw [e6]
      have b8 : v5.toInt = (s0.1 55 31).toInt := congrArg Int32.toInt e6
      refine And.intro (by omega) ?_
      intro v9 e10
      have b11 := (vg_rem e10 (by omega) (by omega)).2
      intro v12 e13
      have b14 := vg_add e13 (by omega) (by omega)
      refine And.intro ⟨by omega, by omega⟩ ?_
      intro v15 e16
      show s0 = s0 ∧ (True)
      exact ⟨rfl, (trivial)⟩
def o_X11_ofPattern : List vg_I := [(0, .iconst 0, 1, 0, 0, 0, 0), (1, .istore_n 2, 1, 0, 0, 0, 0), (2, .iconst 0, 1, 0, 0, 0, 0), (3, .istore_n 3, 1, 0, 0, 0, 0), (4, .iconst 0, 1, 0, 0, 0, 0), (5, .istore 4, 2, 0, 0, 0, 0), (7, .iconst 0, 1, 0, 0, 0, 0), (8, .istore 5, 2, 0, 0, 0, 0), (10, .iconst 0, 1, 0, 0, 0, 0), (11, .istore 6, 2, 0, 0, 0, 0), (13, .iload 6, 2, 0, 0, 0, 0), (15, .aload_n 0, 1, 0, 0, 0, 0), (16, .getfield 290, 3, 1092, 11, 31, 0), (19, .if_icmp .ge 149, 3, 0, 0, 0, 0), (22, .iload_n 2, 1, 0, 0, 0, 0), (23, .aload_n 0, 1, 0, 0, 0, 0), (24, .iload 6, 2, 0, 0, 0, 0), (26, .invokevirtual 300, 3, 0, 11, 1, 1489), (29, .iadd, 1, 0, 0, 0, 0), (30, .istore_n 2, 1, 0, 0, 0, 0), (31, .iload 4, 2, 0, 0, 0, 0), (33, .aload_n 0, 1, 0, 0, 0, 0), (34, .iload 6, 2, 0, 0, 0, 0), (36, .invokevirtual 300, 3, 0, 11, 1, 1489), (39, .aload_n 0, 1, 0, 0, 0, 0), (40, .iload 6, 2, 0, 0, 0, 0), (42, .iconst 1, 1, 0, 0, 0, 0), (43, .iadd, 1, 0, 0, 0, 0), (44, .invokevirtual 300, 3, 0, 11, 1, 1489), (47, .if_icmp .eq 7, 3, 0, 0, 0, 0), (50, .iconst 1, 1, 0, 0, 0, 0), (51, .goto 4, 3, 0, 0, 0, 0), (54, .iconst 0, 1, 0, 0, 0, 0), (55, .iadd, 1, 0, 0, 0, 0), (56, .istore 4, 2, 0, 0, 0, 0), (58, .iconst 1, 1, 0, 0, 0, 0), (59, .istore 7, 2, 0, 0, 0, 0), (61, .iconst 0, 1, 0, 0, 0, 0), (62, .istore 8, 2, 0, 0, 0, 0), (64, .iload 8, 2, 0, 0, 0, 0), (66, .iload 6, 2, 0, 0, 0, 0), (68, .if_icmp .ge 36, 3, 0, 0, 0, 0), (71, .iload 7, 2, 0, 0, 0, 0), (73, .ifCond .eq 22, 3, 0, 0, 0, 0), (76, .aload_n 0, 1, 0, 0, 0, 0), (77, .iload 8, 2, 0, 0, 0, 0), (79, .invokevirtual 300, 3, 0, 11, 1, 1489), (82, .aload_n 0, 1, 0, 0, 0, 0), (83, .iload 6, 2, 0, 0, 0, 0), (85, .invokevirtual 300, 3, 0, 11, 1, 1489), (88, .if_icmp .eq 7, 3, 0, 0, 0, 0), (91, .iconst 1, 1, 0, 0, 0, 0), (92, .goto 4, 3, 0, 0, 0, 0), (95, .iconst 0, 1, 0, 0, 0, 0), (96, .istore 7, 2, 0, 0, 0, 0), (98, .iinc 8 1, 3, 0, 0, 0, 0), (101, .goto (-37), 3, 0, 0, 0, 0), (104, .iload_n 3, 1, 0, 0, 0, 0), (105, .iload 7, 2, 0, 0, 0, 0), (107, .ifCond .eq 7, 3, 0, 0, 0, 0), (110, .iconst 1, 1, 0, 0, 0, 0), (111, .goto 4, 3, 0, 0, 0, 0), (114, .iconst 0, 1, 0, 0, 0, 0), (115, .iadd, 1, 0, 0, 0, 0), (116, .istore_n 3, 1, 0, 0, 0, 0), (117, .iconst 1, 1, 0, 0, 0, 0), (118, .istore 8, 2, 0, 0, 0, 0), (120, .iload 8, 2, 0, 0, 0, 0), (122, .aload_n 0, 1, 0, 0, 0, 0), (123, .getfield 290, 3, 1092, 11, 31, 0), (126, .if_icmp .ge 27, 3, 0, 0, 0, 0), (129, .aload_n 0, 1, 0, 0, 0, 0), (130, .iload 6, 2, 0, 0, 0, 0), (132, .iload 8, 2, 0, 0, 0, 0), (134, .iadd, 1, 0, 0, 0, 0), (135, .invokevirtual 300, 3, 0, 11, 1, 1489), (138, .aload_n 0, 1, 0, 0, 0, 0), (139, .iload 6, 2, 0, 0, 0, 0), (141, .invokevirtual 300, 3, 0, 11, 1, 1489), (144, .if_icmp .ne 9, 3, 0, 0, 0, 0), (147, .iinc 8 1, 3, 0, 0, 0, 0), (150, .goto (-30), 3, 0, 0, 0, 0), (153, .iload 5, 2, 0, 0, 0, 0), (155, .iload 8, 2, 0, 0, 0, 0), (157, .invokestatic 90, 3, 1, 1, 2, 1201), (160, .istore 5, 2, 0, 0, 0, 0), (162, .iinc 6 1, 3, 0, 0, 0, 0), (165, .goto (-152), 3, 0, 0, 0, 0), (168, .iload_n 1, 1, 0, 0, 0, 0), (169, .iconst 2, 1, 0, 0, 0, 0), (170, .if_icmp .ne 7, 3, 0, 0, 0, 0), (173, .iload_n 2, 1, 0, 0, 0, 0), (174, .goto 24, 3, 0, 0, 0, 0), (177, .iload_n 1, 1, 0, 0, 0, 0), (178, .iconst 3, 1, 0, 0, 0, 0), (179, .if_icmp .ne 7, 3, 0, 0, 0, 0), (182, .iload_n 3, 1, 0, 0, 0, 0), (183, .goto 15, 3, 0, 0, 0, 0), (186, .iload_n 1, 1, 0, 0, 0, 0), (187, .iconst 4, 1, 0, 0, 0, 0), (188, .if_icmp .ne 8, 3, 0, 0, 0, 0), (191, .iload 4, 2, 0, 0, 0, 0), (193, .goto 5, 3, 0, 0, 0, 0), (196, .iload 5, 2, 0, 0, 0, 0), (198, .ireturn, 1, 0, 0, 0, 0)]
set_option maxRecDepth 100000 in
set_option maxHeartbeats 4000000 in
theorem c_X11_ofPattern (l : Launch) (G : vg_G) (hp : vg_Hp G) : vg_Ct l G vg_sh r_X11_ofPattern := by
  refine vg_meth hp vg_sh_ok r_X11_ofPattern k_X11_ofPattern rfl (fun h => by cases h) o_X11_ofPattern [r_X11_inPattern, r_J9_max_7cf53] false (by decide +kernel) (by decide +kernel) ⟨_, _, rfl, rfl⟩ (List.forall_mem_cons.mpr ⟨⟨c_X11_inPattern l G hp, Nat.le_of_ble_eq_true rfl, Nat.le_of_ble_eq_true rfl⟩, List.forall_mem_cons.mpr ⟨⟨c_J9_max_7cf53 l G hp, Nat.le_of_ble_eq_true rfl, Nat.le_of_ble_eq_true rfl⟩, fun _ h => absurd h List.not_mem_nil⟩⟩) (fun h => by cases h) 600 ?_
  intro as s0 hpre
  obtain ⟨r, a1, rfl, hr, i0, p0⟩ := hpre
  simp only [List.mem_cons, List.not_mem_nil, or_false] at hr
  rcases hr with rfl
  ·
    have z0 : (Int32.ofInt 0).toInt = 0 := by decide
    have z1 : (Int32.ofInt 1).toInt = 1 := by decide
    have z2 : (Int32.ofInt 2).toInt = 2 := by decide
    have z3 : (Int32.ofInt 3).toInt = 3 := by decide
    have z4 : (Int32.ofInt 4).toInt = 4 := by decide
    refine ⟨Nat.le_of_ble_eq_true rfl, [(13, [true, true, true, true, true, true, true, false, false], (fun L t => ∃ (x2 : Int32) (x3 : Int32) (x4 : Int32) (x5 : Int32) (x6 : Int32), L = [some (.ref 55), some (.int a1), some (.int x2), some (.int x3), some (.int x4), some (.int x5), some (.int x6), none, none] ∧ (0 : Int) ≤ x6.toInt ∧ x6.toInt ≤ (1000 : Int) ∧ t = s0), (fun L _ => (0 + (1000 - (vg_li L 6).toInt) * 1000000000000).toNat)), (64, [true, true, true, true, true, true, true, true, true], (fun L t => ∃ (x2 : Int32) (x3 : Int32) (x4 : Int32) (x5 : Int32) (x6 : Int32) (x7 : Int32) (x8 : Int32), L = [some (.ref 55), some (.int a1), some (.int x2), some (.int x3), some (.int x4), some (.int x5), some (.int x6), some (.int x7), some (.int x8)] ∧ (0 : Int) ≤ x6.toInt ∧ x6.toInt ≤ (999 : Int) ∧ (0 : Int) ≤ x8.toInt ∧ x8.toInt ≤ (999 : Int) ∧ t = s0), (fun L _ => (0 + (1000 - (vg_li L 6).toInt) * 1000000000000 - 1000000000000 + 10000000000 + (999 - (vg_li L 8).toInt) * 100000 + 1).toNat)), (120, [true, true, true, true, true, true, true, false, true], (fun L t => ∃ (x2 : Int32) (x3 : Int32) (x4 : Int32) (x5 : Int32) (x6 : Int32) (x8 : Int32), L = [some (.ref 55), some (.int a1), some (.int x2), some (.int x3), some (.int x4), some (.int x5), some (.int x6), none, some (.int x8)] ∧ (0 : Int) ≤ x6.toInt ∧ x6.toInt ≤ (999 : Int) ∧ (1 : Int) ≤ x8.toInt ∧ x8.toInt ≤ (1000 : Int) ∧ t = s0), (fun L _ => (0 + (1000 - (vg_li L 6).toInt) * 1000000000000 - 1000000000000 + 0 + (1000 - (vg_li L 8).toInt) * 100000 + 1).toNat))], ?_, List.forall_mem_cons.mpr ⟨?_, List.forall_mem_cons.mpr ⟨?_, List.forall_mem_cons.mpr ⟨?_, fun _ h => absurd h List.not_mem_nil⟩⟩⟩⟩
    ·
      exact ⟨rfl, ⟨(Int32.ofInt 0), (Int32.ofInt 0), (Int32.ofInt 0), (Int32.ofInt 0), (Int32.ofInt 0), rfl, (by omega), (by omega), rfl⟩, trivial⟩
    ·
      intro L s8 hL
      obtain ⟨w1, w2, w3, w4, w5, rfl, b6, b7, q11⟩ := hL
      have q11 := q11.symm
      subst q11
      intro v12 e13
      have g14 : s0.1 55 31 = v12 := by rw [e13]
      have b15 : v12.toInt = (s0.1 55 31).toInt := congrArg Int32.toInt e13
      refine And.intro (fun c16 => ?_) (fun c16 => ?_)
      · have c16 : v12.toInt ≤ w5.toInt := c16
        refine And.intro (fun c17 => ?_) (fun c17 => ?_)
        · have c17 : ¬ a1.toInt = (Int32.ofInt 2).toInt := c17
          refine And.intro (fun c18 => ?_) (fun c18 => ?_)
          · have c18 : ¬ a1.toInt = (Int32.ofInt 3).toInt := c18
            refine And.intro (fun c19 => ?_) (fun c19 => ?_)
            · have c19 : ¬ a1.toInt = (Int32.ofInt 4).toInt := c19
              show s0 = s0 ∧ (True)
              exact ⟨rfl, (trivial)⟩
            · have c19 : ¬ (¬ a1.toInt = (Int32.ofInt 4).toInt) := c19
              show s0 = s0 ∧ (True)
              exact ⟨rfl, (trivial)⟩
          · have c18 : ¬ (¬ a1.toInt = (Int32.ofInt 3).toInt) := c18
            show s0 = s0 ∧ (True)
            exact ⟨rfl, (trivial)⟩
        · have c17 : ¬ (¬ a1.toInt = (Int32.ofInt 2).toInt) := c17
          show s0 = s0 ∧ (True)
          exact ⟨rfl, (trivial)⟩
      · have c16 : ¬ (v12.toInt ≤ w5.toInt) := c16
        refine And.intro (Nat.le_of_ble_eq_true rfl) (And.intro ⟨55, w5, rfl, by decide, i0, by omega⟩ ?_)
        intro v20 s22 h21
        have h21 : s22 = s0 ∧ (True) := h21
        have q25 := h21.1.symm
        subst q25
        intro v26 e27
        refine And.intro (Nat.le_of_ble_eq_true rfl) (And.intro ⟨55, w5, rfl, by decide, i0, by omega⟩ ?_)
        intro v28 s30 h29
        have h29 : s30 = s0 ∧ (True) := h29
        have q33 := h29.1.symm
        subst q33
        intro v34 e35
        have b36 := vg_add e35 (by omega) (by omega)
        refine And.intro (Nat.le_of_ble_eq_true rfl) (And.intro ⟨55, v34, rfl, by decide, i0, by omega⟩ ?_)
        intro v37 s39 h38
        have h38 : s39 = s0 ∧ (True) := h38
        have q42 := h38.1.symm
        subst q42
        refine And.intro (fun c43 => ?_) (fun c43 => ?_)
        · have c43 : v28.toInt = v37.toInt := c43
          intro v44 e45
          exact ⟨rfl, ⟨v26, w2, v44, w4, w5, (Int32.ofInt 1), (Int32.ofInt 0), rfl, (by omega), (by omega), (by omega), (by omega), rfl⟩, (by show (0 + (1000 - w5.toInt) * 1000000000000 - 1000000000000 + 10000000000 + (999 - (Int32.ofInt 0).toInt) * 100000 + 1).toNat < (0 + (1000 - w5.toInt) * 1000000000000).toNat; omega)⟩
        · have c43 : ¬ (v28.toInt = v37.toInt) := c43
          intro v46 e47
          exact ⟨rfl, ⟨v26, w2, v46, w4, w5, (Int32.ofInt 1), (Int32.ofInt 0), rfl, (by omega), (by omega), (by omega), (by omega), rfl⟩, (by show (0 + (1000 - w5.toInt) * 1000000000000 - 1000000000000 + 10000000000 + (999 - (Int32.ofInt 0).toInt) * 100000 + 1).toNat < (0 + (1000 - w5.toInt) * 1000000000000).toNat; omega)⟩
    ·
      intro L s59 hL
      obtain ⟨w48, w49, w50, w51, w52, w55, w56, rfl, b53, b54, b57, b58, q62⟩ := hL
      have q62 := q62.symm
      subst q62
      refine And.intro (fun c63 => ?_) (fun c63 => ?_)
      · have c63 : w52.toInt ≤ w56.toInt := c63
        refine And.intro (fun c64 => ?_) (fun c64 => ?_)
        · have c64 : w55.toInt = 0 := c64
          intro v65 e66
          exact ⟨rfl, ⟨w48, v65, w50, w51, w52, (Int32.ofInt 1), rfl, (by omega), (by omega), (by omega), (by omega), rfl⟩, (by show (0 + (1000 - w52.toInt) * 1000000000000 - 1000000000000 + 0 + (1000 - (Int32.ofInt 1).toInt) * 100000 + 1).toNat < (0 + (1000 - w52.toInt) * 1000000000000 - 1000000000000 + 10000000000 + (999 - w56.toInt) * 100000 + 1).toNat; omega)⟩
        · have c64 : ¬ (w55.toInt = 0) := c64
          intro v67 e68
          exact ⟨rfl, ⟨w48, v67, w50, w51, w52, (Int32.ofInt 1), rfl, (by omega), (by omega), (by omega), (by omega), rfl⟩, (by show (0 + (1000 - w52.toInt) * 1000000000000 - 1000000000000 + 0 + (1000 - (Int32.ofInt 1).toInt) * 100000 + 1).toNat < (0 + (1000 - w52.toInt) * 1000000000000 - 1000000000000 + 10000000000 + (999 - w56.toInt) * 100000 + 1).toNat; omega)⟩
      · have c63 : ¬ (w52.toInt ≤ w56.toInt) := c63
        refine And.intro (fun c69 => ?_) (fun c69 => ?_)
        · have c69 : w55.toInt = 0 := c69
          intro v70 e71
          have b72 := vg_add e71 (by omega) (by omega)
          exact ⟨rfl, ⟨w48, w49, w50, w51, w52, (Int32.ofInt 0), v70, rfl, (by omega), (by omega), (by omega), (by omega), rfl⟩, (by show (0 + (1000 - w52.toInt) * 1000000000000 - 1000000000000 + 10000000000 + (999 - v70.toInt) * 100000 + 1).toNat < (0 + (1000 - w52.toInt) * 1000000000000 - 1000000000000 + 10000000000 + (999 - w56.toInt) * 100000 + 1).toNat; omega)⟩
        · have c69 : ¬ (w55.toInt = 0) := c69
          refine And.intro (Nat.le_of_ble_eq_true rfl) (And.intro ⟨55, w56, rfl, by decide, i0, by omega⟩ ?_)
          intro v73 s75 h74
          have h74 : s75 = s0 ∧ (True) := h74
          have q78 := h74.1.symm
          subst q78
          refine And.intro (Nat.le_of_ble_eq_true rfl) (And.intro ⟨55, w52, rfl, by decide, i0, by omega⟩ ?_)
          intro v79 s81 h80
          have h80 : s81 = s0 ∧ (True) := h80
          have q84 := h80.1.symm
          subst q84
          refine And.intro (fun c85 => ?_) (fun c85 => ?_)
          · have c85 : v73.toInt = v79.toInt := c85
            intro v86 e87
            have b88 := vg_add e87 (by omega) (by omega)
            exact ⟨rfl, ⟨w48, w49, w50, w51, w52, (Int32.ofInt 0), v86, rfl, (by omega), (by omega), (by omega), (by omega), rfl⟩, (by show (0 + (1000 - w52.toInt) * 1000000000000 - 1000000000000 + 10000000000 + (999 - v86.toInt) * 100000 + 1).toNat < (0 + (1000 - w52.toInt) * 1000000000000 - 1000000000000 + 10000000000 + (999 - w56.toInt) * 100000 + 1).toNat; omega)⟩
          · have c85 : ¬ (v73.toInt = v79.toInt) := c85
            intro v89 e90
            have b91 := vg_add e90 (by omega) (by omega)
            exact ⟨rfl, ⟨w48, w49, w50, w51, w52, (Int32.ofInt 1), v89, rfl, (by omega), (by omega), (by omega), (by omega), rfl⟩, (by show (0 + (1000 - w52.toInt) * 1000000000000 - 1000000000000 + 10000000000 + (999 - v89.toInt) * 100000 + 1).toNat < (0 + (1000 - w52.toInt) * 1000000000000 - 1000000000000 + 10000000000 + (999 - w56.toInt) * 100000 + 1).toNat; omega)⟩
    ·
      intro L s102 hL
      obtain ⟨w92, w93, w94, w95, w96, w99, rfl, b97, b98, b100, b101, q105⟩ := hL
      have q105 := q105.symm
      subst q105
      intro v106 e107
      have g108 : s0.1 55 31 = v106 := by rw [e107]
      have b109 : v106.toInt = (s0.1 55 31).toInt := congrArg Int32.toInt e107
      refine And.intro (fun c110 => ?_) (fun c110 => ?_)
      · have c110 : v106.toInt ≤ w99.toInt := c110
        refine And.intro (Nat.le_of_ble_eq_true rfl) (And.intro ⟨w95, w99, rfl, trivial⟩ ?_)
        intro v111 s113 h112
        have h112 : s113 = s0 ∧ (w95.toInt ≤ v111.toInt ∧ w99.toInt ≤ v111.toInt ∧ (v111.toInt = w95.toInt ∨ v111.toInt = w99.toInt)) := h112
        have q116 := h112.1.symm
        subst q116
        have q117 := h112.2
        intro v118 e119
        have b120 := vg_add e119 (by omega) (by omega)
        exact ⟨rfl, ⟨w92, w93, w94, v111, v118, rfl, (by omega), (by omega), rfl⟩, (by show (0 + (1000 - v118.toInt) * 1000000000000).toNat < (0 + (1000 - w96.toInt) * 1000000000000 - 1000000000000 + 0 + (1000 - w99.toInt) * 100000 + 1).toNat; omega)⟩
      · have c110 : ¬ (v106.toInt ≤ w99.toInt) := c110
        intro v121 e122
        have b123 := vg_add e122 (by omega) (by omega)
        refine And.intro (Nat.le_of_ble_eq_true rfl) (And.intro ⟨55, v121, rfl, by decide, i0, by omega⟩ ?_)
        intro v124 s126 h125
        have h125 : s126 = s0 ∧ (True) := h125
        have q129 := h125.1.symm
        subst q129
        refine And.intro (Nat.le_of_ble_eq_true rfl) (And.intro ⟨55, w96, rfl, by decide, i0, by omega⟩ ?_)
        intro v130 s132 h131
        have h131 : s132 = s0 ∧ (True) := h131
        have q135 := h131.1.symm
        subst q135
        refine And.intro (fun c136 => ?_) (fun c136 => ?_)
        · have c136 : ¬ v124.toInt = v130.toInt := c136
          refine And.intro (Nat.le_of_ble_eq_true rfl) (And.intro ⟨w95, w99, rfl, trivial⟩ ?_)
          intro v137 s139 h138
          have h138 : s139 = s0 ∧ (w95.toInt ≤ v137.toInt ∧ w99.toInt ≤ v137.toInt ∧ (v137.toInt = w95.toInt ∨ v137.toInt = w99.toInt)) := h138
          have q142 := h138.1.symm
          subst q142
          have q143 := h138.2
          intro v144 e145
          have b146 := vg_add e145 (by omega) (by omega)
          exact ⟨rfl, ⟨w92, w93, w94, v137, v144, rfl, (by omega), (by omega), rfl⟩, (by show (0 + (1000 - v144.toInt) * 1000000000000).toNat < (0 + (1000 - w96.toInt) * 1000000000000 - 1000000000000 + 0 + (1000 - w99.toInt) * 100000 + 1).toNat; omega)⟩
        · have c136 : ¬ (¬ v124.toInt = v130.toInt) := c136
          intro v147 e148
          have b149 := vg_add e148 (by omega) (by omega)
          exact ⟨rfl, ⟨w92, w93, w94, w95, w96, v147, rfl, (by omega), (by omega), (by omega), (by omega), rfl⟩, (by show (0 + (1000 - w96.toInt) * 1000000000000 - 1000000000000 + 0 + (1000 - v147.toInt) * 100000 + 1).toNat < (0 + (1000 - w96.toInt) * 1000000000000 - 1000000000000 + 0 + (1000 - w99.toInt) * 100000 + 1).toNat; omega)⟩
def o_X11_tone : List vg_I := [(0, .iload_n 1, 1, 0, 0, 0, 0), (1, .invokestatic 238, 3, 0, 1, 1, 1178), (4, .ifCond .eq 12, 3, 0, 0, 0, 0), (7, .iload_n 2, 1, 0, 0, 0, 0), (8, .iconst 0, 1, 0, 0, 0, 0), (9, .iconst 5, 1, 0, 0, 0, 0), (10, .invokestatic 76, 3, 1, 1, 3, 1175), (13, .ifCond .ne 9, 3, 0, 0, 0, 0), (16, .aload_n 0, 1, 0, 0, 0, 0), (17, .iconst 1, 1, 0, 0, 0, 0), (18, .invokevirtual 242, 3, 2, 11, 1, 1181), (21, .ireturn, 1, 0, 0, 0, 0), (22, .aload_n 0, 1, 0, 0, 0, 0), (23, .iload_n 1, 1, 0, 0, 0, 0), (24, .invokevirtual 303, 3, 3, 11, 1, 1466), (27, .aload_n 0, 1, 0, 0, 0, 0), (28, .iload_n 1, 1, 0, 0, 0, 0), (29, .iconst 0, 1, 0, 0, 0, 0), (30, .invokevirtual 306, 3, 4, 11, 2, 1470), (33, .aload_n 0, 1, 0, 0, 0, 0), (34, .getfield 290, 3, 1092, 11, 31, 0), (37, .iconst (-1), 1, 0, 0, 0, 0), (38, .if_icmp .ne 9, 3, 0, 0, 0, 0), (41, .aload_n 0, 1, 0, 0, 0, 0), (42, .iconst 5, 1, 0, 0, 0, 0), (43, .invokevirtual 242, 3, 2, 11, 1, 1181), (46, .ireturn, 1, 0, 0, 0, 0), (47, .aload_n 0, 1, 0, 0, 0, 0), (48, .iload_n 2, 1, 0, 0, 0, 0), (49, .ifCond .ne 10, 3, 0, 0, 0, 0), (52, .aload_n 0, 1, 0, 0, 0, 0), (53, .getfield 297, 3, 1091, 11, 30, 0), (56, .goto 20, 3, 0, 0, 0, 0), (59, .iload_n 2, 1, 0, 0, 0, 0), (60, .iconst 1, 1, 0, 0, 0, 0), (61, .if_icmp .ne 10, 3, 0, 0, 0, 0), (64, .aload_n 0, 1, 0, 0, 0, 0), (65, .getfield 290, 3, 1092, 11, 31, 0), (68, .goto 8, 3, 0, 0, 0, 0), (71, .aload_n 0, 1, 0, 0, 0, 0), (72, .iload_n 2, 1, 0, 0, 0, 0), (73, .invokevirtual 310, 3, 5, 11, 1, 1485), (76, .invokevirtual 249, 3, 6, 11, 1, 1206), (79, .ireturn, 1, 0, 0, 0, 0)]
set_option maxRecDepth 100000 in
set_option maxHeartbeats 4000000 in
theorem c_X11_tone (l : Launch) (G : vg_G) (hp : vg_Hp G) : vg_Ct l G vg_sh r_X11_tone := by
  refine vg_meth hp vg_sh_ok r_X11_tone k_X11_tone rfl (fun h => by cases h) o_X11_tone [r_X11_isFar, r_X11_isFrom, r_X11_refuse, r_X11_asks, r_X11_tones, r_X11_ofPattern, r_X11_gives] false (by decide +kernel) (by decide +kernel) ⟨_, _, rfl, rfl⟩ (List.forall_mem_cons.mpr ⟨⟨c_X11_isFar l G hp, Nat.le_of_ble_eq_true rfl, Nat.le_of_ble_eq_true rfl⟩, List.forall_mem_cons.mpr ⟨⟨c_X11_isFrom l G hp, Nat.le_of_ble_eq_true rfl, Nat.le_of_ble_eq_true rfl⟩, List.forall_mem_cons.mpr ⟨⟨c_X11_refuse l G hp, Nat.le_of_ble_eq_true rfl, Nat.le_of_ble_eq_true rfl⟩, List.forall_mem_cons.mpr ⟨⟨c_X11_asks l G hp, Nat.le_of_ble_eq_true rfl, Nat.le_of_ble_eq_true rfl⟩, List.forall_mem_cons.mpr ⟨⟨c_X11_tones l G hp, Nat.le_of_ble_eq_true rfl, Nat.le_of_ble_eq_true rfl⟩, List.forall_mem_cons.mpr ⟨⟨c_X11_ofPattern l G hp, Nat.le_of_ble_eq_true rfl, Nat.le_of_ble_eq_true rfl⟩, List.forall_mem_cons.mpr ⟨⟨c_X11_gives l G hp, Nat.le_of_ble_eq_true rfl, Nat.le_of_ble_eq_true rfl⟩, fun _ h => absurd h List.not_mem_nil⟩⟩⟩⟩⟩⟩⟩) (fun h => by cases h) 600 ?_
  intro as s0 hpre
  obtain ⟨r, a1, a2, rfl, hr, i0⟩ := hpre
  simp only [List.mem_cons, List.not_mem_nil, or_false] at hr
  rcases hr with rfl
  ·
    have zm1 : (Int32.ofInt (-1)).toInt = -1 := by decide
    have z0 : (Int32.ofInt 0).toInt = 0 := by decide
    have z1 : (Int32.ofInt 1).toInt = 1 := by decide
    have z5 : (Int32.ofInt 5).toInt = 5 := by decide
    refine ⟨Nat.le_of_ble_eq_true rfl, [], ?_, fun _ h => absurd h List.not_mem_nil⟩
    ·
      refine And.intro (Nat.le_of_ble_eq_true rfl) (And.intro ⟨a1, rfl, trivial⟩ ?_)
      intro v1 s3 h2
      have h2 : s3 = s0 ∧ ((v1.toInt = 1 ∧ -30000 ≤ a1.toInt ∧ a1.toInt ≤ 30000) ∨ (v1.toInt = 0 ∧ (a1.toInt < -30000 ∨ 30000 < a1.toInt))) := h2
      have q6 := h2.1.symm
      subst q6
      have q7 := h2.2
      refine And.intro (fun c8 => ?_) (fun c8 => ?_)
      · have c8 : v1.toInt = 0 := c8
        refine And.intro (Nat.le_of_ble_eq_true rfl) (And.intro ⟨55, (Int32.ofInt 1), rfl, by decide, i0⟩ ?_)
        intro v9 s11 h10
        have h10 : Iv s11 ∧ Kp s0 s11 ∧ vk s11 = ((vk s0).1, (vk s0).2) ∧ (v9.toInt = -1) := h10
        have i12 := h10.1
        have k13 : K_X11_tone s0 s11 := Kx.tr Kx.rf (((h10.2.1).pt).px)
        have u14 : vk s11 = ((vk s0).1, (vk s0).2) := h10.2.2.1.trans rfl
        have q15 := h10.2.2.2
        show Iv s11 ∧ K_X11_tone s0 s11 ∧ vk s11 = ((vk s0).1, (vk s0).2) ∧ (((-30000 ≤ a1.toInt ∧ a1.toInt ≤ 30000 ∧ 0 ≤ a2.toInt ∧ a2.toInt ≤ 5) ∧ vg_adk (s0.1 55 33).toInt (s0.1 66) a1 (s11.1 55 33).toInt (s11.1 66)) ∨ (¬ (-30000 ≤ a1.toInt ∧ a1.toInt ≤ 30000 ∧ 0 ≤ a2.toInt ∧ a2.toInt ≤ 5) ∧ (s11.1 55 33).toInt = (s0.1 55 33).toInt ∧ ∀ j : Nat, s11.1 66 j = s0.1 66 j))
        exact ⟨i12, k13, u14, (by first | exact Or.inl ⟨by omega, None⟩ | exact Or.inr ⟨by omega, congrArg Int32.toInt (h10.2.1.1 55 33 rfl), fun j => h10.2.1.1 66 j rfl⟩)⟩
      · have c8 : ¬ (v1.toInt = 0) := c8
        refine And.intro (Nat.le_of_ble_eq_true rfl) (And.intro ⟨a2, (Int32.ofInt 0), (Int32.ofInt 5), rfl, trivial⟩ ?_)
        intro v16 s18 h17
        have h17 : s18 = s0 ∧ ((v16.toInt = 1 ∧ (Int32.ofInt 0).toInt ≤ a2.toInt ∧ a2.toInt ≤ (Int32.ofInt 5).toInt) ∨ (v16.toInt = 0 ∧ (a2.toInt < (Int32.ofInt 0).toInt ∨ (Int32.ofInt 5).toInt < a2.toInt))) := h17
        have q21 := h17.1.symm
        subst q21
        have q22 := h17.2
        refine And.intro (fun c23 => ?_) (fun c23 => ?_)
        · have c23 : ¬ v16.toInt = 0 := c23
          refine And.intro (Nat.le_of_ble_eq_true rfl) (And.intro ⟨55, a1, rfl, by decide, i0⟩ ?_)
          intro s25 h24
          have h24 : Iv s25 ∧ K_X11_asks s0 s25 ∧ vk s25 = ((vk s0).1, (vk s0).2) ∧ (vg_adk (s0.1 55 33).toInt (s0.1 66) a1 (s25.1 55 33).toInt (s25.1 66)) := h24
          have i26 := h24.1
          have k27 : K_X11_tone s0 s25 := Kx.tr Kx.rf (((h24.2.1).pt).xx (by decide))
          have u28 : vk s25 = ((vk s0).1, (vk s0).2) := h24.2.2.1.trans rfl
          have q29 := h24.2.2.2
          have y30 : vg_adk (s0.1 55 33).toInt (s0.1 66) a1 (s25.1 55 33).toInt (s25.1 66) := q29
          refine And.intro (Nat.le_of_ble_eq_true rfl) (And.intro ⟨55, a1, (Int32.ofInt 0), rfl, by decide, i26⟩ ?_)
          intro s32 h31
          have h31 : Iv s32 ∧ Kt s25 s32 ∧ vk s32 = ((vk s25).1, (vk s25).2) ∧ ((s32.1 55 31).toInt = -1 ∨ (0 ≤ (s32.1 55 30).toInt ∧ 1 ≤ (s32.1 55 31).toInt ∧ (s32.1 55 30).toInt + (s32.1 55 31).toInt ≤ 1000)) := h31
          have i33 := h31.1
          have k34 : K_X11_tone s0 s32 := Kx.tr k27 ((h31.2.1).tx)
          have u35 : vk s32 = ((vk s0).1, (vk s0).2) := h31.2.2.1.trans u28
          have q36 := h31.2.2.2
          have y37 : vg_adk (s0.1 55 33).toInt (s0.1 66) a1 (s32.1 55 33).toInt (s32.1 66) := by rw [h31.2.1.1 55 33 rfl, show s32.1 66 = s25.1 66 from funext (fun j => h31.2.1.1 66 j rfl)]; exact y30
          intro v38 e39
          have g40 : s32.1 55 31 = v38 := by rw [e39]
          have b41 : v38.toInt = (s32.1 55 31).toInt := congrArg Int32.toInt e39
          refine And.intro (fun c42 => ?_) (fun c42 => ?_)
          · have c42 : ¬ v38.toInt = (Int32.ofInt (-1)).toInt := c42
            refine And.intro (fun c43 => ?_) (fun c43 => ?_)
            · have c43 : ¬ a2.toInt = 0 := c43
              refine And.intro (fun c44 => ?_) (fun c44 => ?_)
              · have c44 : ¬ a2.toInt = (Int32.ofInt 1).toInt := c44
                refine And.intro (Nat.le_of_ble_eq_true rfl) (And.intro ⟨55, a2, rfl, by decide, i33, by omega⟩ ?_)
                intro v45 s47 h46
                have h46 : s47 = s32 ∧ (True) := h46
                have q50 := h46.1.symm
                subst q50
                refine And.intro (Nat.le_of_ble_eq_true rfl) (And.intro ⟨55, v45, rfl, by decide, i33⟩ ?_)
                intro v51 s53 h52
                have h52 : Iv s53 ∧ Kp s32 s53 ∧ vk s53 = ((vk s32).1, (vk s32).2) ∧ (v51 = v45 ∧ v51.toInt = v45.toInt) := h52
                have i54 := h52.1
                have k55 : K_X11_tone s0 s53 := Kx.tr k34 (((h52.2.1).pt).px)
                have u56 : vk s53 = ((vk s0).1, (vk s0).2) := h52.2.2.1.trans u35
                have q57 := h52.2.2.2
                have y58 : vg_adk (s0.1 55 33).toInt (s0.1 66) a1 (s53.1 55 33).toInt (s53.1 66) := by rw [h52.2.1.1 55 33 rfl, show s53.1 66 = s32.1 66 from funext (fun j => h52.2.1.1 66 j rfl)]; exact y37
                show Iv s53 ∧ K_X11_tone s0 s53 ∧ vk s53 = ((vk s0).1, (vk s0).2) ∧ (((-30000 ≤ a1.toInt ∧ a1.toInt ≤ 30000 ∧ 0 ≤ a2.toInt ∧ a2.toInt ≤ 5) ∧ vg_adk (s0.1 55 33).toInt (s0.1 66) a1 (s53.1 55 33).toInt (s53.1 66)) ∨ (¬ (-30000 ≤ a1.toInt ∧ a1.toInt ≤ 30000 ∧ 0 ≤ a2.toInt ∧ a2.toInt ≤ 5) ∧ (s53.1 55 33).toInt = (s0.1 55 33).toInt ∧ ∀ j : Nat, s53.1 66 j = s0.1 66 j))
                exact ⟨i54, k55, u56, (by first | exact Or.inl ⟨by omega, y58⟩ | exact Or.inr ⟨by omega, congrArg Int32.toInt (h52.2.1.1 55 33 rfl), fun j => h52.2.1.1 66 j rfl⟩)⟩
              · have c44 : ¬ (¬ a2.toInt = (Int32.ofInt 1).toInt) := c44
                intro v59 e60
                have w61 : v38 = v59 := by rw [e60, g40]
                subst w61
                refine And.intro (Nat.le_of_ble_eq_true rfl) (And.intro ⟨55, v38, rfl, by decide, i33⟩ ?_)
                intro v62 s64 h63
                have h63 : Iv s64 ∧ Kp s32 s64 ∧ vk s64 = ((vk s32).1, (vk s32).2) ∧ (v62 = v38 ∧ v62.toInt = v38.toInt) := h63
                have i65 := h63.1
                have k66 : K_X11_tone s0 s64 := Kx.tr k34 (((h63.2.1).pt).px)
                have u67 : vk s64 = ((vk s0).1, (vk s0).2) := h63.2.2.1.trans u35
                have q68 := h63.2.2.2
                have y69 : vg_adk (s0.1 55 33).toInt (s0.1 66) a1 (s64.1 55 33).toInt (s64.1 66) := by rw [h63.2.1.1 55 33 rfl, show s64.1 66 = s32.1 66 from funext (fun j => h63.2.1.1 66 j rfl)]; exact y37
                show Iv s64 ∧ K_X11_tone s0 s64 ∧ vk s64 = ((vk s0).1, (vk s0).2) ∧ (((-30000 ≤ a1.toInt ∧ a1.toInt ≤ 30000 ∧ 0 ≤ a2.toInt ∧ a2.toInt ≤ 5) ∧ vg_adk (s0.1 55 33).toInt (s0.1 66) a1 (s64.1 55 33).toInt (s64.1 66)) ∨ (¬ (-30000 ≤ a1.toInt ∧ a1.toInt ≤ 30000 ∧ 0 ≤ a2.toInt ∧ a2.toInt ≤ 5) ∧ (s64.1 55 33).toInt = (s0.1 55 33).toInt ∧ ∀ j : Nat, s64.1 66 j = s0.1 66 j))
                exact ⟨i65, k66, u67, (by first | exact Or.inl ⟨by omega, y69⟩ | exact Or.inr ⟨by omega, congrArg Int32.toInt (h63.2.1.1 55 33 rfl), fun j => h63.2.1.1 66 j rfl⟩)⟩
            · have c43 : ¬ (¬ a2.toInt = 0) := c43
              intro v70 e71
              have g72 : s32.1 55 30 = v70 := by rw [e71]
              have b73 : v70.toInt = (s32.1 55 30).toInt := congrArg Int32.toInt e71
              refine And.intro (Nat.le_of_ble_eq_true rfl) (And.intro ⟨55, v70, rfl, by decide, i33⟩ ?_)
              intro v74 s76 h75
              have h75 : Iv s76 ∧ Kp s32 s76 ∧ vk s76 = ((vk s32).1, (vk s32).2) ∧ (v74 = v70 ∧ v74.toInt = v70.toInt) := h75
              have i77 := h75.1
              have k78 : K_X11_tone s0 s76 := Kx.tr k34 (((h75.2.1).pt).px)
              have u79 : vk s76 = ((vk s0).1, (vk s0).2) := h75.2.2.1.trans u35
              have q80 := h75.2.2.2
              have y81 : vg_adk (s0.1 55 33).toInt (s0.1 66) a1 (s76.1 55 33).toInt (s76.1 66) := by rw [h75.2.1.1 55 33 rfl, show s76.1 66 = s32.1 66 from funext (fun j => h75.2.1.1 66 j rfl)]; exact y37
              show Iv s76 ∧ K_X11_tone s0 s76 ∧ vk s76 = ((vk s0).1, (vk s0).2) ∧ (((-30000 ≤ a1.toInt ∧ a1.toInt ≤ 30000 ∧ 0 ≤ a2.toInt ∧ a2.toInt ≤ 5) ∧ vg_adk (s0.1 55 33).toInt (s0.1 66) a1 (s76.1 55 33).toInt (s76.1 66)) ∨ (¬ (-30000 ≤ a1.toInt ∧ a1.toInt ≤ 30000 ∧ 0 ≤ a2.toInt ∧ a2.toInt ≤ 5) ∧ (s76.1 55 33).toInt = (s0.1 55 33).toInt ∧ ∀ j : Nat, s76.1 66 j = s0.1 66 j))
              exact ⟨i77, k78, u79, (by first | exact Or.inl ⟨by omega, y81⟩ | exact Or.inr ⟨by omega, congrArg Int32.toInt (h75.2.1.1 55 33 rfl), fun j => h75.2.1.1 66 j rfl⟩)⟩
          · have c42 : ¬ (¬ v38.toInt = (Int32.ofInt (-1)).toInt) := c42
            refine And.intro (Nat.le_of_ble_eq_true rfl) (And.intro ⟨55, (Int32.ofInt 5), rfl, by decide, i33⟩ ?_)
            intro v82 s84 h83
            have h83 : Iv s84 ∧ Kp s32 s84 ∧ vk s84 = ((vk s32).1, (vk s32).2) ∧ (v82.toInt = -1) := h83
            have i85 := h83.1
            have k86 : K_X11_tone s0 s84 := Kx.tr k34 (((h83.2.1).pt).px)
            have u87 : vk s84 = ((vk s0).1, (vk s0).2) := h83.2.2.1.trans u35
            have q88 := h83.2.2.2
            have y89 : vg_adk (s0.1 55 33).toInt (s0.1 66) a1 (s84.1 55 33).toInt (s84.1 66) := by rw [h83.2.1.1 55 33 rfl, show s84.1 66 = s32.1 66 from funext (fun j => h83.2.1.1 66 j rfl)]; exact y37
            show Iv s84 ∧ K_X11_tone s0 s84 ∧ vk s84 = ((vk s0).1, (vk s0).2) ∧ (((-30000 ≤ a1.toInt ∧ a1.toInt ≤ 30000 ∧ 0 ≤ a2.toInt ∧ a2.toInt ≤ 5) ∧ vg_adk (s0.1 55 33).toInt (s0.1 66) a1 (s84.1 55 33).toInt (s84.1 66)) ∨ (¬ (-30000 ≤ a1.toInt ∧ a1.toInt ≤ 30000 ∧ 0 ≤ a2.toInt ∧ a2.toInt ≤ 5) ∧ (s84.1 55 33).toInt = (s0.1 55 33).toInt ∧ ∀ j : Nat, s84.1 66 j = s0.1 66 j))
            exact ⟨i85, k86, u87, (by first | exact Or.inl ⟨by omega, y89⟩ | exact Or.inr ⟨by omega, congrArg Int32.toInt (h83.2.1.1 55 33 rfl), fun j => h83.2.1.1 66 j rfl⟩)⟩
        · have c23 : ¬ (¬ v16.toInt = 0) := c23
          refine And.intro (Nat.le_of_ble_eq_true rfl) (And.intro ⟨55, (Int32.ofInt 1), rfl, by decide, i0⟩ ?_)
          intro v90 s92 h91
          have h91 : Iv s92 ∧ Kp s0 s92 ∧ vk s92 = ((vk s0).1, (vk s0).2) ∧ (v90.toInt = -1) := h91
          have i93 := h91.1
          have k94 : K_X11_tone s0 s92 := Kx.tr Kx.rf (((h91.2.1).pt).px)
          have u95 : vk s92 = ((vk s0).1, (vk s0).2) := h91.2.2.1.trans rfl
          have q96 := h91.2.2.2
          show Iv s92 ∧ K_X11_tone s0 s92 ∧ vk s92 = ((vk s0).1, (vk s0).2) ∧ (((-30000 ≤ a1.toInt ∧ a1.toInt ≤ 30000 ∧ 0 ≤ a2.toInt ∧ a2.toInt ≤ 5) ∧ vg_adk (s0.1 55 33).toInt (s0.1 66) a1 (s92.1 55 33).toInt (s92.1 66)) ∨ (¬ (-30000 ≤ a1.toInt ∧ a1.toInt ≤ 30000 ∧ 0 ≤ a2.toInt ∧ a2.toInt ≤ 5) ∧ (s92.1 55 33).toInt = (s0.1 55 33).toInt ∧ ∀ j : Nat, s92.1 66 j = s0.1 66 j))
          exact ⟨i93, k94, u95, (by first | exact Or.inl ⟨by omega, None⟩ | exact Or.inr ⟨by omega, congrArg Int32.toInt (h91.2.1.1 55 33 rfl), fun j => h91.2.1.1 66 j rfl⟩)⟩
def o_X11_out : List vg_I := [(0, .iload_n 1, 1, 0, 0, 0, 0), (1, .invokestatic 238, 3, 0, 1, 1, 1178), (4, .ifCond .eq 14, 3, 0, 0, 0, 0), (7, .iload_n 2, 1, 0, 0, 0, 0), (8, .iconst 0, 1, 0, 0, 0, 0), (9, .sipush 999, 3, 0, 0, 0, 0), (12, .invokestatic 76, 3, 1, 1, 3, 1175), (15, .ifCond .ne 9, 3, 0, 0, 0, 0), (18, .aload_n 0, 1, 0, 0, 0, 0), (19, .iconst 1, 1, 0, 0, 0, 0), (20, .invokevirtual 242, 3, 2, 11, 1, 1181), (23, .ireturn, 1, 0, 0, 0, 0), (24, .aload_n 0, 1, 0, 0, 0, 0), (25, .iload_n 1, 1, 0, 0, 0, 0), (26, .iconst 1, 1, 0, 0, 0, 0), (27, .invokevirtual 306, 3, 3, 11, 2, 1470), (30, .aload_n 0, 1, 0, 0, 0, 0), (31, .aload_n 0, 1, 0, 0, 0, 0), (32, .getfield 64, 3, 1090, 11, 29, 0), (35, .iload_n 2, 1, 0, 0, 0, 0), (36, .iaload, 1, 0, 0, 0, 0), (37, .invokevirtual 249, 3, 4, 11, 1, 1206), (40, .ireturn, 1, 0, 0, 0, 0)]
set_option maxRecDepth 100000 in
set_option maxHeartbeats 4000000 in
theorem c_X11_out (l : Launch) (G : vg_G) (hp : vg_Hp G) : vg_Ct l G vg_sh r_X11_out := by
  refine vg_meth hp vg_sh_ok r_X11_out k_X11_out rfl (fun h => by cases h) o_X11_out [r_X11_isFar, r_X11_isFrom, r_X11_refuse, r_X11_tones, r_X11_gives] false (by decide +kernel) (by decide +kernel) ⟨_, _, rfl, rfl⟩ (List.forall_mem_cons.mpr ⟨⟨c_X11_isFar l G hp, Nat.le_of_ble_eq_true rfl, Nat.le_of_ble_eq_true rfl⟩, List.forall_mem_cons.mpr ⟨⟨c_X11_isFrom l G hp, Nat.le_of_ble_eq_true rfl, Nat.le_of_ble_eq_true rfl⟩, List.forall_mem_cons.mpr ⟨⟨c_X11_refuse l G hp, Nat.le_of_ble_eq_true rfl, Nat.le_of_ble_eq_true rfl⟩, List.forall_mem_cons.mpr ⟨⟨c_X11_tones l G hp, Nat.le_of_ble_eq_true rfl, Nat.le_of_ble_eq_true rfl⟩, List.forall_mem_cons.mpr ⟨⟨c_X11_gives l G hp, Nat.le_of_ble_eq_true rfl, Nat.le_of_ble_eq_true rfl⟩, fun _ h => absurd h List.not_mem_nil⟩⟩⟩⟩⟩) (fun h => by cases h) 600 ?_
  intro as s0 hpre
  obtain ⟨r, a1, a2, rfl, hr, i0⟩ := hpre
  simp only [List.mem_cons, List.not_mem_nil, or_false] at hr
  rcases hr with rfl
  ·
    have z0 : (Int32.ofInt 0).toInt = 0 := by decide
    have z1 : (Int32.ofInt 1).toInt = 1 := by decide
    have z999 : (Int32.ofInt 999).toInt = 999 := by decide
    refine ⟨Nat.le_of_ble_eq_true rfl, [], ?_, fun _ h => absurd h List.not_mem_nil⟩
    ·
      refine And.intro (Nat.le_of_ble_eq_true rfl) (And.intro ⟨a1, rfl, trivial⟩ ?_)
      intro v1 s3 h2
      have h2 : s3 = s0 ∧ ((v1.toInt = 1 ∧ -30000 ≤ a1.toInt ∧ a1.toInt ≤ 30000) ∨ (v1.toInt = 0 ∧ (a1.toInt < -30000 ∨ 30000 < a1.toInt))) := h2
      have q6 := h2.1.symm
      subst q6
      have q7 := h2.2
      refine And.intro (fun c8 => ?_) (fun c8 => ?_)
      · have c8 : v1.toInt = 0 := c8
        refine And.intro (Nat.le_of_ble_eq_true rfl) (And.intro ⟨55, (Int32.ofInt 1), rfl, by decide, i0⟩ ?_)
        intro v9 s11 h10
        have h10 : Iv s11 ∧ Kp s0 s11 ∧ vk s11 = ((vk s0).1, (vk s0).2) ∧ (v9.toInt = -1) := h10
        have i12 := h10.1
        have k13 : Kt s0 s11 := Kx.tr Kx.rf (((h10.2.1).pt).pk)
        have u14 : vk s11 = ((vk s0).1, (vk s0).2) := h10.2.2.1.trans rfl
        have q15 := h10.2.2.2
        show Iv s11 ∧ Kt s0 s11 ∧ vk s11 = ((vk s0).1, (vk s0).2) ∧ (True)
        exact ⟨i12, k13, u14, (trivial)⟩
      · have c8 : ¬ (v1.toInt = 0) := c8
        refine And.intro (Nat.le_of_ble_eq_true rfl) (And.intro ⟨a2, (Int32.ofInt 0), (Int32.ofInt 999), rfl, trivial⟩ ?_)
        intro v16 s18 h17
        have h17 : s18 = s0 ∧ ((v16.toInt = 1 ∧ (Int32.ofInt 0).toInt ≤ a2.toInt ∧ a2.toInt ≤ (Int32.ofInt 999).toInt) ∨ (v16.toInt = 0 ∧ (a2.toInt < (Int32.ofInt 0).toInt ∨ (Int32.ofInt 999).toInt < a2.toInt))) := h17
        have q21 := h17.1.symm
        subst q21
        have q22 := h17.2
        refine And.intro (fun c23 => ?_) (fun c23 => ?_)
        · have c23 : ¬ v16.toInt = 0 := c23
          refine And.intro (Nat.le_of_ble_eq_true rfl) (And.intro ⟨55, a1, (Int32.ofInt 1), rfl, by decide, i0⟩ ?_)
          intro s25 h24
          have h24 : Iv s25 ∧ Kt s0 s25 ∧ vk s25 = ((vk s0).1, (vk s0).2) ∧ ((s25.1 55 31).toInt = -1 ∨ (0 ≤ (s25.1 55 30).toInt ∧ 1 ≤ (s25.1 55 31).toInt ∧ (s25.1 55 30).toInt + (s25.1 55 31).toInt ≤ 1000)) := h24
          have i26 := h24.1
          have k27 : Kt s0 s25 := Kx.tr Kx.rf (h24.2.1)
          have u28 : vk s25 = ((vk s0).1, (vk s0).2) := h24.2.2.1.trans rfl
          have q29 := h24.2.2.2
          refine And.intro ⟨by omega, by omega⟩ ?_
          intro v30 e31
          refine And.intro (Nat.le_of_ble_eq_true rfl) (And.intro ⟨55, v30, rfl, by decide, i26⟩ ?_)
          intro v32 s34 h33
          have h33 : Iv s34 ∧ Kp s25 s34 ∧ vk s34 = ((vk s25).1, (vk s25).2) ∧ (v32 = v30 ∧ v32.toInt = v30.toInt) := h33
          have i35 := h33.1
          have k36 : Kt s0 s34 := Kx.tr k27 (((h33.2.1).pt).pk)
          have u37 : vk s34 = ((vk s0).1, (vk s0).2) := h33.2.2.1.trans u28
          have q38 := h33.2.2.2
          show Iv s34 ∧ Kt s0 s34 ∧ vk s34 = ((vk s0).1, (vk s0).2) ∧ (True)
          exact ⟨i35, k36, u37, (trivial)⟩
        · have c23 : ¬ (¬ v16.toInt = 0) := c23
          refine And.intro (Nat.le_of_ble_eq_true rfl) (And.intro ⟨55, (Int32.ofInt 1), rfl, by decide, i0⟩ ?_)
          intro v39 s41 h40
          have h40 : Iv s41 ∧ Kp s0 s41 ∧ vk s41 = ((vk s0).1, (vk s0).2) ∧ (v39.toInt = -1) := h40
          have i42 := h40.1
          have k43 : Kt s0 s41 := Kx.tr Kx.rf (((h40.2.1).pt).pk)
          have u44 : vk s41 = ((vk s0).1, (vk s0).2) := h40.2.2.1.trans rfl
          have q45 := h40.2.2.2
          show Iv s41 ∧ Kt s0 s41 ∧ vk s41 = ((vk s0).1, (vk s0).2) ∧ (True)
          exact ⟨i42, k43, u44, (trivial)⟩
def o_X11_idle : List vg_I := [(0, .iload_n 1, 1, 0, 0, 0, 0), (1, .invokestatic 238, 3, 0, 1, 1, 1178), (4, .ifCond .eq 45, 3, 0, 0, 0, 0), (7, .iload_n 2, 1, 0, 0, 0, 0), (8, .iconst 1, 1, 0, 0, 0, 0), (9, .bipush 60, 2, 0, 0, 0, 0), (11, .invokestatic 76, 3, 1, 1, 3, 1175), (14, .ifCond .eq 35, 3, 0, 0, 0, 0), (17, .iload_n 1, 1, 0, 0, 0, 0), (18, .iload_n 2, 1, 0, 0, 0, 0), (19, .iadd, 1, 0, 0, 0, 0), (20, .iconst 1, 1, 0, 0, 0, 0), (21, .isub, 1, 0, 0, 0, 0), (22, .sipush 30000, 3, 0, 0, 0, 0), (25, .if_icmp .gt 24, 3, 0, 0, 0, 0), (28, .iload_n 3, 1, 0, 0, 0, 0), (29, .iconst 1, 1, 0, 0, 0, 0), (30, .sipush 1000, 3, 0, 0, 0, 0), (33, .invokestatic 76, 3, 1, 1, 3, 1175), (36, .ifCond .eq 13, 3, 0, 0, 0, 0), (39, .iload 4, 2, 0, 0, 0, 0), (41, .iconst 0, 1, 0, 0, 0, 0), (42, .iconst 1, 1, 0, 0, 0, 0), (43, .invokestatic 76, 3, 1, 1, 3, 1175), (46, .ifCond .ne 9, 3, 0, 0, 0, 0), (49, .aload_n 0, 1, 0, 0, 0, 0), (50, .iconst 1, 1, 0, 0, 0, 0), (51, .invokevirtual 242, 3, 2, 11, 1, 1181), (54, .ireturn, 1, 0, 0, 0, 0), (55, .iconst 0, 1, 0, 0, 0, 0), (56, .istore 5, 2, 0, 0, 0, 0), (58, .iconst 0, 1, 0, 0, 0, 0), (59, .istore 6, 2, 0, 0, 0, 0), (61, .iconst (-1), 1, 0, 0, 0, 0), (62, .istore 7, 2, 0, 0, 0, 0), (64, .iload_n 1, 1, 0, 0, 0, 0), (65, .istore 8, 2, 0, 0, 0, 0), (67, .iload 8, 2, 0, 0, 0, 0), (69, .iload_n 1, 1, 0, 0, 0, 0), (70, .iload_n 2, 1, 0, 0, 0, 0), (71, .iadd, 1, 0, 0, 0, 0), (72, .if_icmp .ge 86, 3, 0, 0, 0, 0), (75, .aload_n 0, 1, 0, 0, 0, 0), (76, .iload 8, 2, 0, 0, 0, 0), (78, .iconst 0, 1, 0, 0, 0, 0), (79, .invokevirtual 306, 3, 3, 11, 2, 1470), (82, .aload_n 0, 1, 0, 0, 0, 0), (83, .getfield 290, 3, 1092, 11, 31, 0), (86, .iconst (-1), 1, 0, 0, 0, 0), (87, .if_icmp .eq 65, 3, 0, 0, 0, 0), (90, .aload_n 0, 1, 0, 0, 0, 0), (91, .getfield 290, 3, 1092, 11, 31, 0), (94, .iload_n 3, 1, 0, 0, 0, 0), (95, .if_icmp .le 6, 3, 0, 0, 0, 0), (98, .goto 54, 3, 0, 0, 0, 0), (101, .iinc 5 1, 3, 0, 0, 0, 0), (104, .iload 7, 2, 0, 0, 0, 0), (106, .iconst (-1), 1, 0, 0, 0, 0), (107, .if_icmp .eq 12, 3, 0, 0, 0, 0), (110, .aload_n 0, 1, 0, 0, 0, 0), (111, .getfield 290, 3, 1092, 11, 31, 0), (114, .iload 7, 2, 0, 0, 0, 0), (116, .if_icmp .ge 8, 3, 0, 0, 0, 0), (119, .iload 8, 2, 0, 0, 0, 0), (121, .goto 5, 3, 0, 0, 0, 0), (124, .iload 6, 2, 0, 0, 0, 0), (126, .istore 6, 2, 0, 0, 0, 0), (128, .iload 7, 2, 0, 0, 0, 0), (130, .iconst (-1), 1, 0, 0, 0, 0), (131, .if_icmp .ne 10, 3, 0, 0, 0, 0), (134, .aload_n 0, 1, 0, 0, 0, 0), (135, .getfield 290, 3, 1092, 11, 31, 0), (138, .goto 12, 3, 0, 0, 0, 0), (141, .iload 7, 2, 0, 0, 0, 0), (143, .aload_n 0, 1, 0, 0, 0, 0), (144, .getfield 290, 3, 1092, 11, 31, 0), (147, .invokestatic 113, 3, 4, 1, 2, 1280), (150, .istore 7, 2, 0, 0, 0, 0), (152, .iinc 8 1, 3, 0, 0, 0, 0), (155, .goto (-88), 3, 0, 0, 0, 0), (158, .iload 4, 2, 0, 0, 0, 0), (160, .ifCond .ne 12, 3, 0, 0, 0, 0), (163, .aload_n 0, 1, 0, 0, 0, 0), (164, .iload 5, 2, 0, 0, 0, 0), (166, .invokevirtual 249, 3, 5, 11, 1, 1206), (169, .goto 23, 3, 0, 0, 0, 0), (172, .iload 7, 2, 0, 0, 0, 0), (174, .iconst (-1), 1, 0, 0, 0, 0), (175, .if_icmp .ne 11, 3, 0, 0, 0, 0), (178, .aload_n 0, 1, 0, 0, 0, 0), (179, .iconst 5, 1, 0, 0, 0, 0), (180, .invokevirtual 242, 3, 2, 11, 1, 1181), (183, .goto 9, 3, 0, 0, 0, 0), (186, .aload_n 0, 1, 0, 0, 0, 0), (187, .iload 6, 2, 0, 0, 0, 0), (189, .invokevirtual 249, 3, 5, 11, 1, 1206), (192, .ireturn, 1, 0, 0, 0, 0)]
set_option maxRecDepth 100000 in
set_option maxHeartbeats 4000000 in
theorem c_X11_idle (l : Launch) (G : vg_G) (hp : vg_Hp G) : vg_Ct l G vg_sh r_X11_idle := by
  refine vg_meth hp vg_sh_ok r_X11_idle k_X11_idle rfl (fun h => by cases h) o_X11_idle [r_X11_isFar, r_X11_isFrom, r_X11_refuse, r_X11_tones, r_J9_min_7cf53, r_X11_gives] false (by decide +kernel) (by decide +kernel) ⟨_, _, rfl, rfl⟩ (List.forall_mem_cons.mpr ⟨⟨c_X11_isFar l G hp, Nat.le_of_ble_eq_true rfl, Nat.le_of_ble_eq_true rfl⟩, List.forall_mem_cons.mpr ⟨⟨c_X11_isFrom l G hp, Nat.le_of_ble_eq_true rfl, Nat.le_of_ble_eq_true rfl⟩, List.forall_mem_cons.mpr ⟨⟨c_X11_refuse l G hp, Nat.le_of_ble_eq_true rfl, Nat.le_of_ble_eq_true rfl⟩, List.forall_mem_cons.mpr ⟨⟨c_X11_tones l G hp, Nat.le_of_ble_eq_true rfl, Nat.le_of_ble_eq_true rfl⟩, List.forall_mem_cons.mpr ⟨⟨c_J9_min_7cf53 l G hp, Nat.le_of_ble_eq_true rfl, Nat.le_of_ble_eq_true rfl⟩, List.forall_mem_cons.mpr ⟨⟨c_X11_gives l G hp, Nat.le_of_ble_eq_true rfl, Nat.le_of_ble_eq_true rfl⟩, fun _ h => absurd h List.not_mem_nil⟩⟩⟩⟩⟩⟩) (fun h => by cases h) 600 ?_
  intro as s0 hpre
  obtain ⟨r, a1, a2, a3, a4, rfl, hr, i0⟩ := hpre
  simp only [List.mem_cons, List.not_mem_nil, or_false] at hr
  rcases hr with rfl
  ·
    have zm1 : (Int32.ofInt (-1)).toInt = -1 := by decide
    have z0 : (Int32.ofInt 0).toInt = 0 := by decide
    have z1 : (Int32.ofInt 1).toInt = 1 := by decide
    have z5 : (Int32.ofInt 5).toInt = 5 := by decide
    have z60 : (Int32.ofInt 60).toInt = 60 := by decide
    have z1000 : (Int32.ofInt 1000).toInt = 1000 := by decide
    have z30000 : (Int32.ofInt 30000).toInt = 30000 := by decide
    refine ⟨Nat.le_of_ble_eq_true rfl, [(67, [true, true, true, true, true, true, true, true, true], (fun L t => ∃ (x5 : Int32) (x6 : Int32) (x7 : Int32) (x8 : Int32), L = [some (.ref 55), some (.int a1), some (.int a2), some (.int a3), some (.int a4), some (.int x5), some (.int x6), some (.int x7), some (.int x8)] ∧ (-30000 : Int) ≤ x8.toInt ∧ x8.toInt ≤ (30060 : Int) ∧ (-30000 : Int) ≤ a1.toInt ∧ a1.toInt ≤ (30000 : Int) ∧ (1 : Int) ≤ a2.toInt ∧ a2.toInt ≤ (60 : Int) ∧ (1 : Int) ≤ a3.toInt ∧ a3.toInt ≤ (1000 : Int) ∧ (0 : Int) ≤ a4.toInt ∧ a4.toInt ≤ (1 : Int) ∧ Iv t ∧ Kt s0 t ∧ vk t = ((vk s0).1, (vk s0).2)), (fun L _ => (0 + (30060 - (vg_li L 8).toInt) * 1000000000000).toNat))], ?_, List.forall_mem_cons.mpr ⟨?_, fun _ h => absurd h List.not_mem_nil⟩⟩
    ·
      refine And.intro (Nat.le_of_ble_eq_true rfl) (And.intro ⟨a1, rfl, trivial⟩ ?_)
      intro v1 s3 h2
      have h2 : s3 = s0 ∧ ((v1.toInt = 1 ∧ -30000 ≤ a1.toInt ∧ a1.toInt ≤ 30000) ∨ (v1.toInt = 0 ∧ (a1.toInt < -30000 ∨ 30000 < a1.toInt))) := h2
      have q6 := h2.1.symm
      subst q6
      have q7 := h2.2
      refine And.intro (fun c8 => ?_) (fun c8 => ?_)
      · have c8 : v1.toInt = 0 := c8
        refine And.intro (Nat.le_of_ble_eq_true rfl) (And.intro ⟨55, (Int32.ofInt 1), rfl, by decide, i0⟩ ?_)
        intro v9 s11 h10
        have h10 : Iv s11 ∧ Kp s0 s11 ∧ vk s11 = ((vk s0).1, (vk s0).2) ∧ (v9.toInt = -1) := h10
        have i12 := h10.1
        have k13 : Kt s0 s11 := Kx.tr Kx.rf (((h10.2.1).pt).pk)
        have u14 : vk s11 = ((vk s0).1, (vk s0).2) := h10.2.2.1.trans rfl
        have q15 := h10.2.2.2
        show Iv s11 ∧ Kt s0 s11 ∧ vk s11 = ((vk s0).1, (vk s0).2) ∧ (True)
        exact ⟨i12, k13, u14, (trivial)⟩
      · have c8 : ¬ (v1.toInt = 0) := c8
        refine And.intro (Nat.le_of_ble_eq_true rfl) (And.intro ⟨a2, (Int32.ofInt 1), (Int32.ofInt 60), rfl, trivial⟩ ?_)
        intro v16 s18 h17
        have h17 : s18 = s0 ∧ ((v16.toInt = 1 ∧ (Int32.ofInt 1).toInt ≤ a2.toInt ∧ a2.toInt ≤ (Int32.ofInt 60).toInt) ∨ (v16.toInt = 0 ∧ (a2.toInt < (Int32.ofInt 1).toInt ∨ (Int32.ofInt 60).toInt < a2.toInt))) := h17
        have q21 := h17.1.symm
        subst q21
        have q22 := h17.2
        refine And.intro (fun c23 => ?_) (fun c23 => ?_)
        · have c23 : v16.toInt = 0 := c23
          refine And.intro (Nat.le_of_ble_eq_true rfl) (And.intro ⟨55, (Int32.ofInt 1), rfl, by decide, i0⟩ ?_)
          intro v24 s26 h25
          have h25 : Iv s26 ∧ Kp s0 s26 ∧ vk s26 = ((vk s0).1, (vk s0).2) ∧ (v24.toInt = -1) := h25
          have i27 := h25.1
          have k28 : Kt s0 s26 := Kx.tr Kx.rf (((h25.2.1).pt).pk)
          have u29 : vk s26 = ((vk s0).1, (vk s0).2) := h25.2.2.1.trans rfl
          have q30 := h25.2.2.2
          show Iv s26 ∧ Kt s0 s26 ∧ vk s26 = ((vk s0).1, (vk s0).2) ∧ (True)
          exact ⟨i27, k28, u29, (trivial)⟩
        · have c23 : ¬ (v16.toInt = 0) := c23
          intro v31 e32
          have b33 := vg_add e32 (by omega) (by omega)
          intro v34 e35
          have b36 := vg_sub e35 (by omega) (by omega)
          refine And.intro (fun c37 => ?_) (fun c37 => ?_)
          · have c37 : (Int32.ofInt 30000).toInt < v34.toInt := c37
            refine And.intro (Nat.le_of_ble_eq_true rfl) (And.intro ⟨55, (Int32.ofInt 1), rfl, by decide, i0⟩ ?_)
            intro v38 s40 h39
            have h39 : Iv s40 ∧ Kp s0 s40 ∧ vk s40 = ((vk s0).1, (vk s0).2) ∧ (v38.toInt = -1) := h39
            have i41 := h39.1
            have k42 : Kt s0 s40 := Kx.tr Kx.rf (((h39.2.1).pt).pk)
            have u43 : vk s40 = ((vk s0).1, (vk s0).2) := h39.2.2.1.trans rfl
            have q44 := h39.2.2.2
            show Iv s40 ∧ Kt s0 s40 ∧ vk s40 = ((vk s0).1, (vk s0).2) ∧ (True)
            exact ⟨i41, k42, u43, (trivial)⟩
          · have c37 : ¬ ((Int32.ofInt 30000).toInt < v34.toInt) := c37
            refine And.intro (Nat.le_of_ble_eq_true rfl) (And.intro ⟨a3, (Int32.ofInt 1), (Int32.ofInt 1000), rfl, trivial⟩ ?_)
            intro v45 s47 h46
            have h46 : s47 = s0 ∧ ((v45.toInt = 1 ∧ (Int32.ofInt 1).toInt ≤ a3.toInt ∧ a3.toInt ≤ (Int32.ofInt 1000).toInt) ∨ (v45.toInt = 0 ∧ (a3.toInt < (Int32.ofInt 1).toInt ∨ (Int32.ofInt 1000).toInt < a3.toInt))) := h46
            have q50 := h46.1.symm
            subst q50
            have q51 := h46.2
            refine And.intro (fun c52 => ?_) (fun c52 => ?_)
            · have c52 : v45.toInt = 0 := c52
              refine And.intro (Nat.le_of_ble_eq_true rfl) (And.intro ⟨55, (Int32.ofInt 1), rfl, by decide, i0⟩ ?_)
              intro v53 s55 h54
              have h54 : Iv s55 ∧ Kp s0 s55 ∧ vk s55 = ((vk s0).1, (vk s0).2) ∧ (v53.toInt = -1) := h54
              have i56 := h54.1
              have k57 : Kt s0 s55 := Kx.tr Kx.rf (((h54.2.1).pt).pk)
              have u58 : vk s55 = ((vk s0).1, (vk s0).2) := h54.2.2.1.trans rfl
              have q59 := h54.2.2.2
              show Iv s55 ∧ Kt s0 s55 ∧ vk s55 = ((vk s0).1, (vk s0).2) ∧ (True)
              exact ⟨i56, k57, u58, (trivial)⟩
            · have c52 : ¬ (v45.toInt = 0) := c52
              refine And.intro (Nat.le_of_ble_eq_true rfl) (And.intro ⟨a4, (Int32.ofInt 0), (Int32.ofInt 1), rfl, trivial⟩ ?_)
              intro v60 s62 h61
              have h61 : s62 = s0 ∧ ((v60.toInt = 1 ∧ (Int32.ofInt 0).toInt ≤ a4.toInt ∧ a4.toInt ≤ (Int32.ofInt 1).toInt) ∨ (v60.toInt = 0 ∧ (a4.toInt < (Int32.ofInt 0).toInt ∨ (Int32.ofInt 1).toInt < a4.toInt))) := h61
              have q65 := h61.1.symm
              subst q65
              have q66 := h61.2
              refine And.intro (fun c67 => ?_) (fun c67 => ?_)
              · have c67 : ¬ v60.toInt = 0 := c67
                exact ⟨rfl, ⟨(Int32.ofInt 0), (Int32.ofInt 0), (Int32.ofInt (-1)), a1, rfl, (by omega), (by omega), (by omega), (by omega), (by omega), (by omega), (by omega), (by omega), (by omega), (by omega), i0, Kx.rf, rfl⟩, trivial⟩
              · have c67 : ¬ (¬ v60.toInt = 0) := c67
                refine And.intro (Nat.le_of_ble_eq_true rfl) (And.intro ⟨55, (Int32.ofInt 1), rfl, by decide, i0⟩ ?_)
                intro v68 s70 h69
                have h69 : Iv s70 ∧ Kp s0 s70 ∧ vk s70 = ((vk s0).1, (vk s0).2) ∧ (v68.toInt = -1) := h69
                have i71 := h69.1
                have k72 : Kt s0 s70 := Kx.tr Kx.rf (((h69.2.1).pt).pk)
                have u73 : vk s70 = ((vk s0).1, (vk s0).2) := h69.2.2.1.trans rfl
                have q74 := h69.2.2.2
                show Iv s70 ∧ Kt s0 s70 ∧ vk s70 = ((vk s0).1, (vk s0).2) ∧ (True)
                exact ⟨i71, k72, u73, (trivial)⟩
    ·
      intro L s89 hL
      obtain ⟨w75, w76, w77, w78, rfl, b79, b80, b81, b82, b83, b84, b85, b86, b87, b88, i90, k91, u92⟩ := hL
      intro v93 e94
      have b95 := vg_add e94 (by omega) (by omega)
      refine And.intro (fun c96 => ?_) (fun c96 => ?_)
      · have c96 : v93.toInt ≤ w78.toInt := c96
        refine And.intro (fun c97 => ?_) (fun c97 => ?_)
        · have c97 : ¬ a4.toInt = 0 := c97
          refine And.intro (fun c98 => ?_) (fun c98 => ?_)
          · have c98 : ¬ w77.toInt = (Int32.ofInt (-1)).toInt := c98
            refine And.intro (Nat.le_of_ble_eq_true rfl) (And.intro ⟨55, w76, rfl, by decide, i90⟩ ?_)
            intro v99 s101 h100
            have h100 : Iv s101 ∧ Kp s89 s101 ∧ vk s101 = ((vk s89).1, (vk s89).2) ∧ (v99 = w76 ∧ v99.toInt = w76.toInt) := h100
            have i102 := h100.1
            have k103 : Kt s0 s101 := Kx.tr k91 (((h100.2.1).pt).pk)
            have u104 : vk s101 = ((vk s0).1, (vk s0).2) := h100.2.2.1.trans u92
            have q105 := h100.2.2.2
            show Iv s101 ∧ Kt s0 s101 ∧ vk s101 = ((vk s0).1, (vk s0).2) ∧ (True)
            exact ⟨i102, k103, u104, (trivial)⟩
          · have c98 : ¬ (¬ w77.toInt = (Int32.ofInt (-1)).toInt) := c98
            refine And.intro (Nat.le_of_ble_eq_true rfl) (And.intro ⟨55, (Int32.ofInt 5), rfl, by decide, i90⟩ ?_)
            intro v106 s108 h107
            have h107 : Iv s108 ∧ Kp s89 s108 ∧ vk s108 = ((vk s89).1, (vk s89).2) ∧ (v106.toInt = -1) := h107
            have i109 := h107.1
            have k110 : Kt s0 s108 := Kx.tr k91 (((h107.2.1).pt).pk)
            have u111 : vk s108 = ((vk s0).1, (vk s0).2) := h107.2.2.1.trans u92
            have q112 := h107.2.2.2
            show Iv s108 ∧ Kt s0 s108 ∧ vk s108 = ((vk s0).1, (vk s0).2) ∧ (True)
            exact ⟨i109, k110, u111, (trivial)⟩
        · have c97 : ¬ (¬ a4.toInt = 0) := c97
          refine And.intro (Nat.le_of_ble_eq_true rfl) (And.intro ⟨55, w75, rfl, by decide, i90⟩ ?_)
          intro v113 s115 h114
          have h114 : Iv s115 ∧ Kp s89 s115 ∧ vk s115 = ((vk s89).1, (vk s89).2) ∧ (v113 = w75 ∧ v113.toInt = w75.toInt) := h114
          have i116 := h114.1
          have k117 : Kt s0 s115 := Kx.tr k91 (((h114.2.1).pt).pk)
          have u118 : vk s115 = ((vk s0).1, (vk s0).2) := h114.2.2.1.trans u92
          have q119 := h114.2.2.2
          show Iv s115 ∧ Kt s0 s115 ∧ vk s115 = ((vk s0).1, (vk s0).2) ∧ (True)
          exact ⟨i116, k117, u118, (trivial)⟩
      · have c96 : ¬ (v93.toInt ≤ w78.toInt) := c96
        refine And.intro (Nat.le_of_ble_eq_true rfl) (And.intro ⟨55, w78, (Int32.ofInt 0), rfl, by decide, i90⟩ ?_)
        intro s121 h120
        have h120 : Iv s121 ∧ Kt s89 s121 ∧ vk s121 = ((vk s89).1, (vk s89).2) ∧ ((s121.1 55 31).toInt = -1 ∨ (0 ≤ (s121.1 55 30).toInt ∧ 1 ≤ (s121.1 55 31).toInt ∧ (s121.1 55 30).toInt + (s121.1 55 31).toInt ≤ 1000)) := h120
        have i122 := h120.1
        have k123 : Kt s0 s121 := Kx.tr k91 (h120.2.1)
        have u124 : vk s121 = ((vk s0).1, (vk s0).2) := h120.2.2.1.trans u92
        have q125 := h120.2.2.2
        intro v126 e127
        have g128 : s121.1 55 31 = v126 := by rw [e127]
        have b129 : v126.toInt = (s121.1 55 31).toInt := congrArg Int32.toInt e127
        refine And.intro (fun c130 => ?_) (fun c130 => ?_)
        · have c130 : v126.toInt = (Int32.ofInt (-1)).toInt := c130
          intro v131 e132
          have b133 := vg_add e132 (by omega) (by omega)
          exact ⟨rfl, ⟨w75, w76, w77, v131, rfl, (by omega), (by omega), (by omega), (by omega), (by omega), (by omega), (by omega), (by omega), (by omega), (by omega), i122, k123, u124⟩, (by show (0 + (30060 - v131.toInt) * 1000000000000).toNat < (0 + (30060 - w78.toInt) * 1000000000000).toNat; omega)⟩
        · have c130 : ¬ (v126.toInt = (Int32.ofInt (-1)).toInt) := c130
          intro v134 e135
          have w136 : v126 = v134 := by rw [e135, g128]
          subst w136
          refine And.intro (fun c137 => ?_) (fun c137 => ?_)
          · have c137 : v126.toInt ≤ a3.toInt := c137
            intro v138 e139
            refine And.intro (fun c140 => ?_) (fun c140 => ?_)
            · have c140 : w77.toInt = (Int32.ofInt (-1)).toInt := c140
              refine And.intro (fun c141 => ?_) (fun c141 => ?_)
              · have c141 : ¬ w77.toInt = (Int32.ofInt (-1)).toInt := c141
                exfalso
                omega
              · have c141 : ¬ (¬ w77.toInt = (Int32.ofInt (-1)).toInt) := c141
                intro v142 e143
                have w144 : v126 = v142 := by rw [e143, g128]
                subst w144
                intro v145 e146
                have b147 := vg_add e146 (by omega) (by omega)
                exact ⟨rfl, ⟨v138, w78, v126, v145, rfl, (by omega), (by omega), (by omega), (by omega), (by omega), (by omega), (by omega), (by omega), (by omega), (by omega), i122, k123, u124⟩, (by show (0 + (30060 - v145.toInt) * 1000000000000).toNat < (0 + (30060 - w78.toInt) * 1000000000000).toNat; omega)⟩
            · have c140 : ¬ (w77.toInt = (Int32.ofInt (-1)).toInt) := c140
              intro v148 e149
              have w150 : v126 = v148 := by rw [e149, g128]
              subst w150
              refine And.intro (fun c151 => ?_) (fun c151 => ?_)
              · have c151 : w77.toInt ≤ v126.toInt := c151
                refine And.intro (fun c152 => ?_) (fun c152 => ?_)
                · have c152 : ¬ w77.toInt = (Int32.ofInt (-1)).toInt := c152
                  intro v153 e154
                  have w155 : v126 = v153 := by rw [e154, g128]
                  subst w155
                  refine And.intro (Nat.le_of_ble_eq_true rfl) (And.intro ⟨w77, v126, rfl, trivial⟩ ?_)
                  intro v156 s158 h157
                  have h157 : s158 = s121 ∧ (v156.toInt ≤ w77.toInt ∧ v156.toInt ≤ v126.toInt ∧ (v156.toInt = w77.toInt ∨ v156.toInt = v126.toInt)) := h157
                  have q161 := h157.1.symm
                  subst q161
                  have q162 := h157.2
                  intro v163 e164
                  have b165 := vg_add e164 (by omega) (by omega)
                  exact ⟨rfl, ⟨v138, w76, v156, v163, rfl, (by omega), (by omega), (by omega), (by omega), (by omega), (by omega), (by omega), (by omega), (by omega), (by omega), i122, k123, u124⟩, (by show (0 + (30060 - v163.toInt) * 1000000000000).toNat < (0 + (30060 - w78.toInt) * 1000000000000).toNat; omega)⟩
                · have c152 : ¬ (¬ w77.toInt = (Int32.ofInt (-1)).toInt) := c152
                  intro v166 e167
                  have w168 : v126 = v166 := by rw [e167, g128]
                  subst w168
                  intro v169 e170
                  have b171 := vg_add e170 (by omega) (by omega)
                  exact ⟨rfl, ⟨v138, w76, v126, v169, rfl, (by omega), (by omega), (by omega), (by omega), (by omega), (by omega), (by omega), (by omega), (by omega), (by omega), i122, k123, u124⟩, (by show (0 + (30060 - v169.toInt) * 1000000000000).toNat < (0 + (30060 - w78.toInt) * 1000000000000).toNat; omega)⟩
              · have c151 : ¬ (w77.toInt ≤ v126.toInt) := c151
                refine And.intro (fun c172 => ?_) (fun c172 => ?_)
                · have c172 : ¬ w77.toInt = (Int32.ofInt (-1)).toInt := c172
                  intro v173 e174
                  have w175 : v126 = v173 := by rw [e174, g128]
                  subst w175
                  refine And.intro (Nat.le_of_ble_eq_true rfl) (And.intro ⟨w77, v126, rfl, trivial⟩ ?_)
                  intro v176 s178 h177
                  have h177 : s178 = s121 ∧ (v176.toInt ≤ w77.toInt ∧ v176.toInt ≤ v126.toInt ∧ (v176.toInt = w77.toInt ∨ v176.toInt = v126.toInt)) := h177
                  have q181 := h177.1.symm
                  subst q181
                  have q182 := h177.2
                  intro v183 e184
                  have b185 := vg_add e184 (by omega) (by omega)
                  exact ⟨rfl, ⟨v138, w78, v176, v183, rfl, (by omega), (by omega), (by omega), (by omega), (by omega), (by omega), (by omega), (by omega), (by omega), (by omega), i122, k123, u124⟩, (by show (0 + (30060 - v183.toInt) * 1000000000000).toNat < (0 + (30060 - w78.toInt) * 1000000000000).toNat; omega)⟩
                · have c172 : ¬ (¬ w77.toInt = (Int32.ofInt (-1)).toInt) := c172
                  intro v186 e187
                  have w188 : v126 = v186 := by rw [e187, g128]
                  subst w188
                  intro v189 e190
                  have b191 := vg_add e190 (by omega) (by omega)
                  exact ⟨rfl, ⟨v138, w78, v126, v189, rfl, (by omega), (by omega), (by omega), (by omega), (by omega), (by omega), (by omega), (by omega), (by omega), (by omega), i122, k123, u124⟩, (by show (0 + (30060 - v189.toInt) * 1000000000000).toNat < (0 + (30060 - w78.toInt) * 1000000000000).toNat; omega)⟩
          · have c137 : ¬ (v126.toInt ≤ a3.toInt) := c137
            intro v192 e193
            have b194 := vg_add e193 (by omega) (by omega)
            exact ⟨rfl, ⟨w75, w76, w77, v192, rfl, (by omega), (by omega), (by omega), (by omega), (by omega), (by omega), (by omega), (by omega), (by omega), (by omega), i122, k123, u124⟩, (by show (0 + (30060 - v192.toInt) * 1000000000000).toNat < (0 + (30060 - w78.toInt) * 1000000000000).toNat; omega)⟩
def o_X11_ahead : List vg_I := [(0, .iload_n 1, 1, 0, 0, 0, 0), (1, .iconst 1, 1, 0, 0, 0, 0), (2, .sipush 200, 3, 0, 0, 0, 0), (5, .invokestatic 76, 3, 0, 1, 3, 1175), (8, .ifCond .eq 21, 3, 0, 0, 0, 0), (11, .iload_n 2, 1, 0, 0, 0, 0), (12, .iconst 0, 1, 0, 0, 0, 0), (13, .iconst 2, 1, 0, 0, 0, 0), (14, .invokestatic 76, 3, 0, 1, 3, 1175), (17, .ifCond .eq 12, 3, 0, 0, 0, 0), (20, .iload_n 3, 1, 0, 0, 0, 0), (21, .iconst 0, 1, 0, 0, 0, 0), (22, .iconst 2, 1, 0, 0, 0, 0), (23, .invokestatic 76, 3, 0, 1, 3, 1175), (26, .ifCond .ne 10, 3, 0, 0, 0, 0), (29, .aload_n 0, 1, 0, 0, 0, 0), (30, .iconst 1, 1, 0, 0, 0, 0), (31, .invokevirtual 242, 3, 1, 11, 1, 1181), (34, .i2l, 1, 0, 0, 0, 0), (35, .lreturn, 1, 0, 0, 0, 0), (36, .aload_n 0, 1, 0, 0, 0, 0), (37, .getfield 164, 3, 1076, 11, 15, 0), (40, .istore 4, 2, 0, 0, 0, 0), (42, .aload_n 0, 1, 0, 0, 0, 0), (43, .getfield 7, 3, 1061, 11, 0, 0), (46, .aload_n 0, 1, 0, 0, 0, 0), (47, .getfield 70, 3, 1095, 11, 34, 0), (50, .invokestatic 283, 3, 2, 1, 2, 1474), (53, .aload_n 0, 1, 0, 0, 0, 0), (54, .iload_n 2, 1, 0, 0, 0, 0), (55, .putfield 164, 3, 1076, 11, 15, 0), (58, .aload_n 0, 1, 0, 0, 0, 0), (59, .invokevirtual 87, 3, 3, 11, 0, 1197), (62, .lconst 0, 1, 0, 0, 0, 0), (63, .lstore 5, 2, 0, 0, 0, 0), (65, .iconst 0, 1, 0, 0, 0, 0), (66, .istore 7, 2, 0, 0, 0, 0), (68, .iload 7, 2, 0, 0, 0, 0), (70, .iload_n 1, 1, 0, 0, 0, 0), (71, .if_icmp .ge 30, 3, 0, 0, 0, 0), (74, .aload_n 0, 1, 0, 0, 0, 0), (75, .invokevirtual 264, 3, 4, 11, 0, 1272), (78, .lload 5, 2, 0, 0, 0, 0), (80, .aload_n 0, 1, 0, 0, 0, 0), (81, .getfield 7, 3, 1061, 11, 0, 0), (84, .bipush 11, 2, 0, 0, 0, 0), (86, .laload, 1, 0, 0, 0, 0), (87, .invokestatic 216, 3, 5, 1, 1, 1326), (90, .invokestatic 176, 3, 6, 1, 2, 1327), (93, .lstore 5, 2, 0, 0, 0, 0), (95, .iinc 7 1, 3, 0, 0, 0, 0), (98, .goto (-30), 3, 0, 0, 0, 0), (101, .iload_n 3, 1, 0, 0, 0, 0), (102, .ifCond .ne 11, 3, 0, 0, 0, 0), (105, .aload_n 0, 1, 0, 0, 0, 0), (106, .invokevirtual 273, 3, 7, 11, 0, 1417), (109, .i2l, 1, 0, 0, 0, 0), (110, .goto 20, 3, 0, 0, 0, 0), (113, .iload_n 3, 1, 0, 0, 0, 0), (114, .iconst 1, 1, 0, 0, 0, 0), (115, .if_icmp .ne 13, 3, 0, 0, 0, 0), (118, .aload_n 0, 1, 0, 0, 0, 0), (119, .getfield 7, 3, 1061, 11, 0, 0), (122, .bipush 11, 2, 0, 0, 0, 0), (124, .laload, 1, 0, 0, 0, 0), (125, .goto 5, 3, 0, 0, 0, 0), (128, .lload 5, 2, 0, 0, 0, 0), (130, .lstore 7, 2, 0, 0, 0, 0), (132, .aload_n 0, 1, 0, 0, 0, 0), (133, .iload 4, 2, 0, 0, 0, 0), (135, .putfield 164, 3, 1076, 11, 15, 0), (138, .aload_n 0, 1, 0, 0, 0, 0), (139, .getfield 70, 3, 1095, 11, 34, 0), (142, .aload_n 0, 1, 0, 0, 0, 0), (143, .getfield 7, 3, 1061, 11, 0, 0), (146, .invokestatic 283, 3, 2, 1, 2, 1474), (149, .aload_n 0, 1, 0, 0, 0, 0), (150, .lload 7, 2, 0, 0, 0, 0), (152, .invokevirtual 270, 3, 8, 11, 1, 1393), (155, .lreturn, 1, 0, 0, 0, 0)]
set_option maxRecDepth 100000 in
set_option maxHeartbeats 4000000 in
theorem c_X11_ahead (l : Launch) (G : vg_G) (hp : vg_Hp G) : vg_Ct l G vg_sh r_X11_ahead := by
  refine vg_meth hp vg_sh_ok r_X11_ahead k_X11_ahead rfl (fun h => by cases h) o_X11_ahead [r_X11_isFrom, r_X11_refuse, r_X11_copies, r_X11_beginsElements, r_X11_goes, r_J9_abs_067f4, r_J9_max_f86c9, r_X11_spreadNow, r_X11_givesLong] false (by decide +kernel) (by decide +kernel) ⟨_, _, rfl, rfl⟩ (List.forall_mem_cons.mpr ⟨⟨c_X11_isFrom l G hp, Nat.le_of_ble_eq_true rfl, Nat.le_of_ble_eq_true rfl⟩, List.forall_mem_cons.mpr ⟨⟨c_X11_refuse l G hp, Nat.le_of_ble_eq_true rfl, Nat.le_of_ble_eq_true rfl⟩, List.forall_mem_cons.mpr ⟨⟨c_X11_copies l G hp, Nat.le_of_ble_eq_true rfl, Nat.le_of_ble_eq_true rfl⟩, List.forall_mem_cons.mpr ⟨⟨c_X11_beginsElements l G hp, Nat.le_of_ble_eq_true rfl, Nat.le_of_ble_eq_true rfl⟩, List.forall_mem_cons.mpr ⟨⟨c_X11_goes l G hp, Nat.le_of_ble_eq_true rfl, Nat.le_of_ble_eq_true rfl⟩, List.forall_mem_cons.mpr ⟨⟨c_J9_abs_067f4 l G hp, Nat.le_of_ble_eq_true rfl, Nat.le_of_ble_eq_true rfl⟩, List.forall_mem_cons.mpr ⟨⟨c_J9_max_f86c9 l G hp, Nat.le_of_ble_eq_true rfl, Nat.le_of_ble_eq_true rfl⟩, List.forall_mem_cons.mpr ⟨⟨c_X11_spreadNow l G hp, Nat.le_of_ble_eq_true rfl, Nat.le_of_ble_eq_true rfl⟩, List.forall_mem_cons.mpr ⟨⟨c_X11_givesLong l G hp, Nat.le_of_ble_eq_true rfl, Nat.le_of_ble_eq_true rfl⟩, fun _ h => absurd h List.not_mem_nil⟩⟩⟩⟩⟩⟩⟩⟩⟩) (fun h => by cases h) 600 ?_
  intro as s0 hpre
  obtain ⟨r, a1, a2, a3, rfl, hr, i0, p0⟩ := hpre
  simp only [List.mem_cons, List.not_mem_nil, or_false] at hr
  rcases hr with rfl
  ·
    have z0 : (Int32.ofInt 0).toInt = 0 := by decide
    have z1 : (Int32.ofInt 1).toInt = 1 := by decide
    have z2 : (Int32.ofInt 2).toInt = 2 := by decide
    have z11 : (Int32.ofInt 11).toInt = 11 := by decide
    have z200 : (Int32.ofInt 200).toInt = 200 := by decide
    refine ⟨Nat.le_of_ble_eq_true rfl, [(68, [true, true, false, true, true, true, false, true, false], (fun L t => ∃ (x4 : Int32) (x5 : Int64) (x7 : Int32), L = [some (.ref 55), some (.int a1), none, some (.int a3), some (.int x4), some (.long x5), none, some (.int x7), none] ∧ (0 : Int) ≤ x7.toInt ∧ x7.toInt ≤ (200 : Int) ∧ (1 : Int) ≤ a1.toInt ∧ a1.toInt ≤ (200 : Int) ∧ (0 : Int) ≤ a3.toInt ∧ a3.toInt ≤ (2 : Int) ∧ ((t.2 56 0).toInt = (s0.2 56 0).toInt + x7.toInt ∧ x4.toInt = (s0.1 55 15).toInt) ∧ (∀ j : Nat, j < 481 → t.2 67 j = s0.2 56 j) ∧ (t.2 67 0 = s0.2 56 0) ∧ Iv t ∧ K_X11_aheadm s0 t ∧ vk t = ((vk s0).1, (vk t).2)), (fun L _ => (0 + (200 - (vg_li L 7).toInt) * 1000000000000).toNat))], ?_, List.forall_mem_cons.mpr ⟨?_, fun _ h => absurd h List.not_mem_nil⟩⟩
    ·
      refine And.intro (Nat.le_of_ble_eq_true rfl) (And.intro ⟨a1, (Int32.ofInt 1), (Int32.ofInt 200), rfl, trivial⟩ ?_)
      intro v1 s3 h2
      have h2 : s3 = s0 ∧ ((v1.toInt = 1 ∧ (Int32.ofInt 1).toInt ≤ a1.toInt ∧ a1.toInt ≤ (Int32.ofInt 200).toInt) ∨ (v1.toInt = 0 ∧ (a1.toInt < (Int32.ofInt 1).toInt ∨ (Int32.ofInt 200).toInt < a1.toInt))) := h2
      have q6 := h2.1.symm
      subst q6
      have q7 := h2.2
      refine And.intro (fun c8 => ?_) (fun c8 => ?_)
      · have c8 : v1.toInt = 0 := c8
        refine And.intro (Nat.le_of_ble_eq_true rfl) (And.intro ⟨55, (Int32.ofInt 1), rfl, by decide, i0⟩ ?_)
        intro v9 s11 h10
        have h10 : Iv s11 ∧ Kp s0 s11 ∧ vk s11 = ((vk s0).1, (vk s0).2) ∧ (v9.toInt = -1) := h10
        have i12 := h10.1
        have k13 : K_X11_ahead s0 s11 := Kx.tr Kx.rf (((h10.2.1).pt).px)
        have u14 : vk s11 = ((vk s0).1, (vk s0).2) := h10.2.2.1.trans rfl
        have q15 := h10.2.2.2
        intro v16 e17
        show Iv s11 ∧ K_X11_ahead s0 s11 ∧ vk s11 = ((vk s0).1, (vk s0).2) ∧ ((s11.1 55 15).toInt = (s0.1 55 15).toInt)
        exact ⟨i12, k13, u14, (by first | exact congrArg Int32.toInt (h10.2.1.1 55 15 rfl) | (rw [none]; omega))⟩
      · have c8 : ¬ (v1.toInt = 0) := c8
        refine And.intro (Nat.le_of_ble_eq_true rfl) (And.intro ⟨a2, (Int32.ofInt 0), (Int32.ofInt 2), rfl, trivial⟩ ?_)
        intro v18 s20 h19
        have h19 : s20 = s0 ∧ ((v18.toInt = 1 ∧ (Int32.ofInt 0).toInt ≤ a2.toInt ∧ a2.toInt ≤ (Int32.ofInt 2).toInt) ∨ (v18.toInt = 0 ∧ (a2.toInt < (Int32.ofInt 0).toInt ∨ (Int32.ofInt 2).toInt < a2.toInt))) := h19
        have q23 := h19.1.symm
        subst q23
        have q24 := h19.2
        refine And.intro (fun c25 => ?_) (fun c25 => ?_)
        · have c25 : v18.toInt = 0 := c25
          refine And.intro (Nat.le_of_ble_eq_true rfl) (And.intro ⟨55, (Int32.ofInt 1), rfl, by decide, i0⟩ ?_)
          intro v26 s28 h27
          have h27 : Iv s28 ∧ Kp s0 s28 ∧ vk s28 = ((vk s0).1, (vk s0).2) ∧ (v26.toInt = -1) := h27
          have i29 := h27.1
          have k30 : K_X11_ahead s0 s28 := Kx.tr Kx.rf (((h27.2.1).pt).px)
          have u31 : vk s28 = ((vk s0).1, (vk s0).2) := h27.2.2.1.trans rfl
          have q32 := h27.2.2.2
          intro v33 e34
          show Iv s28 ∧ K_X11_ahead s0 s28 ∧ vk s28 = ((vk s0).1, (vk s0).2) ∧ ((s28.1 55 15).toInt = (s0.1 55 15).toInt)
          exact ⟨i29, k30, u31, (by first | exact congrArg Int32.toInt (h27.2.1.1 55 15 rfl) | (rw [none]; omega))⟩
        · have c25 : ¬ (v18.toInt = 0) := c25
          refine And.intro (Nat.le_of_ble_eq_true rfl) (And.intro ⟨a3, (Int32.ofInt 0), (Int32.ofInt 2), rfl, trivial⟩ ?_)
          intro v35 s37 h36
          have h36 : s37 = s0 ∧ ((v35.toInt = 1 ∧ (Int32.ofInt 0).toInt ≤ a3.toInt ∧ a3.toInt ≤ (Int32.ofInt 2).toInt) ∨ (v35.toInt = 0 ∧ (a3.toInt < (Int32.ofInt 0).toInt ∨ (Int32.ofInt 2).toInt < a3.toInt))) := h36
          have q40 := h36.1.symm
          subst q40
          have q41 := h36.2
          refine And.intro (fun c42 => ?_) (fun c42 => ?_)
          · have c42 : ¬ v35.toInt = 0 := c42
            intro v43 e44
            have g45 : s0.1 55 15 = v43 := by rw [e44]
            have g46 : s0.1 55 15 = v43 := e44.symm
            have b47 : v43.toInt = (s0.1 55 15).toInt := congrArg Int32.toInt e44
            refine And.intro (Nat.le_of_ble_eq_true rfl) (And.intro ⟨56, 67, rfl, by decide, by decide, i0, by decide⟩ ?_)
            intro s49 h48
            have h48 : (s49.1 = s0.1 ∧ s49.2 67 0 = s0.2 56 0 ∧ (∀ k, k ≠ 67 → s49.2 k = s0.2 k) ∧ ∀ j : Nat, j < 481 → s49.2 67 j = s0.2 56 j) := h48
            have i50 : Iv s49 := Iv.of i0 (fun q _ => by rw [h48.1]) (by rw [h48.1])
            have k51 : K_X11_ahead s0 s49 := by first | exact vg_cp_out1 Kx.rf h48.1 h48.2.2.1 (by decide) | exact vg_cp_outn Kx.rf h48.1
            have u52 : vk s49 = ((vk s0).1, (vk s0).2) := vk_cpo h48.1 (h48.2.2.1 56 (by decide)) rfl
            have g53 : s49.1 55 15 = v43 := by rw [h48.1]; exact g46
            have y54 : ∀ j : Nat, j < 481 → s49.2 67 j = s0.2 56 j := h48.2.2.2
            have y55 : s49.2 67 0 = s0.2 56 0 := h48.2.1
            have y56 : (s49.2 56 0).toInt = (s0.2 56 0).toInt := by rw [h48.2.2.1 56 (by decide)]
            intro s57 e58
            have i59 : Iv s57 := Iv.u1 i50 e58 rfl
            have k60 : K_X11_ahead s0 s57 := Kx.u1 k51 e58 rfl
            have u61 : vk s57 = ((vk s0).1, (vk s0).2) := vk_k1 u52 e58 rfl
            have y62 : ∀ j : Nat, j < 481 → s57.2 67 j = s0.2 56 j := by rw [e58]; exact y54
            have y63 : s57.2 67 0 = s0.2 56 0 := by rw [e58]; exact y55
            have y64 : (s57.2 56 0).toInt = (s0.2 56 0).toInt := by rw [e58]; exact y56
            have g65 : s57.1 55 15 = a2 := by rw [e58]; exact vg_u1_self
            refine And.intro (Nat.le_of_ble_eq_true rfl) (And.intro ⟨55, rfl, by decide, i59⟩ ?_)
            intro s67 h66
            have h66 : Iv s67 ∧ Kp s57 s67 ∧ vk s67 = ((vk s57).1, (vk s57).2) ∧ (True) := h66
            have i68 := h66.1
            have k69 : K_X11_ahead s0 s67 := Kx.tr k60 (((h66.2.1).pt).px)
            have u70 : vk s67 = ((vk s0).1, (vk s0).2) := h66.2.2.1.trans u61
            have y71 : ∀ j : Nat, j < 481 → s67.2 67 j = s0.2 56 j := fun j hj => by rw [h66.2.1.2 67 j rfl]; exact y62 j hj
            have y72 : s67.2 67 0 = s0.2 56 0 := by rw [h66.2.1.2 67 0 rfl]; exact y63
            have y73 : (s67.2 56 0).toInt = (s0.2 56 0).toInt := by rw [h66.2.1.2 56 0 rfl]; exact y64
            have g74 : s67.1 55 15 = a2 := by rw [h66.2.1.1 55 15 rfl]; exact g65
            exact ⟨rfl, ⟨v43, (Int64.ofNat 0), (Int32.ofInt 0), rfl, (by omega), (by omega), (by omega), (by omega), (by omega), (by omega), (by omega), y71, y72, i68, (((k69).qn).xx (by decide)), vk_h2 u70⟩, trivial⟩
          · have c42 : ¬ (¬ v35.toInt = 0) := c42
            refine And.intro (Nat.le_of_ble_eq_true rfl) (And.intro ⟨55, (Int32.ofInt 1), rfl, by decide, i0⟩ ?_)
            intro v75 s77 h76
            have h76 : Iv s77 ∧ Kp s0 s77 ∧ vk s77 = ((vk s0).1, (vk s0).2) ∧ (v75.toInt = -1) := h76
            have i78 := h76.1
            have k79 : K_X11_ahead s0 s77 := Kx.tr Kx.rf (((h76.2.1).pt).px)
            have u80 : vk s77 = ((vk s0).1, (vk s0).2) := h76.2.2.1.trans rfl
            have q81 := h76.2.2.2
            intro v82 e83
            show Iv s77 ∧ K_X11_ahead s0 s77 ∧ vk s77 = ((vk s0).1, (vk s0).2) ∧ ((s77.1 55 15).toInt = (s0.1 55 15).toInt)
            exact ⟨i78, k79, u80, (by first | exact congrArg Int32.toInt (h76.2.1.1 55 15 rfl) | (rw [none]; omega))⟩
    ·
      intro L s96 hL
      obtain ⟨w84, w85, w86, rfl, b87, b88, b89, b90, b91, b92, x93, y94, y95, i97, k98, u99⟩ := hL
      refine And.intro (fun c100 => ?_) (fun c100 => ?_)
      · have c100 : a1.toInt ≤ w86.toInt := c100
        refine And.intro (fun c101 => ?_) (fun c101 => ?_)
        · have c101 : ¬ a3.toInt = 0 := c101
          refine And.intro (fun c102 => ?_) (fun c102 => ?_)
          · have c102 : ¬ a3.toInt = (Int32.ofInt 1).toInt := c102
            intro s103 e104
            have i105 : Iv s103 := Iv.u1 i97 e104 rfl
            have k106 : K_X11_aheadm s0 s103 := Kx.u1 k98 e104 rfl
            have u107 : vk s103 = ((vk s0).1, (vk s96).2) := vk_k1 u99 e104 rfl
            have y108 : ∀ j : Nat, j < 481 → s103.2 67 j = s0.2 56 j := by rw [e104]; exact y94
            have y109 : s103.2 67 0 = s0.2 56 0 := by rw [e104]; exact y95
            have g110 : s103.1 55 15 = w84 := by rw [e104]; exact vg_u1_self
            refine And.intro (Nat.le_of_ble_eq_true rfl) (And.intro ⟨67, 56, rfl, by decide, by decide, i105, by decide⟩ ?_)
            intro s112 h111
            have h111 : (s112.1 = s103.1 ∧ s112.2 56 0 = s103.2 67 0 ∧ (∀ k, k ≠ 56 → s112.2 k = s103.2 k) ∧ ∀ j : Nat, j < 481 → s112.2 56 j = s103.2 67 j) := h111
            have i113 : Iv s112 := Iv.of i105 (fun q _ => by rw [h111.1]) (by rw [h111.1])
            have k114 : K_X11_ahead s0 s112 := vg_cp_in k106 h111.1 (h111.2.1.trans y109)
            have u115 : vk s112 = ((vk s0).1, (vk s0).2) := vk_cpi h111.1 h111.2.2.2 y108 u107
            have y116 : ∀ j : Nat, j < 481 → s112.2 67 j = s0.2 56 j := by rw [h111.2.2.1 67 (by decide)]; exact y108
            have y117 : s112.2 67 0 = s0.2 56 0 := by rw [h111.2.2.1 67 (by decide)]; exact y109
            have g118 : s112.1 55 15 = w84 := by rw [h111.1]; exact g110
            refine And.intro (Nat.le_of_ble_eq_true rfl) (And.intro ⟨55, w85, rfl, by decide, i113⟩ ?_)
            intro v119 s121 h120
            have h120 : Iv s121 ∧ Kp s112 s121 ∧ vk s121 = ((vk s112).1, (vk s112).2) ∧ (v119 = w85) := h120
            have i122 := h120.1
            have k123 : K_X11_ahead s0 s121 := Kx.tr k114 (((h120.2.1).pt).px)
            have u124 : vk s121 = ((vk s0).1, (vk s0).2) := h120.2.2.1.trans u115
            have q125 := h120.2.2.2
            have y126 : ∀ j : Nat, j < 481 → s121.2 67 j = s0.2 56 j := fun j hj => by rw [h120.2.1.2 67 j rfl]; exact y116 j hj
            have y127 : s121.2 67 0 = s0.2 56 0 := by rw [h120.2.1.2 67 0 rfl]; exact y117
            have g128 : s121.1 55 15 = w84 := by rw [h120.2.1.1 55 15 rfl]; exact g118
            show Iv s121 ∧ K_X11_ahead s0 s121 ∧ vk s121 = ((vk s0).1, (vk s0).2) ∧ ((s121.1 55 15).toInt = (s0.1 55 15).toInt)
            exact ⟨i122, k123, u124, (by first | exact congrArg Int32.toInt (h120.2.1.1 55 15 rfl) | (rw [g128]; omega))⟩
          · have c102 : ¬ (¬ a3.toInt = (Int32.ofInt 1).toInt) := c102
            refine And.intro ⟨by omega, by omega⟩ ?_
            intro v129 e130
            intro s131 e132
            have i133 : Iv s131 := Iv.u1 i97 e132 rfl
            have k134 : K_X11_aheadm s0 s131 := Kx.u1 k98 e132 rfl
            have u135 : vk s131 = ((vk s0).1, (vk s96).2) := vk_k1 u99 e132 rfl
            have y136 : ∀ j : Nat, j < 481 → s131.2 67 j = s0.2 56 j := by rw [e132]; exact y94
            have y137 : s131.2 67 0 = s0.2 56 0 := by rw [e132]; exact y95
            have g138 : s131.1 55 15 = w84 := by rw [e132]; exact vg_u1_self
            refine And.intro (Nat.le_of_ble_eq_true rfl) (And.intro ⟨67, 56, rfl, by decide, by decide, i133, by decide⟩ ?_)
            intro s140 h139
            have h139 : (s140.1 = s131.1 ∧ s140.2 56 0 = s131.2 67 0 ∧ (∀ k, k ≠ 56 → s140.2 k = s131.2 k) ∧ ∀ j : Nat, j < 481 → s140.2 56 j = s131.2 67 j) := h139
            have i141 : Iv s140 := Iv.of i133 (fun q _ => by rw [h139.1]) (by rw [h139.1])
            have k142 : K_X11_ahead s0 s140 := vg_cp_in k134 h139.1 (h139.2.1.trans y137)
            have u143 : vk s140 = ((vk s0).1, (vk s0).2) := vk_cpi h139.1 h139.2.2.2 y136 u135
            have y144 : ∀ j : Nat, j < 481 → s140.2 67 j = s0.2 56 j := by rw [h139.2.2.1 67 (by decide)]; exact y136
            have y145 : s140.2 67 0 = s0.2 56 0 := by rw [h139.2.2.1 67 (by decide)]; exact y137
            have g146 : s140.1 55 15 = w84 := by rw [h139.1]; exact g138
            refine And.intro (Nat.le_of_ble_eq_true rfl) (And.intro ⟨55, v129, rfl, by decide, i141⟩ ?_)
            intro v147 s149 h148
            have h148 : Iv s149 ∧ Kp s140 s149 ∧ vk s149 = ((vk s140).1, (vk s140).2) ∧ (v147 = v129) := h148
            have i150 := h148.1
            have k151 : K_X11_ahead s0 s149 := Kx.tr k142 (((h148.2.1).pt).px)
            have u152 : vk s149 = ((vk s0).1, (vk s0).2) := h148.2.2.1.trans u143
            have q153 := h148.2.2.2
            have y154 : ∀ j : Nat, j < 481 → s149.2 67 j = s0.2 56 j := fun j hj => by rw [h148.2.1.2 67 j rfl]; exact y144 j hj
            have y155 : s149.2 67 0 = s0.2 56 0 := by rw [h148.2.1.2 67 0 rfl]; exact y145
            have g156 : s149.1 55 15 = w84 := by rw [h148.2.1.1 55 15 rfl]; exact g146
            show Iv s149 ∧ K_X11_ahead s0 s149 ∧ vk s149 = ((vk s0).1, (vk s0).2) ∧ ((s149.1 55 15).toInt = (s0.1 55 15).toInt)
            exact ⟨i150, k151, u152, (by first | exact congrArg Int32.toInt (h148.2.1.1 55 15 rfl) | (rw [g156]; omega))⟩
        · have c101 : ¬ (¬ a3.toInt = 0) := c101
          refine And.intro (Nat.le_of_ble_eq_true rfl) (And.intro ⟨55, rfl, by decide, i97⟩ ?_)
          intro v157 s159 h158
          have h158 : s159 = s96 ∧ (True) := h158
          have q162 := h158.1.symm
          subst q162
          intro v163 e164
          intro s165 e166
          have i167 : Iv s165 := Iv.u1 i97 e166 rfl
          have k168 : K_X11_aheadm s0 s165 := Kx.u1 k98 e166 rfl
          have u169 : vk s165 = ((vk s0).1, (vk s96).2) := vk_k1 u99 e166 rfl
          have y170 : ∀ j : Nat, j < 481 → s165.2 67 j = s0.2 56 j := by rw [e166]; exact y94
          have y171 : s165.2 67 0 = s0.2 56 0 := by rw [e166]; exact y95
          have g172 : s165.1 55 15 = w84 := by rw [e166]; exact vg_u1_self
          refine And.intro (Nat.le_of_ble_eq_true rfl) (And.intro ⟨67, 56, rfl, by decide, by decide, i167, by decide⟩ ?_)
          intro s174 h173
          have h173 : (s174.1 = s165.1 ∧ s174.2 56 0 = s165.2 67 0 ∧ (∀ k, k ≠ 56 → s174.2 k = s165.2 k) ∧ ∀ j : Nat, j < 481 → s174.2 56 j = s165.2 67 j) := h173
          have i175 : Iv s174 := Iv.of i167 (fun q _ => by rw [h173.1]) (by rw [h173.1])
          have k176 : K_X11_ahead s0 s174 := vg_cp_in k168 h173.1 (h173.2.1.trans y171)
          have u177 : vk s174 = ((vk s0).1, (vk s0).2) := vk_cpi h173.1 h173.2.2.2 y170 u169
          have y178 : ∀ j : Nat, j < 481 → s174.2 67 j = s0.2 56 j := by rw [h173.2.2.1 67 (by decide)]; exact y170
          have y179 : s174.2 67 0 = s0.2 56 0 := by rw [h173.2.2.1 67 (by decide)]; exact y171
          have g180 : s174.1 55 15 = w84 := by rw [h173.1]; exact g172
          refine And.intro (Nat.le_of_ble_eq_true rfl) (And.intro ⟨55, v163, rfl, by decide, i175⟩ ?_)
          intro v181 s183 h182
          have h182 : Iv s183 ∧ Kp s174 s183 ∧ vk s183 = ((vk s174).1, (vk s174).2) ∧ (v181 = v163) := h182
          have i184 := h182.1
          have k185 : K_X11_ahead s0 s183 := Kx.tr k176 (((h182.2.1).pt).px)
          have u186 : vk s183 = ((vk s0).1, (vk s0).2) := h182.2.2.1.trans u177
          have q187 := h182.2.2.2
          have y188 : ∀ j : Nat, j < 481 → s183.2 67 j = s0.2 56 j := fun j hj => by rw [h182.2.1.2 67 j rfl]; exact y178 j hj
          have y189 : s183.2 67 0 = s0.2 56 0 := by rw [h182.2.1.2 67 0 rfl]; exact y179
          have g190 : s183.1 55 15 = w84 := by rw [h182.2.1.1 55 15 rfl]; exact g180
          show Iv s183 ∧ K_X11_ahead s0 s183 ∧ vk s183 = ((vk s0).1, (vk s0).2) ∧ ((s183.1 55 15).toInt = (s0.1 55 15).toInt)
          exact ⟨i184, k185, u186, (by first | exact congrArg Int32.toInt (h182.2.1.1 55 15 rfl) | (rw [g190]; omega))⟩
      · have c100 : ¬ (a1.toInt ≤ w86.toInt) := c100
        refine And.intro (Nat.le_of_ble_eq_true rfl) (And.intro ⟨55, rfl, by decide, i97, by omega⟩ ?_)
        intro s192 h191
        have h191 : Iv s192 ∧ Kg s96 s192 ∧ vk s192 = ((vk s96).1, vr_step (s96.1 55 17) (s96.1 55 20).toInt (vk s96).2) ∧ ((s192.2 56 0).toInt = (s96.2 56 0).toInt + 1) := h191
        have i193 := h191.1
        have k194 : K_X11_aheadm s0 s192 := Kx.tr k98 (((h191.2.1).qn).px)
        have u195 : vk s192 = ((vk s0).1, (vr_step (s96.1 55 17) (s96.1 55 20).toInt (vk s96).2)) := (by rw [h191.2.2.1, u99])
        have q196 := h191.2.2.2
        have y197 : ∀ j : Nat, j < 481 → s192.2 67 j = s0.2 56 j := fun j hj => by rw [h191.2.1.2 67 j rfl]; exact y94 j hj
        have y198 : s192.2 67 0 = s0.2 56 0 := by rw [h191.2.1.2 67 0 rfl]; exact y95
        refine And.intro ⟨by omega, by omega⟩ ?_
        intro v199 e200
        refine And.intro (Nat.le_of_ble_eq_true rfl) (And.intro ⟨v199, rfl, trivial⟩ ?_)
        intro v201 s203 h202
        have h202 : s203 = s192 ∧ (True) := h202
        have q206 := h202.1.symm
        subst q206
        refine And.intro (Nat.le_of_ble_eq_true rfl) (And.intro ⟨w85, v201, rfl, trivial⟩ ?_)
        intro v207 s209 h208
        have h208 : s209 = s192 ∧ (True) := h208
        have q212 := h208.1.symm
        subst q212
        intro v213 e214
        have b215 := vg_add e214 (by omega) (by omega)
        exact ⟨rfl, ⟨w84, v207, v213, rfl, (by omega), (by omega), (by omega), (by omega), (by omega), (by omega), (by omega), y197, y198, i193, k194, vk_h2 u195⟩, (by show (0 + (200 - v213.toInt) * 1000000000000).toNat < (0 + (200 - w86.toInt) * 1000000000000).toNat; omega)⟩
def o_X11_strained : List vg_I := [(0, .aload_n 0, 1, 0, 0, 0, 0), (1, .getfield 30, 3, 1072, 11, 11, 0), (4, .istore_n 3, 1, 0, 0, 0, 0), (5, .aload_n 0, 1, 0, 0, 0, 0), (6, .getfield 7, 3, 1061, 11, 0, 0), (9, .aload_n 0, 1, 0, 0, 0, 0), (10, .getfield 70, 3, 1095, 11, 34, 0), (13, .invokestatic 283, 3, 0, 1, 2, 1474), (16, .aload_n 0, 1, 0, 0, 0, 0), (17, .iload_n 2, 1, 0, 0, 0, 0), (18, .putfield 30, 3, 1072, 11, 11, 0), (21, .aload_n 0, 1, 0, 0, 0, 0), (22, .getfield 7, 3, 1061, 11, 0, 0), (25, .iconst 4, 1, 0, 0, 0, 0), (26, .laload, 1, 0, 0, 0, 0), (27, .lstore 4, 2, 0, 0, 0, 0), (29, .iconst 0, 1, 0, 0, 0, 0), (30, .istore 6, 2, 0, 0, 0, 0), (32, .iload 6, 2, 0, 0, 0, 0), (34, .iload_n 1, 1, 0, 0, 0, 0), (35, .if_icmp .ge 13, 3, 0, 0, 0, 0), (38, .aload_n 0, 1, 0, 0, 0, 0), (39, .invokevirtual 264, 3, 1, 11, 0, 1272), (42, .iinc 6 1, 3, 0, 0, 0, 0), (45, .goto (-13), 3, 0, 0, 0, 0), (48, .aload_n 0, 1, 0, 0, 0, 0), (49, .getfield 7, 3, 1061, 11, 0, 0), (52, .iconst 4, 1, 0, 0, 0, 0), (53, .laload, 1, 0, 0, 0, 0), (54, .lload 4, 2, 0, 0, 0, 0), (56, .lsub, 1, 0, 0, 0, 0), (57, .l2i, 1, 0, 0, 0, 0), (58, .istore 6, 2, 0, 0, 0, 0), (60, .aload_n 0, 1, 0, 0, 0, 0), (61, .iload_n 3, 1, 0, 0, 0, 0), (62, .putfield 30, 3, 1072, 11, 11, 0), (65, .aload_n 0, 1, 0, 0, 0, 0), (66, .getfield 70, 3, 1095, 11, 34, 0), (69, .aload_n 0, 1, 0, 0, 0, 0), (70, .getfield 7, 3, 1061, 11, 0, 0), (73, .invokestatic 283, 3, 0, 1, 2, 1474), (76, .iload 6, 2, 0, 0, 0, 0), (78, .ireturn, 1, 0, 0, 0, 0)]
set_option maxRecDepth 100000 in
set_option maxHeartbeats 4000000 in
theorem c_X11_strained (l : Launch) (G : vg_G) (hp : vg_Hp G) : vg_Ct l G vg_sh r_X11_strained := by
  refine vg_meth hp vg_sh_ok r_X11_strained k_X11_strained rfl (fun h => by cases h) o_X11_strained [r_X11_copies, r_X11_goes] false (by decide +kernel) (by decide +kernel) ⟨_, _, rfl, rfl⟩ (List.forall_mem_cons.mpr ⟨⟨c_X11_copies l G hp, Nat.le_of_ble_eq_true rfl, Nat.le_of_ble_eq_true rfl⟩, List.forall_mem_cons.mpr ⟨⟨c_X11_goes l G hp, Nat.le_of_ble_eq_true rfl, Nat.le_of_ble_eq_true rfl⟩, fun _ h => absurd h List.not_mem_nil⟩⟩) (fun h => by cases h) 600 ?_
  intro as s0 hpre
  obtain ⟨r, a1, a2, rfl, hr, i0, p0⟩ := hpre
  simp only [List.mem_cons, List.not_mem_nil, or_false] at hr
  rcases hr with rfl
  ·
    have z0 : (Int32.ofInt 0).toInt = 0 := by decide
    have z1 : (Int32.ofInt 1).toInt = 1 := by decide
    have z4 : (Int32.ofInt 4).toInt = 4 := by decide
    refine ⟨Nat.le_of_ble_eq_true rfl, [(32, [true, true, false, true, true, false, true], (fun L t => ∃ (x3 : Int32) (x4 : Int64) (x6 : Int32), L = [some (.ref 55), some (.int a1), none, some (.int x3), some (.long x4), none, some (.int x6)] ∧ (0 : Int) ≤ x6.toInt ∧ x6.toInt ≤ (400 : Int) ∧ ((t.2 56 0).toInt = (s0.2 56 0).toInt + x6.toInt) ∧ (∀ j : Nat, j < 481 → t.2 67 j = s0.2 56 j) ∧ (t.2 67 0 = s0.2 56 0) ∧ Iv t ∧ Kn s0 t ∧ vk t = ((vk s0).1, (vk t).2)), (fun L _ => (0 + (400 - (vg_li L 6).toInt) * 1000000000000).toNat))], ?_, List.forall_mem_cons.mpr ⟨?_, fun _ h => absurd h List.not_mem_nil⟩⟩
    ·
      intro v1 e2
      have g3 : s0.1 55 11 = v1 := by rw [e2]
      refine And.intro (Nat.le_of_ble_eq_true rfl) (And.intro ⟨56, 67, rfl, by decide, by decide, i0, by decide⟩ ?_)
      intro s5 h4
      have h4 : (s5.1 = s0.1 ∧ s5.2 67 0 = s0.2 56 0 ∧ (∀ k, k ≠ 67 → s5.2 k = s0.2 k) ∧ ∀ j : Nat, j < 481 → s5.2 67 j = s0.2 56 j) := h4
      have i6 : Iv s5 := Iv.of i0 (fun q _ => by rw [h4.1]) (by rw [h4.1])
      have k7 : Kt s0 s5 := by first | exact vg_cp_out1 Kx.rf h4.1 h4.2.2.1 (by decide) | exact vg_cp_outn Kx.rf h4.1
      have u8 : vk s5 = ((vk s0).1, (vk s0).2) := vk_cpo h4.1 (h4.2.2.1 56 (by decide)) rfl
      have y9 : ∀ j : Nat, j < 481 → s5.2 67 j = s0.2 56 j := h4.2.2.2
      have y10 : s5.2 67 0 = s0.2 56 0 := h4.2.1
      have y11 : (s5.2 56 0).toInt = (s0.2 56 0).toInt := by rw [h4.2.2.1 56 (by decide)]
      intro s12 e13
      have i14 : Iv s12 := Iv.u1 i6 e13 rfl
      have k15 : Kt s0 s12 := Kx.u1 k7 e13 rfl
      have u16 : vk s12 = ((vk s0).1, (vk s0).2) := vk_k1 u8 e13 rfl
      have y17 : ∀ j : Nat, j < 481 → s12.2 67 j = s0.2 56 j := by rw [e13]; exact y9
      have y18 : s12.2 67 0 = s0.2 56 0 := by rw [e13]; exact y10
      have y19 : (s12.2 56 0).toInt = (s0.2 56 0).toInt := by rw [e13]; exact y11
      refine And.intro ⟨by omega, by omega⟩ ?_
      intro v20 e21
      exact ⟨rfl, ⟨v1, v20, (Int32.ofInt 0), rfl, (by omega), (by omega), (by omega), y17, y18, i14, ((k15).qn), vk_h2 u16⟩, trivial⟩
    ·
      intro L s30 hL
      obtain ⟨w22, w23, w24, rfl, b25, b26, x27, y28, y29, i31, k32, u33⟩ := hL
      refine And.intro (fun c34 => ?_) (fun c34 => ?_)
      · have c34 : a1.toInt ≤ w24.toInt := c34
        refine And.intro ⟨by omega, by omega⟩ ?_
        intro v35 e36
        intro v37 e38
        intro v39 e40
        intro s41 e42
        have i43 : Iv s41 := Iv.u1 i31 e42 rfl
        have k44 : Kn s0 s41 := Kx.u1 k32 e42 rfl
        have u45 : vk s41 = ((vk s0).1, (vk s30).2) := vk_k1 u33 e42 rfl
        have y46 : ∀ j : Nat, j < 481 → s41.2 67 j = s0.2 56 j := by rw [e42]; exact y28
        have y47 : s41.2 67 0 = s0.2 56 0 := by rw [e42]; exact y29
        refine And.intro (Nat.le_of_ble_eq_true rfl) (And.intro ⟨67, 56, rfl, by decide, by decide, i43, by decide⟩ ?_)
        intro s49 h48
        have h48 : (s49.1 = s41.1 ∧ s49.2 56 0 = s41.2 67 0 ∧ (∀ k, k ≠ 56 → s49.2 k = s41.2 k) ∧ ∀ j : Nat, j < 481 → s49.2 56 j = s41.2 67 j) := h48
        have i50 : Iv s49 := Iv.of i43 (fun q _ => by rw [h48.1]) (by rw [h48.1])
        have k51 : Kt s0 s49 := vg_cp_in k44 h48.1 (h48.2.1.trans y47)
        have u52 : vk s49 = ((vk s0).1, (vk s0).2) := vk_cpi h48.1 h48.2.2.2 y46 u45
        have y53 : ∀ j : Nat, j < 481 → s49.2 67 j = s0.2 56 j := by rw [h48.2.2.1 67 (by decide)]; exact y46
        have y54 : s49.2 67 0 = s0.2 56 0 := by rw [h48.2.2.1 67 (by decide)]; exact y47
        show Iv s49 ∧ Kt s0 s49 ∧ vk s49 = ((vk s0).1, (vk s0).2) ∧ (True)
        exact ⟨i50, k51, u52, (trivial)⟩
      · have c34 : ¬ (a1.toInt ≤ w24.toInt) := c34
        refine And.intro (Nat.le_of_ble_eq_true rfl) (And.intro ⟨55, rfl, by decide, i31, by omega⟩ ?_)
        intro s56 h55
        have h55 : Iv s56 ∧ Kg s30 s56 ∧ vk s56 = ((vk s30).1, vr_step (s30.1 55 17) (s30.1 55 20).toInt (vk s30).2) ∧ ((s56.2 56 0).toInt = (s30.2 56 0).toInt + 1) := h55
        have i57 := h55.1
        have k58 : Kn s0 s56 := Kx.tr k32 (((h55.2.1).qn).pk)
        have u59 : vk s56 = ((vk s0).1, (vr_step (s30.1 55 17) (s30.1 55 20).toInt (vk s30).2)) := (by rw [h55.2.2.1, u33])
        have q60 := h55.2.2.2
        have y61 : ∀ j : Nat, j < 481 → s56.2 67 j = s0.2 56 j := fun j hj => by rw [h55.2.1.2 67 j rfl]; exact y28 j hj
        have y62 : s56.2 67 0 = s0.2 56 0 := by rw [h55.2.1.2 67 0 rfl]; exact y29
        intro v63 e64
        have b65 := vg_add e64 (by omega) (by omega)
        exact ⟨rfl, ⟨w22, w23, v63, rfl, (by omega), (by omega), (by omega), y61, y62, i57, k58, vk_h2 u59⟩, (by show (0 + (400 - v63.toInt) * 1000000000000).toNat < (0 + (400 - w24.toInt) * 1000000000000).toNat; omega)⟩
def o_X11_strain : List vg_I := [(0, .iload_n 1, 1, 0, 0, 0, 0), (1, .iconst 1, 1, 0, 0, 0, 0), (2, .sipush 200, 3, 0, 0, 0, 0), (5, .invokestatic 76, 3, 0, 1, 3, 1175), (8, .ifCond .eq 13, 3, 0, 0, 0, 0), (11, .iload_n 2, 1, 0, 0, 0, 0), (12, .iconst 1, 1, 0, 0, 0, 0), (13, .ldc 29, 2, 1060, 0, 0, 60000), (15, .invokestatic 76, 3, 0, 1, 3, 1175), (18, .ifCond .ne 9, 3, 0, 0, 0, 0), (21, .aload_n 0, 1, 0, 0, 0, 0), (22, .iconst 1, 1, 0, 0, 0, 0), (23, .invokevirtual 242, 3, 1, 11, 1, 1181), (26, .ireturn, 1, 0, 0, 0, 0), (27, .aload_n 0, 1, 0, 0, 0, 0), (28, .aload_n 0, 1, 0, 0, 0, 0), (29, .iload_n 1, 1, 0, 0, 0, 0), (30, .iload_n 2, 1, 0, 0, 0, 0), (31, .invokevirtual 313, 3, 2, 11, 2, 1517), (34, .invokevirtual 249, 3, 3, 11, 1, 1206), (37, .ireturn, 1, 0, 0, 0, 0)]
set_option maxRecDepth 100000 in
set_option maxHeartbeats 4000000 in
theorem c_X11_strain (l : Launch) (G : vg_G) (hp : vg_Hp G) : vg_Ct l G vg_sh r_X11_strain := by
  refine vg_meth hp vg_sh_ok r_X11_strain k_X11_strain rfl (fun h => by cases h) o_X11_strain [r_X11_isFrom, r_X11_refuse, r_X11_strained, r_X11_gives] false (by decide +kernel) (by decide +kernel) ⟨_, _, rfl, rfl⟩ (List.forall_mem_cons.mpr ⟨⟨c_X11_isFrom l G hp, Nat.le_of_ble_eq_true rfl, Nat.le_of_ble_eq_true rfl⟩, List.forall_mem_cons.mpr ⟨⟨c_X11_refuse l G hp, Nat.le_of_ble_eq_true rfl, Nat.le_of_ble_eq_true rfl⟩, List.forall_mem_cons.mpr ⟨⟨c_X11_strained l G hp, Nat.le_of_ble_eq_true rfl, Nat.le_of_ble_eq_true rfl⟩, List.forall_mem_cons.mpr ⟨⟨c_X11_gives l G hp, Nat.le_of_ble_eq_true rfl, Nat.le_of_ble_eq_true rfl⟩, fun _ h => absurd h List.not_mem_nil⟩⟩⟩⟩) (fun h => by cases h) 600 ?_
  intro as s0 hpre
  obtain ⟨r, a1, a2, rfl, hr, i0, p0⟩ := hpre
  simp only [List.mem_cons, List.not_mem_nil, or_false] at hr
  rcases hr with rfl
  ·
    have z1 : (Int32.ofInt 1).toInt = 1 := by decide
    have z200 : (Int32.ofInt 200).toInt = 200 := by decide
    have z60000 : (Int32.ofInt 60000).toInt = 60000 := by decide
    refine ⟨Nat.le_of_ble_eq_true rfl, [], ?_, fun _ h => absurd h List.not_mem_nil⟩
    ·
      refine And.intro (Nat.le_of_ble_eq_true rfl) (And.intro ⟨a1, (Int32.ofInt 1), (Int32.ofInt 200), rfl, trivial⟩ ?_)
      intro v1 s3 h2
      have h2 : s3 = s0 ∧ ((v1.toInt = 1 ∧ (Int32.ofInt 1).toInt ≤ a1.toInt ∧ a1.toInt ≤ (Int32.ofInt 200).toInt) ∨ (v1.toInt = 0 ∧ (a1.toInt < (Int32.ofInt 1).toInt ∨ (Int32.ofInt 200).toInt < a1.toInt))) := h2
      have q6 := h2.1.symm
      subst q6
      have q7 := h2.2
      refine And.intro (fun c8 => ?_) (fun c8 => ?_)
      · have c8 : v1.toInt = 0 := c8
        refine And.intro (Nat.le_of_ble_eq_true rfl) (And.intro ⟨55, (Int32.ofInt 1), rfl, by decide, i0⟩ ?_)
        intro v9 s11 h10
        have h10 : Iv s11 ∧ Kp s0 s11 ∧ vk s11 = ((vk s0).1, (vk s0).2) ∧ (v9.toInt = -1) := h10
        have i12 := h10.1
        have k13 : Kt s0 s11 := Kx.tr Kx.rf (((h10.2.1).pt).pk)
        have u14 : vk s11 = ((vk s0).1, (vk s0).2) := h10.2.2.1.trans rfl
        have q15 := h10.2.2.2
        show Iv s11 ∧ Kt s0 s11 ∧ vk s11 = ((vk s0).1, (vk s0).2) ∧ (True)
        exact ⟨i12, k13, u14, (trivial)⟩
      · have c8 : ¬ (v1.toInt = 0) := c8
        refine And.intro (Nat.le_of_ble_eq_true rfl) (And.intro ⟨a2, (Int32.ofInt 1), (Int32.ofInt 60000), rfl, trivial⟩ ?_)
        intro v16 s18 h17
        have h17 : s18 = s0 ∧ ((v16.toInt = 1 ∧ (Int32.ofInt 1).toInt ≤ a2.toInt ∧ a2.toInt ≤ (Int32.ofInt 60000).toInt) ∨ (v16.toInt = 0 ∧ (a2.toInt < (Int32.ofInt 1).toInt ∨ (Int32.ofInt 60000).toInt < a2.toInt))) := h17
        have q21 := h17.1.symm
        subst q21
        have q22 := h17.2
        refine And.intro (fun c23 => ?_) (fun c23 => ?_)
        · have c23 : ¬ v16.toInt = 0 := c23
          refine And.intro (Nat.le_of_ble_eq_true rfl) (And.intro ⟨55, a1, a2, rfl, by decide, i0, by omega⟩ ?_)
          intro v24 s26 h25
          have h25 : Iv s26 ∧ Kt s0 s26 ∧ vk s26 = ((vk s0).1, (vk s0).2) ∧ (True) := h25
          have i27 := h25.1
          have k28 : Kt s0 s26 := Kx.tr Kx.rf (h25.2.1)
          have u29 : vk s26 = ((vk s0).1, (vk s0).2) := h25.2.2.1.trans rfl
          refine And.intro (Nat.le_of_ble_eq_true rfl) (And.intro ⟨55, v24, rfl, by decide, i27⟩ ?_)
          intro v30 s32 h31
          have h31 : Iv s32 ∧ Kp s26 s32 ∧ vk s32 = ((vk s26).1, (vk s26).2) ∧ (v30 = v24 ∧ v30.toInt = v24.toInt) := h31
          have i33 := h31.1
          have k34 : Kt s0 s32 := Kx.tr k28 (((h31.2.1).pt).pk)
          have u35 : vk s32 = ((vk s0).1, (vk s0).2) := h31.2.2.1.trans u29
          have q36 := h31.2.2.2
          show Iv s32 ∧ Kt s0 s32 ∧ vk s32 = ((vk s0).1, (vk s0).2) ∧ (True)
          exact ⟨i33, k34, u35, (trivial)⟩
        · have c23 : ¬ (¬ v16.toInt = 0) := c23
          refine And.intro (Nat.le_of_ble_eq_true rfl) (And.intro ⟨55, (Int32.ofInt 1), rfl, by decide, i0⟩ ?_)
          intro v37 s39 h38
          have h38 : Iv s39 ∧ Kp s0 s39 ∧ vk s39 = ((vk s0).1, (vk s0).2) ∧ (v37.toInt = -1) := h38
          have i40 := h38.1
          have k41 : Kt s0 s39 := Kx.tr Kx.rf (((h38.2.1).pt).pk)
          have u42 : vk s39 = ((vk s0).1, (vk s0).2) := h38.2.2.1.trans rfl
          have q43 := h38.2.2.2
          show Iv s39 ∧ Kt s0 s39 ∧ vk s39 = ((vk s0).1, (vk s0).2) ∧ (True)
          exact ⟨i40, k41, u42, (trivial)⟩
def o_X11_calmed : List vg_I := [(0, .iload_n 1, 1, 0, 0, 0, 0), (1, .iconst 1, 1, 0, 0, 0, 0), (2, .bipush 60, 2, 0, 0, 0, 0), (4, .invokestatic 76, 3, 0, 1, 3, 1175), (7, .ifCond .eq 14, 3, 0, 0, 0, 0), (10, .iload_n 2, 1, 0, 0, 0, 0), (11, .iconst 1, 1, 0, 0, 0, 0), (12, .sipush 400, 3, 0, 0, 0, 0), (15, .invokestatic 76, 3, 0, 1, 3, 1175), (18, .ifCond .ne 9, 3, 0, 0, 0, 0), (21, .aload_n 0, 1, 0, 0, 0, 0), (22, .iconst 1, 1, 0, 0, 0, 0), (23, .invokevirtual 242, 3, 1, 11, 1, 1181), (26, .ireturn, 1, 0, 0, 0, 0), (27, .iconst 1, 1, 0, 0, 0, 0), (28, .istore_n 3, 1, 0, 0, 0, 0), (29, .iload_n 3, 1, 0, 0, 0, 0), (30, .iload_n 2, 1, 0, 0, 0, 0), (31, .if_icmp .gt 24, 3, 0, 0, 0, 0), (34, .aload_n 0, 1, 0, 0, 0, 0), (35, .iload_n 1, 1, 0, 0, 0, 0), (36, .iload_n 3, 1, 0, 0, 0, 0), (37, .invokevirtual 313, 3, 2, 11, 2, 1517), (40, .ifCond .ne 9, 3, 0, 0, 0, 0), (43, .aload_n 0, 1, 0, 0, 0, 0), (44, .iload_n 3, 1, 0, 0, 0, 0), (45, .invokevirtual 249, 3, 3, 11, 1, 1206), (48, .ireturn, 1, 0, 0, 0, 0), (49, .iinc 3 1, 3, 0, 0, 0, 0), (52, .goto (-23), 3, 0, 0, 0, 0), (55, .aload_n 0, 1, 0, 0, 0, 0), (56, .iconst 5, 1, 0, 0, 0, 0), (57, .invokevirtual 242, 3, 1, 11, 1, 1181), (60, .ireturn, 1, 0, 0, 0, 0)]
set_option maxRecDepth 100000 in
set_option maxHeartbeats 4000000 in
theorem c_X11_calmed (l : Launch) (G : vg_G) (hp : vg_Hp G) : vg_Ct l G vg_sh r_X11_calmed := by
  refine vg_meth hp vg_sh_ok r_X11_calmed k_X11_calmed rfl (fun h => by cases h) o_X11_calmed [r_X11_isFrom, r_X11_refuse, r_X11_strained, r_X11_gives] false (by decide +kernel) (by decide +kernel) ⟨_, _, rfl, rfl⟩ (List.forall_mem_cons.mpr ⟨⟨c_X11_isFrom l G hp, Nat.le_of_ble_eq_true rfl, Nat.le_of_ble_eq_true rfl⟩, List.forall_mem_cons.mpr ⟨⟨c_X11_refuse l G hp, Nat.le_of_ble_eq_true rfl, Nat.le_of_ble_eq_true rfl⟩, List.forall_mem_cons.mpr ⟨⟨c_X11_strained l G hp, Nat.le_of_ble_eq_true rfl, Nat.le_of_ble_eq_true rfl⟩, List.forall_mem_cons.mpr ⟨⟨c_X11_gives l G hp, Nat.le_of_ble_eq_true rfl, Nat.le_of_ble_eq_true rfl⟩, fun _ h => absurd h List.not_mem_nil⟩⟩⟩⟩) (fun h => by cases h) 600 ?_
  intro as s0 hpre
  obtain ⟨r, a1, a2, rfl, hr, i0, p0⟩ := hpre
  simp only [List.mem_cons, List.not_mem_nil, or_false] at hr
  rcases hr with rfl
  ·
    have z1 : (Int32.ofInt 1).toInt = 1 := by decide
    have z5 : (Int32.ofInt 5).toInt = 5 := by decide
    have z60 : (Int32.ofInt 60).toInt = 60 := by decide
    have z400 : (Int32.ofInt 400).toInt = 400 := by decide
    refine ⟨Nat.le_of_ble_eq_true rfl, [(29, [true, true, true, true], (fun L t => ∃ (x3 : Int32), L = [some (.ref 55), some (.int a1), some (.int a2), some (.int x3)] ∧ (1 : Int) ≤ x3.toInt ∧ x3.toInt ≤ (401 : Int) ∧ (1 : Int) ≤ a1.toInt ∧ a1.toInt ≤ (60 : Int) ∧ (1 : Int) ≤ a2.toInt ∧ a2.toInt ≤ (400 : Int) ∧ Iv t ∧ Kt s0 t ∧ vk t = ((vk s0).1, (vk s0).2)), (fun L _ => (0 + (401 - (vg_li L 3).toInt) * 1000000000000).toNat))], ?_, List.forall_mem_cons.mpr ⟨?_, fun _ h => absurd h List.not_mem_nil⟩⟩
    ·
      refine And.intro (Nat.le_of_ble_eq_true rfl) (And.intro ⟨a1, (Int32.ofInt 1), (Int32.ofInt 60), rfl, trivial⟩ ?_)
      intro v1 s3 h2
      have h2 : s3 = s0 ∧ ((v1.toInt = 1 ∧ (Int32.ofInt 1).toInt ≤ a1.toInt ∧ a1.toInt ≤ (Int32.ofInt 60).toInt) ∨ (v1.toInt = 0 ∧ (a1.toInt < (Int32.ofInt 1).toInt ∨ (Int32.ofInt 60).toInt < a1.toInt))) := h2
      have q6 := h2.1.symm
      subst q6
      have q7 := h2.2
      refine And.intro (fun c8 => ?_) (fun c8 => ?_)
      · have c8 : v1.toInt = 0 := c8
        refine And.intro (Nat.le_of_ble_eq_true rfl) (And.intro ⟨55, (Int32.ofInt 1), rfl, by decide, i0⟩ ?_)
        intro v9 s11 h10
        have h10 : Iv s11 ∧ Kp s0 s11 ∧ vk s11 = ((vk s0).1, (vk s0).2) ∧ (v9.toInt = -1) := h10
        have i12 := h10.1
        have k13 : Kt s0 s11 := Kx.tr Kx.rf (((h10.2.1).pt).pk)
        have u14 : vk s11 = ((vk s0).1, (vk s0).2) := h10.2.2.1.trans rfl
        have q15 := h10.2.2.2
        show Iv s11 ∧ Kt s0 s11 ∧ vk s11 = ((vk s0).1, (vk s0).2) ∧ (True)
        exact ⟨i12, k13, u14, (trivial)⟩
      · have c8 : ¬ (v1.toInt = 0) := c8
        refine And.intro (Nat.le_of_ble_eq_true rfl) (And.intro ⟨a2, (Int32.ofInt 1), (Int32.ofInt 400), rfl, trivial⟩ ?_)
        intro v16 s18 h17
        have h17 : s18 = s0 ∧ ((v16.toInt = 1 ∧ (Int32.ofInt 1).toInt ≤ a2.toInt ∧ a2.toInt ≤ (Int32.ofInt 400).toInt) ∨ (v16.toInt = 0 ∧ (a2.toInt < (Int32.ofInt 1).toInt ∨ (Int32.ofInt 400).toInt < a2.toInt))) := h17
        have q21 := h17.1.symm
        subst q21
        have q22 := h17.2
        refine And.intro (fun c23 => ?_) (fun c23 => ?_)
        · have c23 : ¬ v16.toInt = 0 := c23
          exact ⟨rfl, ⟨(Int32.ofInt 1), rfl, (by omega), (by omega), (by omega), (by omega), (by omega), (by omega), i0, Kx.rf, rfl⟩, trivial⟩
        · have c23 : ¬ (¬ v16.toInt = 0) := c23
          refine And.intro (Nat.le_of_ble_eq_true rfl) (And.intro ⟨55, (Int32.ofInt 1), rfl, by decide, i0⟩ ?_)
          intro v24 s26 h25
          have h25 : Iv s26 ∧ Kp s0 s26 ∧ vk s26 = ((vk s0).1, (vk s0).2) ∧ (v24.toInt = -1) := h25
          have i27 := h25.1
          have k28 : Kt s0 s26 := Kx.tr Kx.rf (((h25.2.1).pt).pk)
          have u29 : vk s26 = ((vk s0).1, (vk s0).2) := h25.2.2.1.trans rfl
          have q30 := h25.2.2.2
          show Iv s26 ∧ Kt s0 s26 ∧ vk s26 = ((vk s0).1, (vk s0).2) ∧ (True)
          exact ⟨i27, k28, u29, (trivial)⟩
    ·
      intro L s38 hL
      obtain ⟨w31, rfl, b32, b33, b34, b35, b36, b37, i39, k40, u41⟩ := hL
      refine And.intro (fun c42 => ?_) (fun c42 => ?_)
      · have c42 : a2.toInt < w31.toInt := c42
        refine And.intro (Nat.le_of_ble_eq_true rfl) (And.intro ⟨55, (Int32.ofInt 5), rfl, by decide, i39⟩ ?_)
        intro v43 s45 h44
        have h44 : Iv s45 ∧ Kp s38 s45 ∧ vk s45 = ((vk s38).1, (vk s38).2) ∧ (v43.toInt = -1) := h44
        have i46 := h44.1
        have k47 : Kt s0 s45 := Kx.tr k40 (((h44.2.1).pt).pk)
        have u48 : vk s45 = ((vk s0).1, (vk s0).2) := h44.2.2.1.trans u41
        have q49 := h44.2.2.2
        show Iv s45 ∧ Kt s0 s45 ∧ vk s45 = ((vk s0).1, (vk s0).2) ∧ (True)
        exact ⟨i46, k47, u48, (trivial)⟩
      · have c42 : ¬ (a2.toInt < w31.toInt) := c42
        refine And.intro (Nat.le_of_ble_eq_true rfl) (And.intro ⟨55, a1, w31, rfl, by decide, i39, by have h9 := congrArg Int64.toInt (k40.2 56 0 rfl); omega⟩ ?_)
        intro v50 s52 h51
        have h51 : Iv s52 ∧ Kt s38 s52 ∧ vk s52 = ((vk s38).1, (vk s38).2) ∧ (True) := h51
        have i53 := h51.1
        have k54 : Kt s0 s52 := Kx.tr k40 (h51.2.1)
        have u55 : vk s52 = ((vk s0).1, (vk s0).2) := h51.2.2.1.trans u41
        refine And.intro (fun c56 => ?_) (fun c56 => ?_)
        · have c56 : ¬ v50.toInt = 0 := c56
          intro v57 e58
          have b59 := vg_add e58 (by omega) (by omega)
          exact ⟨rfl, ⟨v57, rfl, (by omega), (by omega), (by omega), (by omega), (by omega), (by omega), i53, k54, u55⟩, (by show (0 + (401 - v57.toInt) * 1000000000000).toNat < (0 + (401 - w31.toInt) * 1000000000000).toNat; omega)⟩
        · have c56 : ¬ (¬ v50.toInt = 0) := c56
          refine And.intro (Nat.le_of_ble_eq_true rfl) (And.intro ⟨55, w31, rfl, by decide, i53⟩ ?_)
          intro v60 s62 h61
          have h61 : Iv s62 ∧ Kp s52 s62 ∧ vk s62 = ((vk s52).1, (vk s52).2) ∧ (v60 = w31 ∧ v60.toInt = w31.toInt) := h61
          have i63 := h61.1
          have k64 : Kt s0 s62 := Kx.tr k54 (((h61.2.1).pt).pk)
          have u65 : vk s62 = ((vk s0).1, (vk s0).2) := h61.2.2.1.trans u55
          have q66 := h61.2.2.2
          show Iv s62 ∧ Kt s0 s62 ∧ vk s62 = ((vk s0).1, (vk s0).2) ∧ (True)
          exact ⟨i63, k64, u65, (trivial)⟩
def o_X11_need : List vg_I := [(0, .iload_n 1, 1, 0, 0, 0, 0), (1, .iconst 0, 1, 0, 0, 0, 0), (2, .ldc_w 279, 3, 1441, 0, 0, 100000), (5, .invokestatic 76, 3, 0, 1, 3, 1175), (8, .ifCond .ne 9, 3, 0, 0, 0, 0), (11, .aload_n 0, 1, 0, 0, 0, 0), (12, .iconst 1, 1, 0, 0, 0, 0), (13, .invokevirtual 242, 3, 1, 11, 1, 1181), (16, .ireturn, 1, 0, 0, 0, 0), (17, .aload_n 0, 1, 0, 0, 0, 0), (18, .iload_n 1, 1, 0, 0, 0, 0), (19, .invokevirtual 255, 3, 2, 11, 1, 1246), (22, .istore_n 2, 1, 0, 0, 0, 0), (23, .iload_n 2, 1, 0, 0, 0, 0), (24, .iconst (-1), 1, 0, 0, 0, 0), (25, .if_icmp .ne 11, 3, 0, 0, 0, 0), (28, .aload_n 0, 1, 0, 0, 0, 0), (29, .iconst 5, 1, 0, 0, 0, 0), (30, .invokevirtual 242, 3, 1, 11, 1, 1181), (33, .goto 8, 3, 0, 0, 0, 0), (36, .aload_n 0, 1, 0, 0, 0, 0), (37, .iload_n 2, 1, 0, 0, 0, 0), (38, .invokevirtual 249, 3, 3, 11, 1, 1206), (41, .ireturn, 1, 0, 0, 0, 0)]
set_option maxRecDepth 100000 in
set_option maxHeartbeats 4000000 in
theorem c_X11_need (l : Launch) (G : vg_G) (hp : vg_Hp G) : vg_Ct l G vg_sh r_X11_need := by
  refine vg_meth hp vg_sh_ok r_X11_need k_X11_need rfl (fun h => by cases h) o_X11_need [r_X11_isFrom, r_X11_refuse, r_X11_needFor, r_X11_gives] false (by decide +kernel) (by decide +kernel) ⟨_, _, rfl, rfl⟩ (List.forall_mem_cons.mpr ⟨⟨c_X11_isFrom l G hp, Nat.le_of_ble_eq_true rfl, Nat.le_of_ble_eq_true rfl⟩, List.forall_mem_cons.mpr ⟨⟨c_X11_refuse l G hp, Nat.le_of_ble_eq_true rfl, Nat.le_of_ble_eq_true rfl⟩, List.forall_mem_cons.mpr ⟨⟨c_X11_needFor l G hp, Nat.le_of_ble_eq_true rfl, Nat.le_of_ble_eq_true rfl⟩, List.forall_mem_cons.mpr ⟨⟨c_X11_gives l G hp, Nat.le_of_ble_eq_true rfl, Nat.le_of_ble_eq_true rfl⟩, fun _ h => absurd h List.not_mem_nil⟩⟩⟩⟩) (fun h => by cases h) 600 ?_
  intro as s0 hpre
  obtain ⟨r, a1, rfl, hr, i0⟩ := hpre
  simp only [List.mem_cons, List.not_mem_nil, or_false] at hr
  rcases hr with rfl
  ·
    have zm1 : (Int32.ofInt (-1)).toInt = -1 := by decide
    have z0 : (Int32.ofInt 0).toInt = 0 := by decide
    have z1 : (Int32.ofInt 1).toInt = 1 := by decide
    have z5 : (Int32.ofInt 5).toInt = 5 := by decide
    have z100000 : (Int32.ofInt 100000).toInt = 100000 := by decide
    refine ⟨Nat.le_of_ble_eq_true rfl, [], ?_, fun _ h => absurd h List.not_mem_nil⟩
    ·
      refine And.intro (Nat.le_of_ble_eq_true rfl) (And.intro ⟨a1, (Int32.ofInt 0), (Int32.ofInt 100000), rfl, trivial⟩ ?_)
      intro v1 s3 h2
      have h2 : s3 = s0 ∧ ((v1.toInt = 1 ∧ (Int32.ofInt 0).toInt ≤ a1.toInt ∧ a1.toInt ≤ (Int32.ofInt 100000).toInt) ∨ (v1.toInt = 0 ∧ (a1.toInt < (Int32.ofInt 0).toInt ∨ (Int32.ofInt 100000).toInt < a1.toInt))) := h2
      have q6 := h2.1.symm
      subst q6
      have q7 := h2.2
      refine And.intro (fun c8 => ?_) (fun c8 => ?_)
      · have c8 : ¬ v1.toInt = 0 := c8
        refine And.intro (Nat.le_of_ble_eq_true rfl) (And.intro ⟨55, a1, rfl, by decide, i0⟩ ?_)
        intro v9 s11 h10
        have h10 : s11 = s0 ∧ (vg_isneed (vg_mp (s0.1 55 17).toInt64 a1.toInt64 (s0.1 55 16).toNatClampNeg) v9) := h10
        have q14 := h10.1.symm
        subst q14
        have q15 := h10.2
        have y1 := q15
        refine And.intro (fun c16 => ?_) (fun c16 => ?_)
        · have c16 : ¬ v9.toInt = (Int32.ofInt (-1)).toInt := c16
          refine And.intro (Nat.le_of_ble_eq_true rfl) (And.intro ⟨55, v9, rfl, by decide, i0⟩ ?_)
          intro v17 s19 h18
          have h18 : Iv s19 ∧ Kp s0 s19 ∧ vk s19 = ((vk s0).1, (vk s0).2) ∧ (v17 = v9 ∧ v17.toInt = v9.toInt) := h18
          have i20 := h18.1
          have k21 : Kp s0 s19 := Kx.tr Kx.rf (h18.2.1)
          have u22 : vk s19 = ((vk s0).1, (vk s0).2) := h18.2.2.1.trans rfl
          have q23 := h18.2.2.2
          show Iv s19 ∧ Kp s0 s19 ∧ vk s19 = ((vk s0).1, (vk s0).2) ∧ (((0 ≤ a1.toInt ∧ a1.toInt ≤ 100000) ∧ vg_isneed (vg_mp (s0.1 55 17).toInt64 a1.toInt64 (s0.1 55 16).toNatClampNeg) v17) ∨ (¬ (0 ≤ a1.toInt ∧ a1.toInt ≤ 100000) ∧ v17.toInt = -1))
          exact ⟨i20, k21, u22, (by first | exact Or.inl ⟨by omega, by (rw [q23.1]; exact y1)⟩ | exact Or.inl ⟨by omega, vg_isneedm y1 (by omega) q23⟩ | exact Or.inr ⟨by omega, by omega⟩)⟩
        · have c16 : ¬ (¬ v9.toInt = (Int32.ofInt (-1)).toInt) := c16
          refine And.intro (Nat.le_of_ble_eq_true rfl) (And.intro ⟨55, (Int32.ofInt 5), rfl, by decide, i0⟩ ?_)
          intro v24 s26 h25
          have h25 : Iv s26 ∧ Kp s0 s26 ∧ vk s26 = ((vk s0).1, (vk s0).2) ∧ (v24.toInt = -1) := h25
          have i27 := h25.1
          have k28 : Kp s0 s26 := Kx.tr Kx.rf (h25.2.1)
          have u29 : vk s26 = ((vk s0).1, (vk s0).2) := h25.2.2.1.trans rfl
          have q30 := h25.2.2.2
          show Iv s26 ∧ Kp s0 s26 ∧ vk s26 = ((vk s0).1, (vk s0).2) ∧ (((0 ≤ a1.toInt ∧ a1.toInt ≤ 100000) ∧ vg_isneed (vg_mp (s0.1 55 17).toInt64 a1.toInt64 (s0.1 55 16).toNatClampNeg) v24) ∨ (¬ (0 ≤ a1.toInt ∧ a1.toInt ≤ 100000) ∧ v24.toInt = -1))
          exact ⟨i27, k28, u29, (by first | exact Or.inl ⟨by omega, by (rw [q30.1]; exact y1)⟩ | exact Or.inl ⟨by omega, vg_isneedm y1 (by omega) q30⟩ | exact Or.inr ⟨by omega, by omega⟩)⟩
      · have c8 : ¬ (¬ v1.toInt = 0) := c8
        refine And.intro (Nat.le_of_ble_eq_true rfl) (And.intro ⟨55, (Int32.ofInt 1), rfl, by decide, i0⟩ ?_)
        intro v31 s33 h32
        have h32 : Iv s33 ∧ Kp s0 s33 ∧ vk s33 = ((vk s0).1, (vk s0).2) ∧ (v31.toInt = -1) := h32
        have i34 := h32.1
        have k35 : Kp s0 s33 := Kx.tr Kx.rf (h32.2.1)
        have u36 : vk s33 = ((vk s0).1, (vk s0).2) := h32.2.2.1.trans rfl
        have q37 := h32.2.2.2
        show Iv s33 ∧ Kp s0 s33 ∧ vk s33 = ((vk s0).1, (vk s0).2) ∧ (((0 ≤ a1.toInt ∧ a1.toInt ≤ 100000) ∧ vg_isneed (vg_mp (s0.1 55 17).toInt64 a1.toInt64 (s0.1 55 16).toNatClampNeg) v31) ∨ (¬ (0 ≤ a1.toInt ∧ a1.toInt ≤ 100000) ∧ v31.toInt = -1))
        exact ⟨i34, k35, u36, (by first | exact Or.inl ⟨by omega, by (rw [q37.1]; exact y1)⟩ | exact Or.inl ⟨by omega, vg_isneedm y1 (by omega) q37⟩ | exact Or.inr ⟨by omega, by omega⟩)⟩
def o_X11_asked : List vg_I := [(0, .iload_n 1, 1, 0, 0, 0, 0), (1, .ifCond .ge 11, 3, 0, 0, 0, 0), (4, .aload_n 0, 1, 0, 0, 0, 0), (5, .iconst 1, 1, 0, 0, 0, 0), (6, .invokevirtual 242, 3, 0, 11, 1, 1181), (9, .goto 29, 3, 0, 0, 0, 0), (12, .iload_n 1, 1, 0, 0, 0, 0), (13, .aload_n 0, 1, 0, 0, 0, 0), (14, .getfield 252, 3, 1094, 11, 33, 0), (17, .if_icmp .ge 16, 3, 0, 0, 0, 0), (20, .aload_n 0, 1, 0, 0, 0, 0), (21, .aload_n 0, 1, 0, 0, 0, 0), (22, .getfield 67, 3, 1093, 11, 32, 0), (25, .iload_n 1, 1, 0, 0, 0, 0), (26, .iaload, 1, 0, 0, 0, 0), (27, .invokevirtual 249, 3, 1, 11, 1, 1206), (30, .goto 8, 3, 0, 0, 0, 0), (33, .aload_n 0, 1, 0, 0, 0, 0), (34, .iconst 5, 1, 0, 0, 0, 0), (35, .invokevirtual 242, 3, 0, 11, 1, 1181), (38, .ireturn, 1, 0, 0, 0, 0)]
set_option maxRecDepth 100000 in
set_option maxHeartbeats 4000000 in
theorem c_X11_asked (l : Launch) (G : vg_G) (hp : vg_Hp G) : vg_Ct l G vg_sh r_X11_asked := by
  refine vg_meth hp vg_sh_ok r_X11_asked k_X11_asked rfl (fun h => by cases h) o_X11_asked [r_X11_refuse, r_X11_gives] false (by decide +kernel) (by decide +kernel) ⟨_, _, rfl, rfl⟩ (List.forall_mem_cons.mpr ⟨⟨c_X11_refuse l G hp, Nat.le_of_ble_eq_true rfl, Nat.le_of_ble_eq_true rfl⟩, List.forall_mem_cons.mpr ⟨⟨c_X11_gives l G hp, Nat.le_of_ble_eq_true rfl, Nat.le_of_ble_eq_true rfl⟩, fun _ h => absurd h List.not_mem_nil⟩⟩) (fun h => by cases h) 600 ?_
  intro as s0 hpre
  obtain ⟨r, a1, rfl, hr, i0⟩ := hpre
  simp only [List.mem_cons, List.not_mem_nil, or_false] at hr
  rcases hr with rfl
  ·
    have z1 : (Int32.ofInt 1).toInt = 1 := by decide
    have z5 : (Int32.ofInt 5).toInt = 5 := by decide
    refine ⟨Nat.le_of_ble_eq_true rfl, [], ?_, fun _ h => absurd h List.not_mem_nil⟩
    ·
      refine And.intro (fun c1 => ?_) (fun c1 => ?_)
      · have c1 : 0 ≤ a1.toInt := c1
        intro v2 e3
        have g4 : s0.1 55 33 = v2 := by rw [e3]
        have b5 : v2.toInt = (s0.1 55 33).toInt := congrArg Int32.toInt e3
        have b6 : (0 : Int) ≤ v2.toInt ∧ v2.toInt ≤ 12 := by rw [e3]; exact Iv_55_33 i0
        refine And.intro (fun c7 => ?_) (fun c7 => ?_)
        · have c7 : v2.toInt ≤ a1.toInt := c7
          refine And.intro (Nat.le_of_ble_eq_true rfl) (And.intro ⟨55, (Int32.ofInt 5), rfl, by decide, i0⟩ ?_)
          intro v8 s10 h9
          have h9 : Iv s10 ∧ Kp s0 s10 ∧ vk s10 = ((vk s0).1, (vk s0).2) ∧ (v8.toInt = -1) := h9
          have i11 := h9.1
          have k12 : Kp s0 s10 := Kx.tr Kx.rf (h9.2.1)
          have u13 : vk s10 = ((vk s0).1, (vk s0).2) := h9.2.2.1.trans rfl
          have q14 := h9.2.2.2
          show Iv s10 ∧ Kp s0 s10 ∧ vk s10 = ((vk s0).1, (vk s0).2) ∧ (((0 ≤ a1.toInt ∧ a1.toInt < (s0.1 55 33).toInt) ∧ v8 = s0.1 66 a1.toNatClampNeg) ∨ (¬ (0 ≤ a1.toInt ∧ a1.toInt < (s0.1 55 33).toInt) ∧ v8.toInt = -1))
          exact ⟨i11, k12, u13, (by first | exact Or.inl ⟨by omega, by rw [q14.1]; exact None⟩ | exact Or.inr ⟨by omega, by omega⟩)⟩
        · have c7 : ¬ (v2.toInt ≤ a1.toInt) := c7
          refine And.intro ⟨by omega, by omega⟩ ?_
          intro v15 e16
          refine And.intro (Nat.le_of_ble_eq_true rfl) (And.intro ⟨55, v15, rfl, by decide, i0⟩ ?_)
          intro v17 s19 h18
          have h18 : Iv s19 ∧ Kp s0 s19 ∧ vk s19 = ((vk s0).1, (vk s0).2) ∧ (v17 = v15 ∧ v17.toInt = v15.toInt) := h18
          have i20 := h18.1
          have k21 : Kp s0 s19 := Kx.tr Kx.rf (h18.2.1)
          have u22 : vk s19 = ((vk s0).1, (vk s0).2) := h18.2.2.1.trans rfl
          have q23 := h18.2.2.2
          show Iv s19 ∧ Kp s0 s19 ∧ vk s19 = ((vk s0).1, (vk s0).2) ∧ (((0 ≤ a1.toInt ∧ a1.toInt < (s0.1 55 33).toInt) ∧ v17 = s0.1 66 a1.toNatClampNeg) ∨ (¬ (0 ≤ a1.toInt ∧ a1.toInt < (s0.1 55 33).toInt) ∧ v17.toInt = -1))
          exact ⟨i20, k21, u22, (by first | exact Or.inl ⟨by omega, by rw [q23.1]; exact e16⟩ | exact Or.inr ⟨by omega, by omega⟩)⟩
      · have c1 : ¬ (0 ≤ a1.toInt) := c1
        refine And.intro (Nat.le_of_ble_eq_true rfl) (And.intro ⟨55, (Int32.ofInt 1), rfl, by decide, i0⟩ ?_)
        intro v24 s26 h25
        have h25 : Iv s26 ∧ Kp s0 s26 ∧ vk s26 = ((vk s0).1, (vk s0).2) ∧ (v24.toInt = -1) := h25
        have i27 := h25.1
        have k28 : Kp s0 s26 := Kx.tr Kx.rf (h25.2.1)
        have u29 : vk s26 = ((vk s0).1, (vk s0).2) := h25.2.2.1.trans rfl
        have q30 := h25.2.2.2
        show Iv s26 ∧ Kp s0 s26 ∧ vk s26 = ((vk s0).1, (vk s0).2) ∧ (((0 ≤ a1.toInt ∧ a1.toInt < (s0.1 55 33).toInt) ∧ v24 = s0.1 66 a1.toNatClampNeg) ∨ (¬ (0 ≤ a1.toInt ∧ a1.toInt < (s0.1 55 33).toInt) ∧ v24.toInt = -1))
        exact ⟨i27, k28, u29, (by first | exact Or.inl ⟨by omega, by rw [q30.1]; exact None⟩ | exact Or.inr ⟨by omega, by omega⟩)⟩
def o_X11_told : List vg_I := [(0, .iload_n 1, 1, 0, 0, 0, 0), (1, .invokestatic 261, 3, 0, 1, 1, 1265), (4, .ifCond .eq 18, 3, 0, 0, 0, 0), (7, .aload_n 0, 1, 0, 0, 0, 0), (8, .aload_n 0, 1, 0, 0, 0, 0), (9, .bipush 16, 2, 0, 0, 0, 0), (11, .iload_n 1, 1, 0, 0, 0, 0), (12, .iadd, 1, 0, 0, 0, 0), (13, .invokevirtual 110, 3, 1, 11, 1, 1202), (16, .invokevirtual 249, 3, 2, 11, 1, 1206), (19, .goto 8, 3, 0, 0, 0, 0), (22, .aload_n 0, 1, 0, 0, 0, 0), (23, .iconst 2, 1, 0, 0, 0, 0), (24, .invokevirtual 242, 3, 3, 11, 1, 1181), (27, .ireturn, 1, 0, 0, 0, 0)]
set_option maxRecDepth 100000 in
set_option maxHeartbeats 4000000 in
theorem c_X11_told (l : Launch) (G : vg_G) (hp : vg_Hp G) : vg_Ct l G vg_sh r_X11_told := by
  refine vg_meth hp vg_sh_ok r_X11_told k_X11_told rfl (fun h => by cases h) o_X11_told [r_X11_isStage, r_X11_get, r_X11_gives, r_X11_refuse] false (by decide +kernel) (by decide +kernel) ⟨_, _, rfl, rfl⟩ (List.forall_mem_cons.mpr ⟨⟨c_X11_isStage l G hp, Nat.le_of_ble_eq_true rfl, Nat.le_of_ble_eq_true rfl⟩, List.forall_mem_cons.mpr ⟨⟨c_X11_get l G hp, Nat.le_of_ble_eq_true rfl, Nat.le_of_ble_eq_true rfl⟩, List.forall_mem_cons.mpr ⟨⟨c_X11_gives l G hp, Nat.le_of_ble_eq_true rfl, Nat.le_of_ble_eq_true rfl⟩, List.forall_mem_cons.mpr ⟨⟨c_X11_refuse l G hp, Nat.le_of_ble_eq_true rfl, Nat.le_of_ble_eq_true rfl⟩, fun _ h => absurd h List.not_mem_nil⟩⟩⟩⟩) (fun h => by cases h) 600 ?_
  intro as s0 hpre
  obtain ⟨r, a1, rfl, hr, i0⟩ := hpre
  simp only [List.mem_cons, List.not_mem_nil, or_false] at hr
  rcases hr with rfl
  ·
    have z2 : (Int32.ofInt 2).toInt = 2 := by decide
    have z16 : (Int32.ofInt 16).toInt = 16 := by decide
    refine ⟨Nat.le_of_ble_eq_true rfl, [], ?_, fun _ h => absurd h List.not_mem_nil⟩
    ·
      refine And.intro (Nat.le_of_ble_eq_true rfl) (And.intro ⟨a1, rfl, trivial⟩ ?_)
      intro v1 s3 h2
      have h2 : s3 = s0 ∧ ((v1.toInt = 1 ∧ 0 ≤ a1.toInt ∧ a1.toInt ≤ 6) ∨ (v1.toInt = 0 ∧ (a1.toInt < 0 ∨ 6 < a1.toInt))) := h2
      have q6 := h2.1.symm
      subst q6
      have q7 := h2.2
      refine And.intro (fun c8 => ?_) (fun c8 => ?_)
      · have c8 : v1.toInt = 0 := c8
        refine And.intro (Nat.le_of_ble_eq_true rfl) (And.intro ⟨55, (Int32.ofInt 2), rfl, by decide, i0⟩ ?_)
        intro v9 s11 h10
        have h10 : Iv s11 ∧ Kp s0 s11 ∧ vk s11 = ((vk s0).1, (vk s0).2) ∧ (v9.toInt = -1) := h10
        have i12 := h10.1
        have k13 : Kp s0 s11 := Kx.tr Kx.rf (h10.2.1)
        have u14 : vk s11 = ((vk s0).1, (vk s0).2) := h10.2.2.1.trans rfl
        have q15 := h10.2.2.2
        show Iv s11 ∧ Kp s0 s11 ∧ vk s11 = ((vk s0).1, (vk s0).2) ∧ (((0 ≤ a1.toInt ∧ a1.toInt ≤ 6) ∧ v9 = ((vk s0).2 a1.toNatClampNeg).toInt32) ∨ (¬ (0 ≤ a1.toInt ∧ a1.toInt ≤ 6) ∧ v9.toInt = -1))
        exact ⟨i12, k13, u14, (by first | exact Or.inl ⟨by omega, by rw [q15.1]; exact y1⟩ | exact Or.inr ⟨by omega, by omega⟩)⟩
      · have c8 : ¬ (v1.toInt = 0) := c8
        intro v16 e17
        have b18 := vg_add e17 (by omega) (by omega)
        refine And.intro (Nat.le_of_ble_eq_true rfl) (And.intro ⟨55, v16, rfl, by decide, i0, by omega⟩ ?_)
        intro v19 s21 h20
        have h20 : s21 = s0 ∧ (v19 = (s0.2 56 v16.toNatClampNeg).toInt32) := h20
        have q24 := h20.1.symm
        subst q24
        have q25 := h20.2
        have y1 : v19 = ((vk s0).2 a1.toNatClampNeg).toInt32 := vr_toldm q25 (by omega) (by omega)
        refine And.intro (Nat.le_of_ble_eq_true rfl) (And.intro ⟨55, v19, rfl, by decide, i0⟩ ?_)
        intro v26 s28 h27
        have h27 : Iv s28 ∧ Kp s0 s28 ∧ vk s28 = ((vk s0).1, (vk s0).2) ∧ (v26 = v19 ∧ v26.toInt = v19.toInt) := h27
        have i29 := h27.1
        have k30 : Kp s0 s28 := Kx.tr Kx.rf (h27.2.1)
        have u31 : vk s28 = ((vk s0).1, (vk s0).2) := h27.2.2.1.trans rfl
        have q32 := h27.2.2.2
        show Iv s28 ∧ Kp s0 s28 ∧ vk s28 = ((vk s0).1, (vk s0).2) ∧ (((0 ≤ a1.toInt ∧ a1.toInt ≤ 6) ∧ v26 = ((vk s0).2 a1.toNatClampNeg).toInt32) ∨ (¬ (0 ≤ a1.toInt ∧ a1.toInt ≤ 6) ∧ v26.toInt = -1))
        exact ⟨i29, k30, u31, (by first | exact Or.inl ⟨by omega, by rw [q32.1]; exact y1⟩ | exact Or.inr ⟨by omega, by omega⟩)⟩
def o_X11_work : List vg_I := [(0, .iload_n 2, 1, 0, 0, 0, 0), (1, .iconst 0, 1, 0, 0, 0, 0), (2, .iconst 1, 1, 0, 0, 0, 0), (3, .invokestatic 76, 3, 0, 1, 3, 1175), (6, .ifCond .ne 9, 3, 0, 0, 0, 0), (9, .aload_n 0, 1, 0, 0, 0, 0), (10, .iconst 1, 1, 0, 0, 0, 0), (11, .invokevirtual 242, 3, 1, 11, 1, 1181), (14, .ireturn, 1, 0, 0, 0, 0), (15, .iload_n 1, 1, 0, 0, 0, 0), (16, .iconst 0, 1, 0, 0, 0, 0), (17, .aload_n 0, 1, 0, 0, 0, 0), (18, .getfield 228, 3, 1081, 11, 20, 0), (21, .iconst 1, 1, 0, 0, 0, 0), (22, .isub, 1, 0, 0, 0, 0), (23, .invokestatic 76, 3, 0, 1, 3, 1175), (26, .ifCond .ne 9, 3, 0, 0, 0, 0), (29, .aload_n 0, 1, 0, 0, 0, 0), (30, .iconst 2, 1, 0, 0, 0, 0), (31, .invokevirtual 242, 3, 1, 11, 1, 1181), (34, .ireturn, 1, 0, 0, 0, 0), (35, .aload_n 0, 1, 0, 0, 0, 0), (36, .aload_n 0, 1, 0, 0, 0, 0), (37, .getfield 49, 3, 1085, 11, 24, 0), (40, .iload_n 1, 1, 0, 0, 0, 0), (41, .iaload, 1, 0, 0, 0, 0), (42, .invokevirtual 276, 3, 2, 11, 1, 1433), (45, .istore_n 3, 1, 0, 0, 0, 0), (46, .iload_n 2, 1, 0, 0, 0, 0), (47, .ifCond .ne 7, 3, 0, 0, 0, 0), (50, .iload_n 3, 1, 0, 0, 0, 0), (51, .goto 8, 3, 0, 0, 0, 0), (54, .iload_n 3, 1, 0, 0, 0, 0), (55, .iconst 1, 1, 0, 0, 0, 0), (56, .iadd, 1, 0, 0, 0, 0), (57, .iconst 2, 1, 0, 0, 0, 0), (58, .idiv, 1, 0, 0, 0, 0), (59, .istore 4, 2, 0, 0, 0, 0), (61, .aload_n 0, 1, 0, 0, 0, 0), (62, .iload 4, 2, 0, 0, 0, 0), (64, .aload_n 0, 1, 0, 0, 0, 0), (65, .bipush 20, 2, 0, 0, 0, 0), (67, .iload_n 1, 1, 0, 0, 0, 0), (68, .iadd, 1, 0, 0, 0, 0), (69, .invokevirtual 110, 3, 3, 11, 1, 1202), (72, .imul, 1, 0, 0, 0, 0), (73, .invokevirtual 249, 3, 4, 11, 1, 1206), (76, .ireturn, 1, 0, 0, 0, 0)]
set_option maxRecDepth 100000 in
set_option maxHeartbeats 4000000 in
theorem c_X11_work (l : Launch) (G : vg_G) (hp : vg_Hp G) : vg_Ct l G vg_sh r_X11_work := by
  refine vg_meth hp vg_sh_ok r_X11_work k_X11_work rfl (fun h => by cases h) o_X11_work [r_X11_isFrom, r_X11_refuse, r_X11_unlikeNone, r_X11_get, r_X11_gives] false (by decide +kernel) (by decide +kernel) ⟨_, _, rfl, rfl⟩ (List.forall_mem_cons.mpr ⟨⟨c_X11_isFrom l G hp, Nat.le_of_ble_eq_true rfl, Nat.le_of_ble_eq_true rfl⟩, List.forall_mem_cons.mpr ⟨⟨c_X11_refuse l G hp, Nat.le_of_ble_eq_true rfl, Nat.le_of_ble_eq_true rfl⟩, List.forall_mem_cons.mpr ⟨⟨c_X11_unlikeNone l G hp, Nat.le_of_ble_eq_true rfl, Nat.le_of_ble_eq_true rfl⟩, List.forall_mem_cons.mpr ⟨⟨c_X11_get l G hp, Nat.le_of_ble_eq_true rfl, Nat.le_of_ble_eq_true rfl⟩, List.forall_mem_cons.mpr ⟨⟨c_X11_gives l G hp, Nat.le_of_ble_eq_true rfl, Nat.le_of_ble_eq_true rfl⟩, fun _ h => absurd h List.not_mem_nil⟩⟩⟩⟩⟩) (fun h => by cases h) 600 ?_
  intro as s0 hpre
  obtain ⟨r, a1, a2, rfl, hr, i0⟩ := hpre
  simp only [List.mem_cons, List.not_mem_nil, or_false] at hr
  rcases hr with rfl
  ·
    have z0 : (Int32.ofInt 0).toInt = 0 := by decide
    have z1 : (Int32.ofInt 1).toInt = 1 := by decide
    have z2 : (Int32.ofInt 2).toInt = 2 := by decide
    have z20 : (Int32.ofInt 20).toInt = 20 := by decide
    refine ⟨Nat.le_of_ble_eq_true rfl, [], ?_, fun _ h => absurd h List.not_mem_nil⟩
    ·
      refine And.intro (Nat.le_of_ble_eq_true rfl) (And.intro ⟨a2, (Int32.ofInt 0), (Int32.ofInt 1), rfl, trivial⟩ ?_)
      intro v1 s3 h2
      have h2 : s3 = s0 ∧ ((v1.toInt = 1 ∧ (Int32.ofInt 0).toInt ≤ a2.toInt ∧ a2.toInt ≤ (Int32.ofInt 1).toInt) ∨ (v1.toInt = 0 ∧ (a2.toInt < (Int32.ofInt 0).toInt ∨ (Int32.ofInt 1).toInt < a2.toInt))) := h2
      have q6 := h2.1.symm
      subst q6
      have q7 := h2.2
      refine And.intro (fun c8 => ?_) (fun c8 => ?_)
      · have c8 : ¬ v1.toInt = 0 := c8
        intro v9 e10
        have g11 : s0.1 55 20 = v9 := by rw [e10]
        have b12 : v9.toInt = (s0.1 55 20).toInt := congrArg Int32.toInt e10
        have b13 : (0 : Int) ≤ v9.toInt ∧ v9.toInt ≤ 3 := by rw [e10]; exact Iv_55_20 i0
        intro v14 e15
        have b16 := vg_sub e15 (by omega) (by omega)
        refine And.intro (Nat.le_of_ble_eq_true rfl) (And.intro ⟨a1, (Int32.ofInt 0), v14, rfl, trivial⟩ ?_)
        intro v17 s19 h18
        have h18 : s19 = s0 ∧ ((v17.toInt = 1 ∧ (Int32.ofInt 0).toInt ≤ a1.toInt ∧ a1.toInt ≤ v14.toInt) ∨ (v17.toInt = 0 ∧ (a1.toInt < (Int32.ofInt 0).toInt ∨ v14.toInt < a1.toInt))) := h18
        have q22 := h18.1.symm
        subst q22
        have q23 := h18.2
        refine And.intro (fun c24 => ?_) (fun c24 => ?_)
        · have c24 : ¬ v17.toInt = 0 := c24
          refine And.intro ⟨by omega, by omega⟩ ?_
          intro v25 e26
          refine And.intro (Nat.le_of_ble_eq_true rfl) (And.intro ⟨55, v25, rfl, by decide, i0⟩ ?_)
          intro v27 s29 h28
          have h28 : s29 = s0 ∧ (v27 = vg_cnt (vg_tp (s0.1 61) v25) (vg_tn v25)) := h28
          have q32 := h28.1.symm
          subst q32
          have q33 := h28.2
          have y1 : v27 = vg_cnt (vg_tp (s0.1 61) (s0.1 60 a1.toNatClampNeg)) (vg_tn (s0.1 60 a1.toNatClampNeg)) := by rw [← e26]; exact q33
          refine And.intro (fun c34 => ?_) (fun c34 => ?_)
          · have c34 : ¬ a2.toInt = 0 := c34
            intro v35 e36
            refine And.intro (by omega) ?_
            intro v37 e38
            have y2 : v37 = vg_eachr a2 (vg_tp (s0.1 61) (s0.1 60 a1.toNatClampNeg)) (vg_tn (s0.1 60 a1.toNatClampNeg)) := by first | (rw [vg_eachr_0 (by omega)]; exact y1) | (rw [vg_eachr_1 (by omega), ← y1, ← e36]; exact e38)
            intro v39 e40
            have b41 := vg_add e40 (by omega) (by omega)
            refine And.intro (Nat.le_of_ble_eq_true rfl) (And.intro ⟨55, v39, rfl, by decide, i0, by omega⟩ ?_)
            intro v42 s44 h43
            have h43 : s44 = s0 ∧ (v42 = (s0.2 56 v39.toNatClampNeg).toInt32) := h43
            have q47 := h43.1.symm
            subst q47
            have q48 := h43.2
            have y3 : v42 = ((vk s0).2 (4 + a1.toNatClampNeg)).toInt32 := vr_wkm q48 (by omega) (by omega)
            intro v49 e50
            refine And.intro (Nat.le_of_ble_eq_true rfl) (And.intro ⟨55, v49, rfl, by decide, i0⟩ ?_)
            intro v51 s53 h52
            have h52 : Iv s53 ∧ Kp s0 s53 ∧ vk s53 = ((vk s0).1, (vk s0).2) ∧ (v51 = v49 ∧ v51.toInt = v49.toInt) := h52
            have i54 := h52.1
            have k55 : Kp s0 s53 := Kx.tr Kx.rf (h52.2.1)
            have u56 : vk s53 = ((vk s0).1, (vk s0).2) := h52.2.2.1.trans rfl
            have q57 := h52.2.2.2
            show Iv s53 ∧ Kp s0 s53 ∧ vk s53 = ((vk s0).1, (vk s0).2) ∧ (((0 ≤ a2.toInt ∧ a2.toInt ≤ 1 ∧ 0 ≤ a1.toInt ∧ a1.toInt < (s0.1 55 20).toInt) ∧ v51 = vg_eachr a2 (vg_tp (s0.1 61) (s0.1 60 a1.toNatClampNeg)) (vg_tn (s0.1 60 a1.toNatClampNeg)) * ((vk s0).2 (4 + a1.toNatClampNeg)).toInt32) ∨ (¬ (0 ≤ a2.toInt ∧ a2.toInt ≤ 1 ∧ 0 ≤ a1.toInt ∧ a1.toInt < (s0.1 55 20).toInt) ∧ v51.toInt = -1))
            exact ⟨i54, k55, u56, (by first | exact Or.inl ⟨by omega, by rw [q57.1, e50, y2, y3]⟩ | exact Or.inr ⟨by omega, by omega⟩)⟩
          · have c34 : ¬ (¬ a2.toInt = 0) := c34
            have y2 : v27 = vg_eachr a2 (vg_tp (s0.1 61) (s0.1 60 a1.toNatClampNeg)) (vg_tn (s0.1 60 a1.toNatClampNeg)) := by first | (rw [vg_eachr_0 (by omega)]; exact y1) | (rw [vg_eachr_1 (by omega), ← y1, ← e15]; exact None)
            intro v58 e59
            have b60 := vg_add e59 (by omega) (by omega)
            refine And.intro (Nat.le_of_ble_eq_true rfl) (And.intro ⟨55, v58, rfl, by decide, i0, by omega⟩ ?_)
            intro v61 s63 h62
            have h62 : s63 = s0 ∧ (v61 = (s0.2 56 v58.toNatClampNeg).toInt32) := h62
            have q66 := h62.1.symm
            subst q66
            have q67 := h62.2
            have y3 : v61 = ((vk s0).2 (4 + a1.toNatClampNeg)).toInt32 := vr_wkm q67 (by omega) (by omega)
            intro v68 e69
            refine And.intro (Nat.le_of_ble_eq_true rfl) (And.intro ⟨55, v68, rfl, by decide, i0⟩ ?_)
            intro v70 s72 h71
            have h71 : Iv s72 ∧ Kp s0 s72 ∧ vk s72 = ((vk s0).1, (vk s0).2) ∧ (v70 = v68 ∧ v70.toInt = v68.toInt) := h71
            have i73 := h71.1
            have k74 : Kp s0 s72 := Kx.tr Kx.rf (h71.2.1)
            have u75 : vk s72 = ((vk s0).1, (vk s0).2) := h71.2.2.1.trans rfl
            have q76 := h71.2.2.2
            show Iv s72 ∧ Kp s0 s72 ∧ vk s72 = ((vk s0).1, (vk s0).2) ∧ (((0 ≤ a2.toInt ∧ a2.toInt ≤ 1 ∧ 0 ≤ a1.toInt ∧ a1.toInt < (s0.1 55 20).toInt) ∧ v70 = vg_eachr a2 (vg_tp (s0.1 61) (s0.1 60 a1.toNatClampNeg)) (vg_tn (s0.1 60 a1.toNatClampNeg)) * ((vk s0).2 (4 + a1.toNatClampNeg)).toInt32) ∨ (¬ (0 ≤ a2.toInt ∧ a2.toInt ≤ 1 ∧ 0 ≤ a1.toInt ∧ a1.toInt < (s0.1 55 20).toInt) ∧ v70.toInt = -1))
            exact ⟨i73, k74, u75, (by first | exact Or.inl ⟨by omega, by rw [q76.1, e69, y2, y3]⟩ | exact Or.inr ⟨by omega, by omega⟩)⟩
        · have c24 : ¬ (¬ v17.toInt = 0) := c24
          refine And.intro (Nat.le_of_ble_eq_true rfl) (And.intro ⟨55, (Int32.ofInt 2), rfl, by decide, i0⟩ ?_)
          intro v77 s79 h78
          have h78 : Iv s79 ∧ Kp s0 s79 ∧ vk s79 = ((vk s0).1, (vk s0).2) ∧ (v77.toInt = -1) := h78
          have i80 := h78.1
          have k81 : Kp s0 s79 := Kx.tr Kx.rf (h78.2.1)
          have u82 : vk s79 = ((vk s0).1, (vk s0).2) := h78.2.2.1.trans rfl
          have q83 := h78.2.2.2
          show Iv s79 ∧ Kp s0 s79 ∧ vk s79 = ((vk s0).1, (vk s0).2) ∧ (((0 ≤ a2.toInt ∧ a2.toInt ≤ 1 ∧ 0 ≤ a1.toInt ∧ a1.toInt < (s0.1 55 20).toInt) ∧ v77 = vg_eachr a2 (vg_tp (s0.1 61) (s0.1 60 a1.toNatClampNeg)) (vg_tn (s0.1 60 a1.toNatClampNeg)) * ((vk s0).2 (4 + a1.toNatClampNeg)).toInt32) ∨ (¬ (0 ≤ a2.toInt ∧ a2.toInt ≤ 1 ∧ 0 ≤ a1.toInt ∧ a1.toInt < (s0.1 55 20).toInt) ∧ v77.toInt = -1))
          exact ⟨i80, k81, u82, (by first | exact Or.inl ⟨by omega, by rw [q83.1, e15, y2, y3]⟩ | exact Or.inr ⟨by omega, by omega⟩)⟩
      · have c8 : ¬ (¬ v1.toInt = 0) := c8
        refine And.intro (Nat.le_of_ble_eq_true rfl) (And.intro ⟨55, (Int32.ofInt 1), rfl, by decide, i0⟩ ?_)
        intro v84 s86 h85
        have h85 : Iv s86 ∧ Kp s0 s86 ∧ vk s86 = ((vk s0).1, (vk s0).2) ∧ (v84.toInt = -1) := h85
        have i87 := h85.1
        have k88 : Kp s0 s86 := Kx.tr Kx.rf (h85.2.1)
        have u89 : vk s86 = ((vk s0).1, (vk s0).2) := h85.2.2.1.trans rfl
        have q90 := h85.2.2.2
        show Iv s86 ∧ Kp s0 s86 ∧ vk s86 = ((vk s0).1, (vk s0).2) ∧ (((0 ≤ a2.toInt ∧ a2.toInt ≤ 1 ∧ 0 ≤ a1.toInt ∧ a1.toInt < (s0.1 55 20).toInt) ∧ v84 = vg_eachr a2 (vg_tp (s0.1 61) (s0.1 60 a1.toNatClampNeg)) (vg_tn (s0.1 60 a1.toNatClampNeg)) * ((vk s0).2 (4 + a1.toNatClampNeg)).toInt32) ∨ (¬ (0 ≤ a2.toInt ∧ a2.toInt ≤ 1 ∧ 0 ≤ a1.toInt ∧ a1.toInt < (s0.1 55 20).toInt) ∧ v84.toInt = -1))
        exact ⟨i87, k88, u89, (by first | exact Or.inl ⟨by omega, by rw [q90.1, None, y2, y3]⟩ | exact Or.inr ⟨by omega, by omega⟩)⟩
