def o_X9_cellOf : List vg_I := [(0, .iconst 0, 1, 0, 0, 0, 0), (1, .istore_n 2, 1, 0, 0, 0, 0), (2, .iconst 0, 1, 0, 0, 0, 0), (3, .istore_n 3, 1, 0, 0, 0, 0), (4, .iload_n 3, 1, 0, 0, 0, 0), (5, .bipush 10, 2, 0, 0, 0, 0), (7, .if_icmp .ge 33, 3, 0, 0, 0, 0), (10, .iload_n 2, 1, 0, 0, 0, 0), (11, .aload_n 0, 1, 0, 0, 0, 0), (12, .getfield 17, 3, 367, 9, 1, 0), (15, .iload_n 1, 1, 0, 0, 0, 0), (16, .bipush 10, 2, 0, 0, 0, 0), (18, .imul, 1, 0, 0, 0, 0), (19, .iload_n 3, 1, 0, 0, 0, 0), (20, .iadd, 1, 0, 0, 0, 0), (21, .iaload, 1, 0, 0, 0, 0), (22, .ixor, 1, 0, 0, 0, 0), (23, .ldc 79, 2, 975, 0, 0, -1640531535), (25, .imul, 1, 0, 0, 0, 0), (26, .istore_n 2, 1, 0, 0, 0, 0), (27, .iload_n 2, 1, 0, 0, 0, 0), (28, .iload_n 2, 1, 0, 0, 0, 0), (29, .bipush 15, 2, 0, 0, 0, 0), (31, .iushr, 1, 0, 0, 0, 0), (32, .ixor, 1, 0, 0, 0, 0), (33, .istore_n 2, 1, 0, 0, 0, 0), (34, .iinc 3 1, 3, 0, 0, 0, 0), (37, .goto (-33), 3, 0, 0, 0, 0), (40, .iload_n 2, 1, 0, 0, 0, 0), (41, .sipush 2047, 3, 0, 0, 0, 0), (44, .iand, 1, 0, 0, 0, 0), (45, .ireturn, 1, 0, 0, 0, 0)]
set_option maxRecDepth 100000 in
set_option maxHeartbeats 4000000 in
theorem c_X9_cellOf (l : Launch) (G : vg_G) (hp : vg_Hp G) : vg_Ct l G vg_sh r_X9_cellOf := by
  refine vg_meth hp vg_sh_ok r_X9_cellOf k_X9_cellOf rfl (fun h => by cases h) o_X9_cellOf [] false (by decide +kernel) (by decide +kernel) ⟨_, _, rfl, rfl⟩ (fun _ h => absurd h List.not_mem_nil) (fun h => by cases h) 600 ?_
  intro as s0 hpre
  obtain ⟨r, a1, rfl, hr, i0, p0⟩ := hpre
  simp only [List.mem_cons, List.not_mem_nil, or_false] at hr
  rcases hr with rfl
  ·
    have zm1640531535 : (Int32.ofInt (-1640531535)).toInt = -1640531535 := by decide
    have z0 : (Int32.ofInt 0).toInt = 0 := by decide
    have z1 : (Int32.ofInt 1).toInt = 1 := by decide
    have z10 : (Int32.ofInt 10).toInt = 10 := by decide
    have z15 : (Int32.ofInt 15).toInt = 15 := by decide
    have z2047 : (Int32.ofInt 2047).toInt = 2047 := by decide
    refine ⟨Nat.le_of_ble_eq_true rfl, [(4, [true, true, true, true], (fun L t => ∃ (x2 : Int32) (x3 : Int32), L = [some (.ref 31), some (.int a1), some (.int x2), some (.int x3)] ∧ (0 : Int) ≤ x3.toInt ∧ x3.toInt ≤ (10 : Int) ∧ (x2 = q_hs (q_W s0 a1.toNatClampNeg) x3.toNatClampNeg) ∧ t = s0), (fun L _ => (0 + (10 - (vg_li L 3).toInt) * 1000000000000).toNat))], ?_, List.forall_mem_cons.mpr ⟨?_, fun _ h => absurd h List.not_mem_nil⟩⟩
    ·
      exact ⟨rfl, ⟨(Int32.ofInt 0), (Int32.ofInt 0), rfl, (by omega), (by omega), (by first | rfl | exact q_hs1 None y0 y1 y2 y3 y4 (by omega) (by omega) (by omega) (by omega)), rfl⟩, trivial⟩
    ·
      intro L s6 hL
      obtain ⟨w1, w2, rfl, b3, b4, x5, q9⟩ := hL
      have q9 := q9.symm
      subst q9
      refine And.intro (fun c10 => ?_) (fun c10 => ?_)
      · have c10 : (Int32.ofInt 10).toInt ≤ w2.toInt := c10
        intro v11 e12
        have b13 := vg_and e12 (by omega)
        show s0 = s0 ∧ (v11 = q_hs (q_W s0 a1.toNatClampNeg) 10 &&& Int32.ofInt 2047 ∧ 0 ≤ v11.toInt ∧ v11.toInt ≤ 2047)
        exact ⟨rfl, (⟨by rw [e12, x5, show w2.toNatClampNeg = 10 by (have h9 : w2.toNatClampNeg = w2.toInt.toNat := rfl); omega], by omega, by omega⟩)⟩
      · have c10 : ¬ ((Int32.ofInt 10).toInt ≤ w2.toInt) := c10
        intro v14 e15
        have b16 : v14.toInt = a1.toInt * (10) := vg_mulR e15 (by omega) (by omega) (by omega)
        intro v17 e18
        have b19 := vg_add e18 (by omega) (by omega)
        refine And.intro ⟨by omega, by omega⟩ ?_
        intro v20 e21
        have y0 := e21
        intro v22 e23
        have y1 := e23
        intro v24 e25
        have y2 := e25
        intro v26 e27
        have y3 := e27
        intro v28 e29
        have y4 := e29
        intro v30 e31
        have b32 := vg_add e31 (by omega) (by omega)
        exact ⟨rfl, ⟨v28, v30, rfl, (by omega), (by omega), (by first | rfl | exact q_hs1 x5 y0 y1 y2 y3 y4 (by omega) (by omega) (by omega) (by omega)), rfl⟩, (by show (0 + (10 - v30.toInt) * 1000000000000).toNat < (0 + (10 - w2.toInt) * 1000000000000).toNat; omega)⟩
def o_X9_isSame : List vg_I := [(0, .iconst 0, 1, 0, 0, 0, 0), (1, .istore_n 3, 1, 0, 0, 0, 0), (2, .iload_n 3, 1, 0, 0, 0, 0), (3, .bipush 10, 2, 0, 0, 0, 0), (5, .if_icmp .ge 36, 3, 0, 0, 0, 0), (8, .aload_n 0, 1, 0, 0, 0, 0), (9, .getfield 17, 3, 367, 9, 1, 0), (12, .iload_n 1, 1, 0, 0, 0, 0), (13, .bipush 10, 2, 0, 0, 0, 0), (15, .imul, 1, 0, 0, 0, 0), (16, .iload_n 3, 1, 0, 0, 0, 0), (17, .iadd, 1, 0, 0, 0, 0), (18, .iaload, 1, 0, 0, 0, 0), (19, .aload_n 0, 1, 0, 0, 0, 0), (20, .getfield 17, 3, 367, 9, 1, 0), (23, .iload_n 2, 1, 0, 0, 0, 0), (24, .bipush 10, 2, 0, 0, 0, 0), (26, .imul, 1, 0, 0, 0, 0), (27, .iload_n 3, 1, 0, 0, 0, 0), (28, .iadd, 1, 0, 0, 0, 0), (29, .iaload, 1, 0, 0, 0, 0), (30, .if_icmp .eq 5, 3, 0, 0, 0, 0), (33, .iconst 0, 1, 0, 0, 0, 0), (34, .ireturn, 1, 0, 0, 0, 1), (35, .iinc 3 1, 3, 0, 0, 0, 0), (38, .goto (-36), 3, 0, 0, 0, 0), (41, .iconst 1, 1, 0, 0, 0, 0), (42, .ireturn, 1, 0, 0, 0, 1)]
set_option maxRecDepth 100000 in
set_option maxHeartbeats 4000000 in
theorem c_X9_isSame (l : Launch) (G : vg_G) (hp : vg_Hp G) : vg_Ct l G vg_sh r_X9_isSame := by
  refine vg_meth hp vg_sh_ok r_X9_isSame k_X9_isSame rfl (fun h => by cases h) o_X9_isSame [] false (by decide +kernel) (by decide +kernel) ⟨_, _, rfl, rfl⟩ (fun _ h => absurd h List.not_mem_nil) (fun h => by cases h) 600 ?_
  intro as s0 hpre
  obtain ⟨r, a1, a2, rfl, hr, i0, p0⟩ := hpre
  simp only [List.mem_cons, List.not_mem_nil, or_false] at hr
  rcases hr with rfl
  ·
    have z0 : (Int32.ofInt 0).toInt = 0 := by decide
    have z1 : (Int32.ofInt 1).toInt = 1 := by decide
    have z10 : (Int32.ofInt 10).toInt = 10 := by decide
    refine ⟨Nat.le_of_ble_eq_true rfl, [(2, [true, true, true, true], (fun L t => ∃ (x3 : Int32), L = [some (.ref 31), some (.int a1), some (.int a2), some (.int x3)] ∧ (0 : Int) ≤ x3.toInt ∧ x3.toInt ≤ (10 : Int) ∧ (∀ j : Nat, (j : Int) < x3.toInt → s0.1 33 (10 * a1.toNatClampNeg + j) = s0.1 33 (10 * a2.toNatClampNeg + j)) ∧ t = s0), (fun L _ => (0 + (10 - (vg_li L 3).toInt) * 1000000000000).toNat))], ?_, List.forall_mem_cons.mpr ⟨?_, fun _ h => absurd h List.not_mem_nil⟩⟩
    ·
      exact ⟨rfl, ⟨(Int32.ofInt 0), rfl, (by omega), (by omega), (by first | exact q_ss0 (by omega) | exact q_ss1 None y0 y1 (by omega) (by omega) (by omega) (by omega) (by omega) (by omega) (by omega)), rfl⟩, trivial⟩
    ·
      intro L s5 hL
      obtain ⟨w1, rfl, b2, b3, x4, q8⟩ := hL
      have q8 := q8.symm
      subst q8
      refine And.intro (fun c9 => ?_) (fun c9 => ?_)
      · have c9 : (Int32.ofInt 10).toInt ≤ w1.toInt := c9
        refine And.intro (by first | exact Or.inl rfl | exact Or.inr rfl | exact vg_01 (by omega) (by omega)) ?_
        show s0 = s0 ∧ (((Int32.ofInt 1).toInt = 1 ∧ q_sw s0 a1.toNatClampNeg a2.toNatClampNeg) ∨ ((Int32.ofInt 1).toInt = 0 ∧ ¬ q_sw s0 a1.toNatClampNeg a2.toNatClampNeg))
        exact ⟨rfl, (by first | exact Or.inr ⟨by omega, q_ss2 (i := w1) y0 y1 (by omega) (by omega) (by omega) (by omega) (by omega) (by omega) (by omega)⟩ | exact Or.inl ⟨by omega, fun j hj => x4 j (by omega)⟩)⟩
      · have c9 : ¬ ((Int32.ofInt 10).toInt ≤ w1.toInt) := c9
        intro v10 e11
        have b12 : v10.toInt = a1.toInt * (10) := vg_mulR e11 (by omega) (by omega) (by omega)
        intro v13 e14
        have b15 := vg_add e14 (by omega) (by omega)
        refine And.intro ⟨by omega, by omega⟩ ?_
        intro v16 e17
        have y0 := e17
        intro v18 e19
        have b20 : v18.toInt = a2.toInt * (10) := vg_mulR e19 (by omega) (by omega) (by omega)
        intro v21 e22
        have b23 := vg_add e22 (by omega) (by omega)
        refine And.intro ⟨by omega, by omega⟩ ?_
        intro v24 e25
        have y1 := e25
        refine And.intro (fun c26 => ?_) (fun c26 => ?_)
        · have c26 : v16.toInt = v24.toInt := c26
          intro v27 e28
          have b29 := vg_add e28 (by omega) (by omega)
          exact ⟨rfl, ⟨v27, rfl, (by omega), (by omega), (by first | exact q_ss0 (by omega) | exact q_ss1 x4 y0 y1 (by omega) (by omega) (by omega) (by omega) (by omega) (by omega) (by omega)), rfl⟩, (by show (0 + (10 - v27.toInt) * 1000000000000).toNat < (0 + (10 - w1.toInt) * 1000000000000).toNat; omega)⟩
        · have c26 : ¬ (v16.toInt = v24.toInt) := c26
          refine And.intro (by first | exact Or.inl rfl | exact Or.inr rfl | exact vg_01 (by omega) (by omega)) ?_
          show s0 = s0 ∧ (((Int32.ofInt 0).toInt = 1 ∧ q_sw s0 a1.toNatClampNeg a2.toNatClampNeg) ∨ ((Int32.ofInt 0).toInt = 0 ∧ ¬ q_sw s0 a1.toNatClampNeg a2.toNatClampNeg))
          exact ⟨rfl, (by first | exact Or.inr ⟨by omega, q_ss2 (i := w1) y0 y1 (by omega) (by omega) (by omega) (by omega) (by omega) (by omega) (by omega)⟩ | exact Or.inl ⟨by omega, fun j hj => x4 j (by omega)⟩)⟩
def o_X9_findOrPut : List vg_I := [(0, .aload_n 0, 1, 0, 0, 0, 0), (1, .iload_n 1, 1, 0, 0, 0, 0), (2, .invokevirtual 72, 3, 0, 9, 1, 971), (5, .istore_n 2, 1, 0, 0, 0, 0), (6, .iconst 0, 1, 0, 0, 0, 0), (7, .istore_n 3, 1, 0, 0, 0, 0), (8, .iload_n 3, 1, 0, 0, 0, 0), (9, .sipush 2048, 3, 0, 0, 0, 0), (12, .if_icmp .ge 67, 3, 0, 0, 0, 0), (15, .iload_n 2, 1, 0, 0, 0, 0), (16, .iload_n 3, 1, 0, 0, 0, 0), (17, .iadd, 1, 0, 0, 0, 0), (18, .sipush 2047, 3, 0, 0, 0, 0), (21, .iand, 1, 0, 0, 0, 0), (22, .istore 4, 2, 0, 0, 0, 0), (24, .aload_n 0, 1, 0, 0, 0, 0), (25, .getfield 20, 3, 368, 9, 2, 0), (28, .iload 4, 2, 0, 0, 0, 0), (30, .iaload, 1, 0, 0, 0, 0), (31, .ifCond .ne 15, 3, 0, 0, 0, 0), (34, .aload_n 0, 1, 0, 0, 0, 0), (35, .getfield 20, 3, 368, 9, 2, 0), (38, .iload 4, 2, 0, 0, 0, 0), (40, .iload_n 1, 1, 0, 0, 0, 0), (41, .iconst 1, 1, 0, 0, 0, 0), (42, .iadd, 1, 0, 0, 0, 0), (43, .iastore, 1, 0, 0, 0, 0), (44, .iconst (-1), 1, 0, 0, 0, 0), (45, .ireturn, 1, 0, 0, 0, 0), (46, .aload_n 0, 1, 0, 0, 0, 0), (47, .aload_n 0, 1, 0, 0, 0, 0), (48, .getfield 20, 3, 368, 9, 2, 0), (51, .iload 4, 2, 0, 0, 0, 0), (53, .iaload, 1, 0, 0, 0, 0), (54, .iconst 1, 1, 0, 0, 0, 0), (55, .isub, 1, 0, 0, 0, 0), (56, .iload_n 1, 1, 0, 0, 0, 0), (57, .invokevirtual 75, 3, 1, 9, 2, 976), (60, .ifCond .eq 13, 3, 0, 0, 0, 0), (63, .aload_n 0, 1, 0, 0, 0, 0), (64, .getfield 20, 3, 368, 9, 2, 0), (67, .iload 4, 2, 0, 0, 0, 0), (69, .iaload, 1, 0, 0, 0, 0), (70, .iconst 1, 1, 0, 0, 0, 0), (71, .isub, 1, 0, 0, 0, 0), (72, .ireturn, 1, 0, 0, 0, 0), (73, .iinc 3 1, 3, 0, 0, 0, 0), (76, .goto (-68), 3, 0, 0, 0, 0), (79, .iconst (-1), 1, 0, 0, 0, 0), (80, .ireturn, 1, 0, 0, 0, 0)]
set_option maxRecDepth 100000 in
set_option maxHeartbeats 4000000 in
theorem c_X9_findOrPut (l : Launch) (G : vg_G) (hp : vg_Hp G) : vg_Ct l G vg_sh r_X9_findOrPut := by
  refine vg_meth hp vg_sh_ok r_X9_findOrPut k_X9_findOrPut rfl (fun h => by cases h) o_X9_findOrPut [r_X9_cellOf, r_X9_isSame] false (by decide +kernel) (by decide +kernel) ⟨_, _, rfl, rfl⟩ (List.forall_mem_cons.mpr ⟨⟨c_X9_cellOf l G hp, Nat.le_of_ble_eq_true rfl, Nat.le_of_ble_eq_true rfl⟩, List.forall_mem_cons.mpr ⟨⟨c_X9_isSame l G hp, Nat.le_of_ble_eq_true rfl, Nat.le_of_ble_eq_true rfl⟩, fun _ h => absurd h List.not_mem_nil⟩⟩) (fun h => by cases h) 600 ?_
  intro as s0 hpre
  obtain ⟨r, a1, rfl, hr, i0, p0⟩ := hpre
  simp only [List.mem_cons, List.not_mem_nil, or_false] at hr
  rcases hr with rfl
  ·
    have zm1 : (Int32.ofInt (-1)).toInt = -1 := by decide
    have z0 : (Int32.ofInt 0).toInt = 0 := by decide
    have z1 : (Int32.ofInt 1).toInt = 1 := by decide
    have z2047 : (Int32.ofInt 2047).toInt = 2047 := by decide
    have z2048 : (Int32.ofInt 2048).toInt = 2048 := by decide
    refine ⟨Nat.le_of_ble_eq_true rfl, [(8, [true, true, true, true, false], (fun L t => ∃ (x2 : Int32) (x3 : Int32), L = [some (.ref 31), some (.int a1), some (.int x2), some (.int x3), none] ∧ (0 : Int) ≤ x2.toInt ∧ x2.toInt ≤ (2047 : Int) ∧ (0 : Int) ≤ x3.toInt ∧ x3.toInt ≤ (2048 : Int) ∧ (t = s0 ∧ (∀ j : Nat, j < 2048 → 0 ≤ (t.1 34 j).toInt ∧ (t.1 34 j).toInt ≤ a1.toInt) ∧ x2.toInt.toNat = q_hw s0 a1.toNatClampNeg ∧ q_fpI s0 a1.toNatClampNeg x2.toInt.toNat x3.toInt) ∧ Iv t ∧ Kc s0 t), (fun L _ => (0 + (2048 - (vg_li L 3).toInt) * 1000000000000).toNat))], ?_, List.forall_mem_cons.mpr ⟨?_, fun _ h => absurd h List.not_mem_nil⟩⟩
    ·
      refine And.intro (Nat.le_of_ble_eq_true rfl) (And.intro ⟨31, a1, rfl, by decide, i0, by omega⟩ ?_)
      intro v1 s3 h2
      have h2 : s3 = s0 ∧ (v1 = q_hs (q_W s0 a1.toNatClampNeg) 10 &&& Int32.ofInt 2047 ∧ 0 ≤ v1.toInt ∧ v1.toInt ≤ 2047) := h2
      have q6 := h2.1.symm
      subst q6
      have q7 := h2.2
      have yh := q7.1
      exact ⟨rfl, ⟨v1, (Int32.ofInt 0), rfl, (by omega), (by omega), (by omega), (by omega), (by first | exact ⟨rfl, p0.1.2, by rw [yh]; rfl, q_fp0 (by omega)⟩ | exact ⟨None.1, None.2.1, None.2.2.1, q_fpB None.1 None.2.2.2 yx y3 (by omega) (by omega) y5 (by omega) (by omega) (by omega)⟩), i0, Kx.rf⟩, trivial⟩
    ·
      intro L s15 hL
      obtain ⟨w8, w11, rfl, b9, b10, b12, b13, x14, i16, k17⟩ := hL
      refine And.intro (fun c18 => ?_) (fun c18 => ?_)
      · have c18 : (Int32.ofInt 2048).toInt ≤ w11.toInt := c18
        show Iv s15 ∧ Kc s0 s15 ∧ (q_fF s0 s15 a1 (Int32.ofInt (-1)) ∧ ∀ j : Nat, j < 2048 → 0 ≤ (s15.1 34 j).toInt ∧ (s15.1 34 j).toInt ≤ a1.toInt + 1)
        exact ⟨i16, k17, (by first | exact ⟨(by have g := q_fpA x14.1 p0.2 x14.2.2.1 x14.2.2.2 yx y3 (by omega) (by omega) (by have h9 : a1.toNatClampNeg = a1.toInt.toNat := rfl; omega) rfl; exact ⟨Or.inl ⟨by omega, g.1, g.2.1⟩, g.2.2⟩), (by intro j hj; rw [rfl]; exact vg_cells1 x14.2.1 (by omega) j hj)⟩ | exact ⟨⟨Or.inr ⟨by omega, by omega, q_fpC x14.1 (by omega) y5 (by omega)⟩, fun m _ => by rw [x14.1]⟩, fun j hj => by have h9 := x14.2.1 j hj; omega⟩ | exact (q_fp4 p0.2 (by have h9 : a1.toNatClampNeg = a1.toInt.toNat := rfl; omega) (by omega) x14.2.2.2 (by omega)).elim)⟩
      · have c18 : ¬ ((Int32.ofInt 2048).toInt ≤ w11.toInt) := c18
        intro v19 e20
        have b21 := vg_add e20 (by omega) (by omega)
        have y1 := e20
        intro v22 e23
        have b24 := vg_and e23 (by omega)
        have yx : v22.toNatClampNeg = (w8.toInt.toNat + w11.toInt.toNat) % 2048 := q_fpx y1 e23 (by omega) (by omega)
        refine And.intro ⟨by omega, by omega⟩ ?_
        intro v25 e26
        have b27 : 0 ≤ v25.toInt ∧ v25.toInt ≤ a1.toInt := by rw [e26]; exact x14.2.1 _ (by have h9 : v22.toNatClampNeg = v22.toInt.toNat := rfl; omega)
        have y3 := e26
        refine And.intro (fun c28 => ?_) (fun c28 => ?_)
        · have c28 : ¬ v25.toInt = 0 := c28
          refine And.intro ⟨by omega, by omega⟩ ?_
          intro v29 e30
          have w31 : v25 = v29 := by rw [e30, e26]
          subst w31
          intro v32 e33
          have b34 := vg_sub e33 (by omega) (by omega)
          refine And.intro (Nat.le_of_ble_eq_true rfl) (And.intro ⟨31, v32, a1, rfl, by decide, i16, by omega⟩ ?_)
          intro v35 s37 h36
          have h36 : s37 = s15 ∧ ((v35.toInt = 1 ∧ q_sw s15 v32.toNatClampNeg a1.toNatClampNeg) ∨ (v35.toInt = 0 ∧ ¬ q_sw s15 v32.toNatClampNeg a1.toNatClampNeg)) := h36
          have q40 := h36.1.symm
          subst q40
          have q41 := h36.2
          have y5 := q41
          refine And.intro (fun c42 => ?_) (fun c42 => ?_)
          · have c42 : v35.toInt = 0 := c42
            intro v43 e44
            have b45 := vg_add e44 (by omega) (by omega)
            exact ⟨rfl, ⟨w8, v43, rfl, (by omega), (by omega), (by omega), (by omega), (by first | exact ⟨rfl, p0.1.2, by rw [yh]; rfl, q_fp0 (by omega)⟩ | exact ⟨x14.1, x14.2.1, x14.2.2.1, q_fpB x14.1 x14.2.2.2 yx y3 (by omega) (by omega) y5 (by omega) (by omega) (by omega)⟩), i16, k17⟩, (by show (0 + (2048 - v43.toInt) * 1000000000000).toNat < (0 + (2048 - w11.toInt) * 1000000000000).toNat; omega)⟩
          · have c42 : ¬ (v35.toInt = 0) := c42
            refine And.intro ⟨by omega, by omega⟩ ?_
            intro v46 e47
            have w48 : v25 = v46 := by rw [e47, e26]
            subst w48
            intro v49 e50
            have b51 := vg_sub e50 (by omega) (by omega)
            show Iv s15 ∧ Kc s0 s15 ∧ (q_fF s0 s15 a1 v49 ∧ ∀ j : Nat, j < 2048 → 0 ≤ (s15.1 34 j).toInt ∧ (s15.1 34 j).toInt ≤ a1.toInt + 1)
            exact ⟨i16, k17, (by first | exact ⟨(by have g := q_fpA x14.1 p0.2 x14.2.2.1 x14.2.2.2 yx y3 (by omega) (by omega) (by have h9 : a1.toNatClampNeg = a1.toInt.toNat := rfl; omega) rfl; exact ⟨Or.inl ⟨by omega, g.1, g.2.1⟩, g.2.2⟩), (by intro j hj; rw [rfl]; exact vg_cells1 x14.2.1 (by omega) j hj)⟩ | exact ⟨⟨Or.inr ⟨by omega, by omega, q_fpC x14.1 (by omega) y5 (by omega)⟩, fun m _ => by rw [x14.1]⟩, fun j hj => by have h9 := x14.2.1 j hj; omega⟩ | exact (q_fp4 p0.2 (by have h9 : a1.toNatClampNeg = a1.toInt.toNat := rfl; omega) (by omega) x14.2.2.2 (by omega)).elim)⟩
        · have c28 : ¬ (¬ v25.toInt = 0) := c28
          intro v52 e53
          have b54 := vg_add e53 (by omega) (by omega)
          refine And.intro ⟨by omega, by omega⟩ ?_
          intro s55 e56
          have i57 : Iv s55 := Iv.a1 i16 e56 rfl
          have k58 : Kc s0 s55 := Kx.u1 k17 e56 rfl
          show Iv s55 ∧ Kc s0 s55 ∧ (q_fF s0 s55 a1 (Int32.ofInt (-1)) ∧ ∀ j : Nat, j < 2048 → 0 ≤ (s55.1 34 j).toInt ∧ (s55.1 34 j).toInt ≤ a1.toInt + 1)
          exact ⟨i57, k58, (by first | exact ⟨(by have g := q_fpA x14.1 p0.2 x14.2.2.1 x14.2.2.2 yx y3 (by omega) (by omega) (by have h9 : a1.toNatClampNeg = a1.toInt.toNat := rfl; omega) e56; exact ⟨Or.inl ⟨by omega, g.1, g.2.1⟩, g.2.2⟩), (by intro j hj; rw [e56]; exact vg_cells1 x14.2.1 (by omega) j hj)⟩ | exact ⟨⟨Or.inr ⟨by omega, by omega, q_fpC x14.1 (by omega) y5 (by omega)⟩, fun m _ => by rw [x14.1]⟩, fun j hj => by have h9 := x14.2.1 j hj; omega⟩ | exact (q_fp4 p0.2 (by have h9 : a1.toNatClampNeg = a1.toInt.toNat := rfl; omega) (by omega) x14.2.2.2 (by omega)).elim)⟩
def o_X9_follow : List vg_I := [(0, .aload_n 1, 1, 0, 0, 0, 0), (1, .aload_n 2, 1, 0, 0, 0, 0), (2, .invokevirtual 23, 3, 0, 5, 1, 952), (5, .aload_n 0, 1, 0, 0, 0, 0), (6, .getfield 20, 3, 368, 9, 2, 0), (9, .iconst 0, 1, 0, 0, 0, 0), (10, .invokestatic 27, 3, 1, 1, 2, 961), (13, .aload_n 0, 1, 0, 0, 0, 0), (14, .iconst 0, 1, 0, 0, 0, 0), (15, .putfield 33, 3, 369, 9, 3, 1), (18, .aload_n 0, 1, 0, 0, 0, 0), (19, .iconst 0, 1, 0, 0, 0, 0), (20, .putfield 37, 3, 371, 9, 4, 0), (23, .aload_n 0, 1, 0, 0, 0, 0), (24, .iconst 0, 1, 0, 0, 0, 0), (25, .putfield 41, 3, 373, 9, 5, 0), (28, .iconst 0, 1, 0, 0, 0, 0), (29, .istore 4, 2, 0, 0, 0, 0), (31, .iload 4, 2, 0, 0, 0, 0), (33, .sipush 1000, 3, 0, 0, 0, 0), (36, .if_icmp .gt 77, 3, 0, 0, 0, 0), (39, .aload_n 1, 1, 0, 0, 0, 0), (40, .aload_n 0, 1, 0, 0, 0, 0), (41, .getfield 17, 3, 367, 9, 1, 0), (44, .iload 4, 2, 0, 0, 0, 0), (46, .bipush 10, 2, 0, 0, 0, 0), (48, .imul, 1, 0, 0, 0, 0), (49, .invokevirtual 44, 3, 2, 5, 2, 962), (52, .aload_n 0, 1, 0, 0, 0, 0), (53, .iload 4, 2, 0, 0, 0, 0), (55, .invokevirtual 47, 3, 3, 9, 1, 967), (58, .istore 5, 2, 0, 0, 0, 0), (60, .iload 5, 2, 0, 0, 0, 0), (62, .iconst (-1), 1, 0, 0, 0, 0), (63, .if_icmp .eq 24, 3, 0, 0, 0, 0), (66, .aload_n 0, 1, 0, 0, 0, 0), (67, .iconst 1, 1, 0, 0, 0, 0), (68, .putfield 33, 3, 369, 9, 3, 1), (71, .aload_n 0, 1, 0, 0, 0, 0), (72, .iload 5, 2, 0, 0, 0, 0), (74, .putfield 37, 3, 371, 9, 4, 0), (77, .aload_n 0, 1, 0, 0, 0, 0), (78, .iload 4, 2, 0, 0, 0, 0), (80, .iload 5, 2, 0, 0, 0, 0), (82, .isub, 1, 0, 0, 0, 0), (83, .putfield 41, 3, 373, 9, 5, 0), (86, .return_, 1, 0, 0, 0, 0), (87, .iload 4, 2, 0, 0, 0, 0), (89, .sipush 1000, 3, 0, 0, 0, 0), (92, .if_icmp .ge 15, 3, 0, 0, 0, 0), (95, .aload_n 0, 1, 0, 0, 0, 0), (96, .getfield 11, 3, 366, 9, 0, 0), (99, .iload 4, 2, 0, 0, 0, 0), (101, .aload_n 1, 1, 0, 0, 0, 0), (102, .iload_n 3, 1, 0, 0, 0, 0), (103, .invokevirtual 51, 3, 4, 5, 1, 980), (106, .iastore, 1, 0, 0, 0, 0), (107, .iinc 4 1, 3, 0, 0, 0, 0), (110, .goto (-79), 3, 0, 0, 0, 0), (113, .return_, 1, 0, 0, 0, 0)]
set_option maxRecDepth 100000 in
set_option maxHeartbeats 4000000 in
theorem c_X9_follow (l : Launch) (G : vg_G) (hp : vg_Hp G) : vg_Ct l G vg_sh r_X9_follow := by
  refine vg_meth hp vg_sh_ok r_X9_follow k_X9_follow rfl (fun h => by cases h) o_X9_follow [r_X5_beginTone, r_J7_fill_53178_at34, r_X5_writeWords, r_X9_findOrPut, r_X5_advance] false (by decide +kernel) (by decide +kernel) ⟨_, _, rfl, rfl⟩ (List.forall_mem_cons.mpr ⟨⟨c_X5_beginTone l G hp, Nat.le_of_ble_eq_true rfl, Nat.le_of_ble_eq_true rfl⟩, List.forall_mem_cons.mpr ⟨⟨c_J7_fill_53178_at34 l G hp, Nat.le_of_ble_eq_true rfl, Nat.le_of_ble_eq_true rfl⟩, List.forall_mem_cons.mpr ⟨⟨c_X5_writeWords l G hp, Nat.le_of_ble_eq_true rfl, Nat.le_of_ble_eq_true rfl⟩, List.forall_mem_cons.mpr ⟨⟨c_X9_findOrPut l G hp, Nat.le_of_ble_eq_true rfl, Nat.le_of_ble_eq_true rfl⟩, List.forall_mem_cons.mpr ⟨⟨c_X5_advance l G hp, Nat.le_of_ble_eq_true rfl, Nat.le_of_ble_eq_true rfl⟩, fun _ h => absurd h List.not_mem_nil⟩⟩⟩⟩⟩) (fun h => by cases h) 600 ?_
  intro as s0 hpre
  obtain ⟨r, a1, a2, a3, rfl, hr, ha1, ha2, i0, p0⟩ := hpre
  simp only [List.mem_cons, List.not_mem_nil, or_false] at hr
  rcases hr with rfl
  ·
    simp only [List.mem_cons, List.not_mem_nil, or_false] at ha1
    rcases ha1 with rfl
    ·
      simp only [List.mem_cons, List.not_mem_nil, or_false] at ha2
      rcases ha2 with rfl
      ·
        have zm1 : (Int32.ofInt (-1)).toInt = -1 := by decide
        have z0 : (Int32.ofInt 0).toInt = 0 := by decide
        have z1 : (Int32.ofInt 1).toInt = 1 := by decide
        have z10 : (Int32.ofInt 10).toInt = 10 := by decide
        have z1000 : (Int32.ofInt 1000).toInt = 1000 := by decide
        refine ⟨Nat.le_of_ble_eq_true rfl, [(31, [true, true, false, true, true, false], (fun L t => ∃ (x4 : Int32), L = [some (.ref 31), some (.ref 22), none, some (.int a3), some (.int x4), none] ∧ (0 : Int) ≤ x4.toInt ∧ x4.toInt ≤ (1001 : Int) ∧ (q_fI s0 t a3 x4.toNatClampNeg ∧ (∀ j : Nat, j < 2048 → 0 ≤ (t.1 34 j).toInt ∧ (t.1 34 j).toInt ≤ x4.toInt) ∧ (t.1 31 3).toInt = 0 ∧ (t.1 31 4).toInt = 0 ∧ (t.1 31 5).toInt = 0) ∧ Iv t ∧ Kr s0 t), (fun L _ => (0 + (1001 - (vg_li L 4).toInt) * 1000000000000).toNat))], ?_, List.forall_mem_cons.mpr ⟨?_, fun _ h => absurd h List.not_mem_nil⟩⟩
        ·
          refine And.intro (Nat.le_of_ble_eq_true rfl) (And.intro ⟨22, 4, rfl, by decide, by decide, i0⟩ ?_)
          intro s2 h1
          have h1 : Iv s2 ∧ Kp s0 s2 ∧ (q_btR s0 s2) := h1
          have i3 := h1.1
          have k4 : Kr s0 s2 := Kx.tr Kx.rf (((h1.2.1).pc).cr)
          have q5 := h1.2.2
          have f0 := q5
          refine And.intro (Nat.le_of_ble_eq_true rfl) (And.intro ⟨34, (Int32.ofInt 0), rfl, by decide, i3⟩ ?_)
          intro s7 h6
          have h6 : Iv s7 ∧ Kc s2 s7 ∧ ((∀ j : Nat, s7.1 34 j = if j < 2048 then (Int32.ofInt 0) else s2.1 34 j) ∧ ∀ m, m ≠ 34 → s7.1 m = s2.1 m) := h6
          have i8 := h6.1
          have k9 : Kr s0 s7 := Kx.tr k4 ((h6.2.1).cr)
          have q10 := h6.2.2
          have y0 : ∀ j : Nat, j < 2048 → (s7.1 34 j) = Int32.ofInt 0 := fun j hj => by rw [q10.1 j, if_pos hj]
          have f1 := q10
          refine And.intro (by first | exact Or.inl rfl | exact Or.inr rfl | exact vg_01 (by omega) (by omega)) ?_
          intro s11 e12
          have i13 : Iv s11 := Iv.u1 i8 e12 rfl
          have k14 : Kr s0 s11 := Kx.u1 k9 e12 rfl
          intro s15 e16
          have i17 : Iv s15 := Iv.u1 i13 e16 rfl
          have k18 : Kr s0 s15 := Kx.u1 k14 e16 rfl
          intro s19 e20
          have i21 : Iv s19 := Iv.u1 i17 e20 rfl
          have k22 : Kr s0 s19 := Kx.u1 k18 e20 rfl
          obtain ⟨v23, e24⟩ : ∃ y, y = s19.1 31 3 := ⟨_, rfl⟩
          have w25 : (Int32.ofInt 0) = v23 := by rw [e24, e20, vg_u1_at (a := 31) (b := 3) (k := 31) (i := 5) (by decide), e16, vg_u1_at (a := 31) (b := 3) (k := 31) (i := 4) (by decide), e12]; exact vg_u1_self.symm
          subst w25
          have b26 := congrArg Int32.toInt e24
          obtain ⟨v27, e28⟩ : ∃ y, y = s19.1 31 4 := ⟨_, rfl⟩
          have w29 : (Int32.ofInt 0) = v27 := by rw [e28, e20, vg_u1_at (a := 31) (b := 4) (k := 31) (i := 5) (by decide), e16]; exact vg_u1_self.symm
          subst w29
          have b30 := congrArg Int32.toInt e28
          obtain ⟨v31, e32⟩ : ∃ y, y = s19.1 31 5 := ⟨_, rfl⟩
          have w33 : (Int32.ofInt 0) = v31 := by rw [e32, e20]; exact vg_u1_self.symm
          subst w33
          have b34 := congrArg Int32.toInt e32
          have y3 : ∀ j : Nat, j < 2048 → 0 ≤ (s19.1 34 j).toInt ∧ (s19.1 34 j).toInt ≤ 0 := fun j hj => by rw [e20, vg_u1_ne (a := 34) (k := 31) (by decide), e16, vg_u1_ne (a := 34) (k := 31) (by decide), e12, vg_u1_ne (a := 34) (k := 31) (by decide), y0 j hj]; decide
          have y9 : (s19.1 31 3).toInt = 0 ∧ (s19.1 31 4).toInt = 0 ∧ (s19.1 31 5).toInt = 0 := by omega
          have f2 : q_fI s0 s19 a3 (Int32.ofInt 0).toNatClampNeg := by rw [q_n0]; exact q_f0 f0 f1 rfl e12 e16 e20
          exact ⟨rfl, ⟨(Int32.ofInt 0), rfl, (by omega), (by omega), (by first | exact ⟨f2, fun j hj => by (have h9 := y3 j hj; omega), y9⟩ | exact ⟨q_fI_s (q_f5 f6 f7 (fun j => f8.2.1.1 33 j rfl) (fun j => f8.2.1.1 32 j rfl) (fun j => f8.2.1.1 34 j rfl) (show (s0.1 4 1).toInt ≤ 4 by have h9 := Iv_4_1 i0; omega) e20 (by have h9 : ∀ q : Int32, q.toNatClampNeg = q.toInt.toNat := fun _ => rfl; rw [h9]; omega)) (by omega) (by omega), fun j hj => by (have h9 := y4 j hj; omega), y8⟩ | exact ⟨q_fI_s (q_f4 f6 (by have h9 : ∀ q : Int32, q.toNatClampNeg = q.toInt.toNat := fun _ => rfl; rw [h9]; omega)) (by omega) (by omega), fun j hj => by (have h9 := y4 j hj; omega), y8⟩), i21, k22⟩, trivial⟩
        ·
          intro L s39 hL
          obtain ⟨w35, rfl, b36, b37, x38, i40, k41⟩ := hL
          refine And.intro (fun c42 => ?_) (fun c42 => ?_)
          · have c42 : (Int32.ofInt 1000).toInt < w35.toInt := c42
            have y10 := x38.2.2
            show Iv s39 ∧ Kr s0 s39 ∧ ((0 ≤ (s39.1 31 4).toInt ∧ 0 ≤ (s39.1 31 5).toInt ∧ (s39.1 31 4).toInt + (s39.1 31 5).toInt ≤ 1000) ∧ q_fR s0 s39 a3)
            exact ⟨i40, k41, (by first | exact ⟨by omega, q_f6 x38.1 (by have h9 : w35.toNatClampNeg = w35.toInt.toNat := rfl; omega) y10.1⟩ | exact ⟨by omega, q_f2w f4.2.1 f4.2.2.1 (by omega) f5 (by omega)  (by omega) (by omega) (by omega)⟩)⟩
          · have c42 : ¬ ((Int32.ofInt 1000).toInt < w35.toInt) := c42
            intro v43 e44
            have b45 : v43.toInt = w35.toInt * (10) := vg_mulR e44 (by omega) (by omega) (by omega)
            refine And.intro (Nat.le_of_ble_eq_true rfl) (And.intro ⟨22, 33, v43, rfl, by decide, by decide, i40, by omega⟩ ?_)
            intro s47 h46
            have h46 : Iv s47 ∧ K_X5_writeWords s39 s47 ∧ (q_ww s39 s47 v43.toInt) := h46
            have i48 := h46.1
            have k49 : Kr s0 s47 := Kx.tr k41 ((h46.2.1).wr)
            have q50 := h46.2.2
            have y5 : (s47.1 31 3).toInt = 0 ∧ (s47.1 31 4).toInt = 0 ∧ (s47.1 31 5).toInt = 0 := by rw [h46.2.1.1 31 3 rfl, h46.2.1.1 31 4 rfl, h46.2.1.1 31 5 rfl]; exact x38.2.2
            have f4 := q_f1 x38.1 (by have h9 : w35.toNatClampNeg = w35.toInt.toNat := rfl; omega) q50 (by have h9 : w35.toNatClampNeg = w35.toInt.toNat := rfl; omega)
            refine And.intro (Nat.le_of_ble_eq_true rfl) (And.intro ⟨31, w35, rfl, by decide, i48, ⟨⟨⟨by omega, by omega⟩, fun j hj => by rw [h46.2.1.1 34 j rfl]; exact x38.2.1 j hj⟩, f4.2.2.2⟩⟩ ?_)
            intro v51 s53 h52
            have h52 : Iv s53 ∧ Kc s47 s53 ∧ (q_fF s47 s53 w35 v51 ∧ ∀ j : Nat, j < 2048 → 0 ≤ (s53.1 34 j).toInt ∧ (s53.1 34 j).toInt ≤ w35.toInt + 1) := h52
            have i54 := h52.1
            have k55 : Kr s0 s53 := Kx.tr k49 ((h52.2.1).cr)
            have q56 := h52.2.2
            have y1 : ∀ j : Nat, j < 2048 → 0 ≤ (s53.1 34 j).toInt ∧ (s53.1 34 j).toInt ≤ w35.toInt + 1 := q56.2
            have y6 : (s53.1 31 3).toInt = 0 ∧ (s53.1 31 4).toInt = 0 ∧ (s53.1 31 5).toInt = 0 := by rw [h52.2.1.1 31 3 rfl, h52.2.1.1 31 4 rfl, h52.2.1.1 31 5 rfl]; exact y5
            have f5 := q56.1
            have f5r := q_fF_rng q56.1
            refine And.intro (fun c57 => ?_) (fun c57 => ?_)
            · have c57 : v51.toInt = (Int32.ofInt (-1)).toInt := c57
              have f6 := q_f3w f4 f5 (by omega)
              refine And.intro (fun c58 => ?_) (fun c58 => ?_)
              · have c58 : (Int32.ofInt 1000).toInt ≤ w35.toInt := c58
                have y4 : ∀ j : Nat, j < 2048 → 0 ≤ (s53.1 34 j).toInt ∧ (s53.1 34 j).toInt ≤ w35.toInt + 1 := by first | exact (fun j hj => by rw [rfl]; exact y2 j hj) | exact y1
                have y8 : (s53.1 31 3).toInt = 0 ∧ (s53.1 31 4).toInt = 0 ∧ (s53.1 31 5).toInt = 0 := by first | (rw [rfl]; exact y7) | exact y6
                intro v59 e60
                have b61 := vg_add e60 (by omega) (by omega)
                exact ⟨rfl, ⟨v59, rfl, (by omega), (by omega), (by first | exact ⟨f2, fun j hj => by (have h9 := y3 j hj; omega), y9⟩ | exact ⟨q_fI_s (q_f5 f6 f7 (fun j => f8.2.1.1 33 j rfl) (fun j => f8.2.1.1 32 j rfl) (fun j => f8.2.1.1 34 j rfl) (show (s0.1 4 1).toInt ≤ 4 by have h9 := Iv_4_1 i0; omega) rfl (by have h9 : ∀ q : Int32, q.toNatClampNeg = q.toInt.toNat := fun _ => rfl; rw [h9]; omega)) (by omega) (by omega), fun j hj => by (have h9 := y4 j hj; omega), y8⟩ | exact ⟨q_fI_s (q_f4 f6 (by have h9 : ∀ q : Int32, q.toNatClampNeg = q.toInt.toNat := fun _ => rfl; rw [h9]; omega)) (by omega) (by omega), fun j hj => by (have h9 := y4 j hj; omega), y8⟩), i54, k55⟩, (by show (0 + (1001 - v59.toInt) * 1000000000000).toNat < (0 + (1001 - w35.toInt) * 1000000000000).toNat; omega)⟩
              · have c58 : ¬ ((Int32.ofInt 1000).toInt ≤ w35.toInt) := c58
                refine And.intro (Nat.le_of_ble_eq_true rfl) (And.intro ⟨22, a3, rfl, by decide, i54, by omega⟩ ?_)
                intro v62 s64 h63
                have h63 : Iv s64 ∧ Kp s53 s64 ∧ (q_ad s53 s64 22 a3 v62) := h63
                have i65 := h63.1
                have k66 : Kr s0 s64 := Kx.tr k55 (((h63.2.1).pc).cr)
                have q67 := h63.2.2
                have y2 : ∀ j : Nat, j < 2048 → 0 ≤ (s64.1 34 j).toInt ∧ (s64.1 34 j).toInt ≤ w35.toInt + 1 := fun j hj => by rw [h63.2.1.1 34 j rfl]; exact y1 j hj
                have y7 : (s64.1 31 3).toInt = 0 ∧ (s64.1 31 4).toInt = 0 ∧ (s64.1 31 5).toInt = 0 := by rw [h63.2.1.1 31 3 rfl, h63.2.1.1 31 4 rfl, h63.2.1.1 31 5 rfl]; exact y6
                have f7 := q67
                have f8 := h63
                refine And.intro ⟨by omega, by omega⟩ ?_
                intro s68 e69
                have i70 : Iv s68 := Iv.a1 i65 e69 rfl
                have k71 : Kr s0 s68 := Kx.u1 k66 e69 rfl
                have y4 : ∀ j : Nat, j < 2048 → 0 ≤ (s68.1 34 j).toInt ∧ (s68.1 34 j).toInt ≤ w35.toInt + 1 := by first | exact (fun j hj => by rw [e69, vg_u1_ne (a := 34) (k := 32) (by decide)]; exact y2 j hj) | exact y1
                have y8 : (s68.1 31 3).toInt = 0 ∧ (s68.1 31 4).toInt = 0 ∧ (s68.1 31 5).toInt = 0 := by first | (rw [e69, vg_u1_ne (a := 31) (k := 32) (by decide)]; exact y7) | exact y6
                intro v72 e73
                have b74 := vg_add e73 (by omega) (by omega)
                exact ⟨rfl, ⟨v72, rfl, (by omega), (by omega), (by first | exact ⟨f2, fun j hj => by (have h9 := y3 j hj; omega), y9⟩ | exact ⟨q_fI_s (q_f5 f6 f7 (fun j => f8.2.1.1 33 j rfl) (fun j => f8.2.1.1 32 j rfl) (fun j => f8.2.1.1 34 j rfl) (show (s0.1 4 1).toInt ≤ 4 by have h9 := Iv_4_1 i0; omega) e69 (by have h9 : ∀ q : Int32, q.toNatClampNeg = q.toInt.toNat := fun _ => rfl; rw [h9]; omega)) (by omega) (by omega), fun j hj => by (have h9 := y4 j hj; omega), y8⟩ | exact ⟨q_fI_s (q_f4 f6 (by have h9 : ∀ q : Int32, q.toNatClampNeg = q.toInt.toNat := fun _ => rfl; rw [h9]; omega)) (by omega) (by omega), fun j hj => by (have h9 := y4 j hj; omega), y8⟩), i70, k71⟩, (by show (0 + (1001 - v72.toInt) * 1000000000000).toNat < (0 + (1001 - w35.toInt) * 1000000000000).toNat; omega)⟩
            · have c57 : ¬ (v51.toInt = (Int32.ofInt (-1)).toInt) := c57
              refine And.intro (by first | exact Or.inl rfl | exact Or.inr rfl | exact vg_01 (by omega) (by omega)) ?_
              intro s75 e76
              have i77 : Iv s75 := Iv.u1 i54 e76 rfl
              have k78 : Kr s0 s75 := Kx.u1 k55 e76 rfl
              intro s79 e80
              have i81 : Iv s79 := Iv.u1 i77 e80 rfl
              have k82 : Kr s0 s79 := Kx.u1 k78 e80 rfl
              intro v83 e84
              have b85 := vg_sub e84 (by omega) (by omega)
              intro s86 e87
              have i88 : Iv s86 := Iv.u1 i81 e87 rfl
              have k89 : Kr s0 s86 := Kx.u1 k82 e87 rfl
              obtain ⟨v90, e91⟩ : ∃ y, y = s86.1 31 3 := ⟨_, rfl⟩
              have w92 : (Int32.ofInt 1) = v90 := by rw [e91, e87, vg_u1_at (a := 31) (b := 3) (k := 31) (i := 5) (by decide), e80, vg_u1_at (a := 31) (b := 3) (k := 31) (i := 4) (by decide), e76]; exact vg_u1_self.symm
              subst w92
              have b93 := congrArg Int32.toInt e91
              obtain ⟨v94, e95⟩ : ∃ y, y = s86.1 31 4 := ⟨_, rfl⟩
              have w96 : v51 = v94 := by rw [e95, e87, vg_u1_at (a := 31) (b := 4) (k := 31) (i := 5) (by decide), e80]; exact vg_u1_self.symm
              subst w96
              have b97 := congrArg Int32.toInt e95
              obtain ⟨v98, e99⟩ : ∃ y, y = s86.1 31 5 := ⟨_, rfl⟩
              have w100 : v83 = v98 := by rw [e99, e87]; exact vg_u1_self.symm
              subst w100
              have b101 := congrArg Int32.toInt e99
              show Iv s86 ∧ Kr s0 s86 ∧ ((0 ≤ (s86.1 31 4).toInt ∧ 0 ≤ (s86.1 31 5).toInt ∧ (s86.1 31 4).toInt + (s86.1 31 5).toInt ≤ 1000) ∧ q_fR s0 s86 a3)
              exact ⟨i88, k89, (by first | exact ⟨by omega, q_f6 x38.1 (by have h9 : w35.toNatClampNeg = w35.toInt.toNat := rfl; omega) y10.1⟩ | exact ⟨by omega, q_f2w f4.2.1 f4.2.2.1 (by omega) f5 (by omega) e76 e80 e87 (by omega) (by omega) (by omega)⟩)⟩
def o_X9_patternAt : List vg_I := [(0, .aload_n 0, 1, 0, 0, 0, 0), (1, .getfield 41, 3, 373, 9, 5, 0), (4, .ifCond .ne 7, 3, 0, 0, 0, 0), (7, .iconst 0, 1, 0, 0, 0, 0), (8, .goto 19, 3, 0, 0, 0, 0), (11, .aload_n 0, 1, 0, 0, 0, 0), (12, .getfield 11, 3, 366, 9, 0, 0), (15, .aload_n 0, 1, 0, 0, 0, 0), (16, .getfield 37, 3, 371, 9, 4, 0), (19, .iload_n 1, 1, 0, 0, 0, 0), (20, .aload_n 0, 1, 0, 0, 0, 0), (21, .getfield 41, 3, 373, 9, 5, 0), (24, .irem, 1, 0, 0, 0, 0), (25, .iadd, 1, 0, 0, 0, 0), (26, .iaload, 1, 0, 0, 0, 0), (27, .ireturn, 1, 0, 0, 0, 0)]
set_option maxRecDepth 100000 in
set_option maxHeartbeats 4000000 in
theorem c_X9_patternAt (l : Launch) (G : vg_G) (hp : vg_Hp G) : vg_Ct l G vg_sh r_X9_patternAt := by
  refine vg_meth hp vg_sh_ok r_X9_patternAt k_X9_patternAt rfl (fun h => by cases h) o_X9_patternAt [] false (by decide +kernel) (by decide +kernel) ⟨_, _, rfl, rfl⟩ (fun _ h => absurd h List.not_mem_nil) (fun h => by cases h) 600 ?_
  intro as s0 hpre
  obtain ⟨r, a1, rfl, hr, i0, p0⟩ := hpre
  have ra1 := vg_rng a1
  simp only [List.mem_cons, List.not_mem_nil, or_false] at hr
  rcases hr with rfl
  ·
    refine ⟨Nat.le_of_ble_eq_true rfl, [], ?_, fun _ h => absurd h List.not_mem_nil⟩
    ·
      intro v1 e2
      have g3 : s0.1 31 5 = v1 := by rw [e2]
      have b4 : v1.toInt = (s0.1 31 5).toInt := congrArg Int32.toInt e2
      refine And.intro (fun c5 => ?_) (fun c5 => ?_)
      · have c5 : ¬ v1.toInt = 0 := c5
        intro v6 e7
        have g8 : s0.1 31 4 = v6 := by rw [e7]
        have b9 : v6.toInt = (s0.1 31 4).toInt := congrArg Int32.toInt e7
        intro v10 e11
        have w12 : v1 = v10 := by rw [e11, g3]
        subst w12
        refine And.intro (by omega) ?_
        intro v13 e14
        have b15 := (vg_rem e14 (by omega) (by omega)).2
        have y0 := (vg_rem e14 (by omega) (by omega)).1
        intro v16 e17
        have b18 := vg_add e17 (by omega) (by omega)
        have y1 := e17
        refine And.intro ⟨by omega, by omega⟩ ?_
        intro v19 e20
        show s0 = s0 ∧ (v19 = (q_pf (s0.1 32) (s0.1 31 4).toInt (s0.1 31 5).toInt) a1.toNatClampNeg)
        exact ⟨rfl, (by rw [e20]; exact q_pf_at y0 y1 (by omega) (by omega) (by omega) (by omega))⟩
      · have c5 : ¬ (¬ v1.toInt = 0) := c5
        exfalso
        omega
def o_X9_total : List vg_I := [(0, .iconst 0, 1, 0, 0, 0, 0), (1, .istore_n 1, 1, 0, 0, 0, 0), (2, .iconst 0, 1, 0, 0, 0, 0), (3, .istore_n 2, 1, 0, 0, 0, 0), (4, .iload_n 2, 1, 0, 0, 0, 0), (5, .aload_n 0, 1, 0, 0, 0, 0), (6, .getfield 41, 3, 373, 9, 5, 0), (9, .if_icmp .ge 17, 3, 0, 0, 0, 0), (12, .iload_n 1, 1, 0, 0, 0, 0), (13, .aload_n 0, 1, 0, 0, 0, 0), (14, .iload_n 2, 1, 0, 0, 0, 0), (15, .invokevirtual 54, 3, 0, 9, 1, 985), (18, .iadd, 1, 0, 0, 0, 0), (19, .istore_n 1, 1, 0, 0, 0, 0), (20, .iinc 2 1, 3, 0, 0, 0, 0), (23, .goto (-19), 3, 0, 0, 0, 0), (26, .iload_n 1, 1, 0, 0, 0, 0), (27, .ireturn, 1, 0, 0, 0, 0)]
set_option maxRecDepth 100000 in
set_option maxHeartbeats 4000000 in
theorem c_X9_total (l : Launch) (G : vg_G) (hp : vg_Hp G) : vg_Ct l G vg_sh r_X9_total := by
  refine vg_meth hp vg_sh_ok r_X9_total k_X9_total rfl (fun h => by cases h) o_X9_total [r_X9_patternAt] false (by decide +kernel) (by decide +kernel) ⟨_, _, rfl, rfl⟩ (List.forall_mem_cons.mpr ⟨⟨c_X9_patternAt l G hp, Nat.le_of_ble_eq_true rfl, Nat.le_of_ble_eq_true rfl⟩, fun _ h => absurd h List.not_mem_nil⟩) (fun h => by cases h) 600 ?_
  intro as s0 hpre
  obtain ⟨r, rfl, hr, i0, p0⟩ := hpre
  simp only [List.mem_cons, List.not_mem_nil, or_false] at hr
  rcases hr with rfl
  ·
    have z0 : (Int32.ofInt 0).toInt = 0 := by decide
    have z1 : (Int32.ofInt 1).toInt = 1 := by decide
    refine ⟨Nat.le_of_ble_eq_true rfl, [(4, [true, true, true], (fun L t => ∃ (x1 : Int32) (x2 : Int32), L = [some (.ref 31), some (.int x1), some (.int x2)] ∧ (0 : Int) ≤ x2.toInt ∧ x2.toInt ≤ (1000 : Int) ∧ (x1 = vg_rs (q_pf (s0.1 32) (s0.1 31 4).toInt (s0.1 31 5).toInt) x2.toNatClampNeg ∧ x2.toInt ≤ (s0.1 31 5).toInt) ∧ t = s0), (fun L _ => (0 + (1000 - (vg_li L 2).toInt) * 1000000000000).toNat))], ?_, List.forall_mem_cons.mpr ⟨?_, fun _ h => absurd h List.not_mem_nil⟩⟩
    ·
      exact ⟨rfl, ⟨(Int32.ofInt 0), (Int32.ofInt 0), rfl, (by omega), (by omega), (by first | exact ⟨rfl, by omega⟩ | exact ⟨vg_rs_step None.1 None None (by omega) (by omega), by omega⟩), rfl⟩, trivial⟩
    ·
      intro L s6 hL
      obtain ⟨w1, w2, rfl, b3, b4, x5, q9⟩ := hL
      have q9 := q9.symm
      subst q9
      intro v10 e11
      have g12 : s0.1 31 5 = v10 := by rw [e11]
      have b13 : v10.toInt = (s0.1 31 5).toInt := congrArg Int32.toInt e11
      refine And.intro (fun c14 => ?_) (fun c14 => ?_)
      · have c14 : v10.toInt ≤ w2.toInt := c14
        show s0 = s0 ∧ (w1 = vg_rs (q_pf (s0.1 32) (s0.1 31 4).toInt (s0.1 31 5).toInt) (s0.1 31 5).toNatClampNeg)
        exact ⟨rfl, (q_rs_at x5.1 (by omega))⟩
      · have c14 : ¬ (v10.toInt ≤ w2.toInt) := c14
        refine And.intro (Nat.le_of_ble_eq_true rfl) (And.intro ⟨31, w2, rfl, by decide, i0, by omega⟩ ?_)
        intro v15 s17 h16
        have h16 : s17 = s0 ∧ (v15 = (q_pf (s0.1 32) (s0.1 31 4).toInt (s0.1 31 5).toInt) w2.toNatClampNeg) := h16
        have q20 := h16.1.symm
        subst q20
        have q21 := h16.2
        intro v22 e23
        intro v24 e25
        have b26 := vg_add e25 (by omega) (by omega)
        exact ⟨rfl, ⟨v22, v24, rfl, (by omega), (by omega), (by first | exact ⟨rfl, by omega⟩ | exact ⟨vg_rs_step x5.1 q21 e23 (by omega) (by omega), by omega⟩), rfl⟩, (by show (0 + (1000 - v24.toInt) * 1000000000000).toNat < (0 + (1000 - w2.toInt) * 1000000000000).toNat; omega)⟩
def o_X9_unlike : List vg_I := [(0, .iconst 0, 1, 0, 0, 0, 0), (1, .istore_n 1, 1, 0, 0, 0, 0), (2, .iconst 0, 1, 0, 0, 0, 0), (3, .istore_n 2, 1, 0, 0, 0, 0), (4, .iload_n 2, 1, 0, 0, 0, 0), (5, .aload_n 0, 1, 0, 0, 0, 0), (6, .getfield 41, 3, 373, 9, 5, 0), (9, .if_icmp .ge 19, 3, 0, 0, 0, 0), (12, .iload_n 1, 1, 0, 0, 0, 0), (13, .iconst 1, 1, 0, 0, 0, 0), (14, .aload_n 0, 1, 0, 0, 0, 0), (15, .iload_n 2, 1, 0, 0, 0, 0), (16, .invokevirtual 54, 3, 0, 9, 1, 985), (19, .ishl, 1, 0, 0, 0, 0), (20, .ior, 1, 0, 0, 0, 0), (21, .istore_n 1, 1, 0, 0, 0, 0), (22, .iinc 2 1, 3, 0, 0, 0, 0), (25, .goto (-21), 3, 0, 0, 0, 0), (28, .iload_n 1, 1, 0, 0, 0, 0), (29, .invokestatic 57, 3, 1, 1, 1, 993), (32, .ireturn, 1, 0, 0, 0, 0)]
set_option maxRecDepth 100000 in
set_option maxHeartbeats 4000000 in
theorem c_X9_unlike (l : Launch) (G : vg_G) (hp : vg_Hp G) : vg_Ct l G vg_sh r_X9_unlike := by
  refine vg_meth hp vg_sh_ok r_X9_unlike k_X9_unlike rfl (fun h => by cases h) o_X9_unlike [r_X9_patternAt, r_J6_bitCount_0f7a4] false (by decide +kernel) (by decide +kernel) ⟨_, _, rfl, rfl⟩ (List.forall_mem_cons.mpr ⟨⟨c_X9_patternAt l G hp, Nat.le_of_ble_eq_true rfl, Nat.le_of_ble_eq_true rfl⟩, List.forall_mem_cons.mpr ⟨⟨c_J6_bitCount_0f7a4 l G hp, Nat.le_of_ble_eq_true rfl, Nat.le_of_ble_eq_true rfl⟩, fun _ h => absurd h List.not_mem_nil⟩⟩) (fun h => by cases h) 600 ?_
  intro as s0 hpre
  obtain ⟨r, rfl, hr, i0, p0⟩ := hpre
  simp only [List.mem_cons, List.not_mem_nil, or_false] at hr
  rcases hr with rfl
  ·
    have z0 : (Int32.ofInt 0).toInt = 0 := by decide
    have z1 : (Int32.ofInt 1).toInt = 1 := by decide
    refine ⟨Nat.le_of_ble_eq_true rfl, [(4, [true, true, true], (fun L t => ∃ (x1 : Int32) (x2 : Int32), L = [some (.ref 31), some (.int x1), some (.int x2)] ∧ (0 : Int) ≤ x2.toInt ∧ x2.toInt ≤ (1000 : Int) ∧ (x1 = q_or (q_pf (s0.1 32) (s0.1 31 4).toInt (s0.1 31 5).toInt) x2.toNatClampNeg ∧ x2.toInt ≤ (s0.1 31 5).toInt) ∧ t = s0), (fun L _ => (0 + (1000 - (vg_li L 2).toInt) * 1000000000000).toNat))], ?_, List.forall_mem_cons.mpr ⟨?_, fun _ h => absurd h List.not_mem_nil⟩⟩
    ·
      exact ⟨rfl, ⟨(Int32.ofInt 0), (Int32.ofInt 0), rfl, (by omega), (by omega), (by first | exact ⟨rfl, by omega⟩ | exact ⟨q_or1 None.1 y0 y1 y2 (by omega) (by omega), by omega⟩), rfl⟩, trivial⟩
    ·
      intro L s6 hL
      obtain ⟨w1, w2, rfl, b3, b4, x5, q9⟩ := hL
      have q9 := q9.symm
      subst q9
      intro v10 e11
      have g12 : s0.1 31 5 = v10 := by rw [e11]
      have b13 : v10.toInt = (s0.1 31 5).toInt := congrArg Int32.toInt e11
      refine And.intro (fun c14 => ?_) (fun c14 => ?_)
      · have c14 : v10.toInt ≤ w2.toInt := c14
        refine And.intro (Nat.le_of_ble_eq_true rfl) (And.intro ⟨w1, rfl, trivial⟩ ?_)
        intro v15 s17 h16
        have h16 : s17 = s0 ∧ (v15 = q_bcn w1) := h16
        have q20 := h16.1.symm
        subst q20
        have q21 := h16.2
        show s0 = s0 ∧ (v15 = q_bcn (q_or (q_pf (s0.1 32) (s0.1 31 4).toInt (s0.1 31 5).toInt) (s0.1 31 5).toNatClampNeg))
        exact ⟨rfl, (by rw [q21, q_or_at x5.1 (show w2.toInt = (s0.1 31 5).toInt by omega)])⟩
      · have c14 : ¬ (v10.toInt ≤ w2.toInt) := c14
        refine And.intro (Nat.le_of_ble_eq_true rfl) (And.intro ⟨31, w2, rfl, by decide, i0, by omega⟩ ?_)
        intro v22 s24 h23
        have h23 : s24 = s0 ∧ (v22 = (q_pf (s0.1 32) (s0.1 31 4).toInt (s0.1 31 5).toInt) w2.toNatClampNeg) := h23
        have q27 := h23.1.symm
        subst q27
        have q28 := h23.2
        have y0 := q28
        intro v29 e30
        have y1 := e30
        intro v31 e32
        have y2 := e32
        intro v33 e34
        have b35 := vg_add e34 (by omega) (by omega)
        exact ⟨rfl, ⟨v31, v33, rfl, (by omega), (by omega), (by first | exact ⟨rfl, by omega⟩ | exact ⟨q_or1 x5.1 y0 y1 y2 (by omega) (by omega), by omega⟩), rfl⟩, (by show (0 + (1000 - v33.toInt) * 1000000000000).toNat < (0 + (1000 - w2.toInt) * 1000000000000).toNat; omega)⟩
def o_X9_changes : List vg_I := [(0, .iconst 0, 1, 0, 0, 0, 0), (1, .istore_n 1, 1, 0, 0, 0, 0), (2, .iconst 0, 1, 0, 0, 0, 0), (3, .istore_n 2, 1, 0, 0, 0, 0), (4, .iload_n 2, 1, 0, 0, 0, 0), (5, .aload_n 0, 1, 0, 0, 0, 0), (6, .getfield 41, 3, 373, 9, 5, 0), (9, .if_icmp .ge 27, 3, 0, 0, 0, 0), (12, .aload_n 0, 1, 0, 0, 0, 0), (13, .iload_n 2, 1, 0, 0, 0, 0), (14, .invokevirtual 54, 3, 0, 9, 1, 985), (17, .aload_n 0, 1, 0, 0, 0, 0), (18, .iload_n 2, 1, 0, 0, 0, 0), (19, .iconst 1, 1, 0, 0, 0, 0), (20, .iadd, 1, 0, 0, 0, 0), (21, .invokevirtual 54, 3, 0, 9, 1, 985), (24, .if_icmp .eq 6, 3, 0, 0, 0, 0), (27, .iinc 1 1, 3, 0, 0, 0, 0), (30, .iinc 2 1, 3, 0, 0, 0, 0), (33, .goto (-29), 3, 0, 0, 0, 0), (36, .iload_n 1, 1, 0, 0, 0, 0), (37, .ireturn, 1, 0, 0, 0, 0)]
set_option maxRecDepth 100000 in
set_option maxHeartbeats 4000000 in
theorem c_X9_changes (l : Launch) (G : vg_G) (hp : vg_Hp G) : vg_Ct l G vg_sh r_X9_changes := by
  refine vg_meth hp vg_sh_ok r_X9_changes k_X9_changes rfl (fun h => by cases h) o_X9_changes [r_X9_patternAt] false (by decide +kernel) (by decide +kernel) ⟨_, _, rfl, rfl⟩ (List.forall_mem_cons.mpr ⟨⟨c_X9_patternAt l G hp, Nat.le_of_ble_eq_true rfl, Nat.le_of_ble_eq_true rfl⟩, fun _ h => absurd h List.not_mem_nil⟩) (fun h => by cases h) 600 ?_
  intro as s0 hpre
  obtain ⟨r, rfl, hr, i0, p0⟩ := hpre
  simp only [List.mem_cons, List.not_mem_nil, or_false] at hr
  rcases hr with rfl
  ·
    have z0 : (Int32.ofInt 0).toInt = 0 := by decide
    have z1 : (Int32.ofInt 1).toInt = 1 := by decide
    refine ⟨Nat.le_of_ble_eq_true rfl, [(4, [true, true, true], (fun L t => ∃ (x1 : Int32) (x2 : Int32), L = [some (.ref 31), some (.int x1), some (.int x2)] ∧ (0 : Int) ≤ x1.toInt ∧ x1.toInt ≤ (1000 : Int) ∧ (0 : Int) ≤ x2.toInt ∧ x2.toInt ≤ (1000 : Int) ∧ (x1.toInt = (q_ch (q_pf (s0.1 32) (s0.1 31 4).toInt (s0.1 31 5).toInt) x2.toNatClampNeg : Int) ∧ x1.toInt ≤ x2.toInt ∧ x2.toInt ≤ (s0.1 31 5).toInt) ∧ t = s0), (fun L _ => (1000 - (vg_li L 2).toInt).toNat))], ?_, List.forall_mem_cons.mpr ⟨?_, fun _ h => absurd h List.not_mem_nil⟩⟩
    ·
      exact ⟨rfl, ⟨(Int32.ofInt 0), (Int32.ofInt 0), rfl, (by omega), (by omega), (by omega), (by omega), (by first | exact ⟨by rw [q_n0]; exact z0, by omega, by omega⟩ | exact ⟨q_ch1 None.1 y0 y1 (by omega) (by omega) (by omega) (by omega), by omega, by omega⟩), rfl⟩, trivial⟩
    ·
      intro L s8 hL
      obtain ⟨w1, w4, rfl, b2, b3, b5, b6, x7, q11⟩ := hL
      have q11 := q11.symm
      subst q11
      intro v12 e13
      have g14 : s0.1 31 5 = v12 := by rw [e13]
      have b15 : v12.toInt = (s0.1 31 5).toInt := congrArg Int32.toInt e13
      refine And.intro (fun c16 => ?_) (fun c16 => ?_)
      · have c16 : v12.toInt ≤ w4.toInt := c16
        show s0 = s0 ∧ (w1.toInt = (q_ch (q_pf (s0.1 32) (s0.1 31 4).toInt (s0.1 31 5).toInt) (s0.1 31 5).toNatClampNeg : Int))
        exact ⟨rfl, (q_ch_at x7.1 (by omega))⟩
      · have c16 : ¬ (v12.toInt ≤ w4.toInt) := c16
        refine And.intro (Nat.le_of_ble_eq_true rfl) (And.intro ⟨31, w4, rfl, by decide, i0, by omega⟩ ?_)
        intro v17 s19 h18
        have h18 : s19 = s0 ∧ (v17 = (q_pf (s0.1 32) (s0.1 31 4).toInt (s0.1 31 5).toInt) w4.toNatClampNeg) := h18
        have q22 := h18.1.symm
        subst q22
        have q23 := h18.2
        have y0 := q23
        intro v24 e25
        have b26 := vg_add e25 (by omega) (by omega)
        refine And.intro (Nat.le_of_ble_eq_true rfl) (And.intro ⟨31, v24, rfl, by decide, i0, by omega⟩ ?_)
        intro v27 s29 h28
        have h28 : s29 = s0 ∧ (v27 = (q_pf (s0.1 32) (s0.1 31 4).toInt (s0.1 31 5).toInt) v24.toNatClampNeg) := h28
        have q32 := h28.1.symm
        subst q32
        have q33 := h28.2
        have y1 := q33
        refine And.intro (fun c34 => ?_) (fun c34 => ?_)
        · have c34 : v17.toInt = v27.toInt := c34
          intro v35 e36
          have b37 := vg_add e36 (by omega) (by omega)
          exact ⟨rfl, ⟨w1, v35, rfl, (by omega), (by omega), (by omega), (by omega), (by first | exact ⟨by rw [q_n0]; exact z0, by omega, by omega⟩ | exact ⟨q_ch1 x7.1 y0 y1 (by omega) (by omega) (by omega) (by omega), by omega, by omega⟩), rfl⟩, (by show (1000 - v35.toInt).toNat < (1000 - w4.toInt).toNat; omega)⟩
        · have c34 : ¬ (v17.toInt = v27.toInt) := c34
          intro v38 e39
          have b40 := vg_add e39 (by omega) (by omega)
          intro v41 e42
          have b43 := vg_add e42 (by omega) (by omega)
          exact ⟨rfl, ⟨v38, v41, rfl, (by omega), (by omega), (by omega), (by omega), (by first | exact ⟨by rw [q_n0]; exact z0, by omega, by omega⟩ | exact ⟨q_ch1 x7.1 y0 y1 (by omega) (by omega) (by omega) (by omega), by omega, by omega⟩), rfl⟩, (by show (1000 - v41.toInt).toNat < (1000 - w4.toInt).toNat; omega)⟩
def o_X9_longestRun : List vg_I := [(0, .aload_n 0, 1, 0, 0, 0, 0), (1, .invokevirtual 62, 3, 0, 9, 0, 1007), (4, .ifCond .ne 8, 3, 0, 0, 0, 0), (7, .aload_n 0, 1, 0, 0, 0, 0), (8, .getfield 41, 3, 373, 9, 5, 0), (11, .ireturn, 1, 0, 0, 0, 0), (12, .iconst 1, 1, 0, 0, 0, 0), (13, .istore_n 1, 1, 0, 0, 0, 0), (14, .iconst 1, 1, 0, 0, 0, 0), (15, .istore_n 2, 1, 0, 0, 0, 0), (16, .iconst 1, 1, 0, 0, 0, 0), (17, .istore_n 3, 1, 0, 0, 0, 0), (18, .iload_n 3, 1, 0, 0, 0, 0), (19, .iconst 2, 1, 0, 0, 0, 0), (20, .aload_n 0, 1, 0, 0, 0, 0), (21, .getfield 41, 3, 373, 9, 5, 0), (24, .imul, 1, 0, 0, 0, 0), (25, .if_icmp .ge 38, 3, 0, 0, 0, 0), (28, .aload_n 0, 1, 0, 0, 0, 0), (29, .iload_n 3, 1, 0, 0, 0, 0), (30, .invokevirtual 54, 3, 1, 9, 1, 985), (33, .aload_n 0, 1, 0, 0, 0, 0), (34, .iload_n 3, 1, 0, 0, 0, 0), (35, .iconst 1, 1, 0, 0, 0, 0), (36, .isub, 1, 0, 0, 0, 0), (37, .invokevirtual 54, 3, 1, 9, 1, 985), (40, .if_icmp .ne 9, 3, 0, 0, 0, 0), (43, .iload_n 2, 1, 0, 0, 0, 0), (44, .iconst 1, 1, 0, 0, 0, 0), (45, .iadd, 1, 0, 0, 0, 0), (46, .goto 4, 3, 0, 0, 0, 0), (49, .iconst 1, 1, 0, 0, 0, 0), (50, .istore_n 2, 1, 0, 0, 0, 0), (51, .iload_n 1, 1, 0, 0, 0, 0), (52, .iload_n 2, 1, 0, 0, 0, 0), (53, .invokestatic 66, 3, 2, 1, 2, 1008), (56, .istore_n 1, 1, 0, 0, 0, 0), (57, .iinc 3 1, 3, 0, 0, 0, 0), (60, .goto (-42), 3, 0, 0, 0, 0), (63, .iload_n 1, 1, 0, 0, 0, 0), (64, .ireturn, 1, 0, 0, 0, 0)]
set_option maxRecDepth 100000 in
set_option maxHeartbeats 4000000 in
theorem c_X9_longestRun (l : Launch) (G : vg_G) (hp : vg_Hp G) : vg_Ct l G vg_sh r_X9_longestRun := by
  refine vg_meth hp vg_sh_ok r_X9_longestRun k_X9_longestRun rfl (fun h => by cases h) o_X9_longestRun [r_X9_changes, r_X9_patternAt, r_J9_max_7cf53] false (by decide +kernel) (by decide +kernel) ⟨_, _, rfl, rfl⟩ (List.forall_mem_cons.mpr ⟨⟨c_X9_changes l G hp, Nat.le_of_ble_eq_true rfl, Nat.le_of_ble_eq_true rfl⟩, List.forall_mem_cons.mpr ⟨⟨c_X9_patternAt l G hp, Nat.le_of_ble_eq_true rfl, Nat.le_of_ble_eq_true rfl⟩, List.forall_mem_cons.mpr ⟨⟨c_J9_max_7cf53 l G hp, Nat.le_of_ble_eq_true rfl, Nat.le_of_ble_eq_true rfl⟩, fun _ h => absurd h List.not_mem_nil⟩⟩⟩) (fun h => by cases h) 600 ?_
  intro as s0 hpre
  obtain ⟨r, rfl, hr, i0, p0⟩ := hpre
  simp only [List.mem_cons, List.not_mem_nil, or_false] at hr
  rcases hr with rfl
  ·
    have z1 : (Int32.ofInt 1).toInt = 1 := by decide
    have z2 : (Int32.ofInt 2).toInt = 2 := by decide
    refine ⟨Nat.le_of_ble_eq_true rfl, [(18, [true, true, true, true], (fun L t => ∃ (x1 : Int32) (x2 : Int32) (x3 : Int32), L = [some (.ref 31), some (.int x1), some (.int x2), some (.int x3)] ∧ (1 : Int) ≤ x1.toInt ∧ x1.toInt ≤ (2000 : Int) ∧ (1 : Int) ≤ x2.toInt ∧ x2.toInt ≤ (2000 : Int) ∧ (1 : Int) ≤ x3.toInt ∧ x3.toInt ≤ (2000 : Int) ∧ (q_lcW (q_pf (s0.1 32) (s0.1 31 4).toInt (s0.1 31 5).toInt) x3 x2 x1 ∧ x3.toInt ≤ 2 * (s0.1 31 5).toInt ∧ ¬ q_ch (q_pf (s0.1 32) (s0.1 31 4).toInt (s0.1 31 5).toInt) (s0.1 31 5).toNatClampNeg = 0) ∧ t = s0), (fun L _ => (2000 - (vg_li L 3).toInt).toNat))], ?_, List.forall_mem_cons.mpr ⟨?_, fun _ h => absurd h List.not_mem_nil⟩⟩
    ·
      refine And.intro (Nat.le_of_ble_eq_true rfl) (And.intro ⟨31, rfl, by decide, i0, by omega⟩ ?_)
      intro v1 s3 h2
      have h2 : s3 = s0 ∧ (v1.toInt = (q_ch (q_pf (s0.1 32) (s0.1 31 4).toInt (s0.1 31 5).toInt) (s0.1 31 5).toNatClampNeg : Int)) := h2
      have q6 := h2.1.symm
      subst q6
      have q7 := h2.2
      have yc := q7
      refine And.intro (fun c8 => ?_) (fun c8 => ?_)
      · have c8 : ¬ v1.toInt = 0 := c8
        exact ⟨rfl, ⟨(Int32.ofInt 1), (Int32.ofInt 1), (Int32.ofInt 1), rfl, (by omega), (by omega), (by omega), (by omega), (by omega), (by omega), (by first | exact ⟨q_lw0, by omega, by omega⟩ | exact ⟨q_lw1 None.1 y0 y1 (by omega) (by omega) q7 (by omega), by omega, None.2.2⟩), rfl⟩, trivial⟩
      · have c8 : ¬ (¬ v1.toInt = 0) := c8
        intro v9 e10
        have g11 : s0.1 31 5 = v9 := by rw [e10]
        have b12 : v9.toInt = (s0.1 31 5).toInt := congrArg Int32.toInt e10
        show s0 = s0 ∧ (q_lcE (q_pf (s0.1 32) (s0.1 31 4).toInt (s0.1 31 5).toInt) (s0.1 31 5).toNatClampNeg v9.toNatClampNeg ∧ 0 ≤ v9.toInt)
        exact ⟨rfl, (by first | exact ⟨q_lw3 yc (by omega) (by omega), by omega⟩ | exact ⟨q_lw2 None.1 None.2.2 (by omega) (by omega), by omega⟩)⟩
    ·
      intro L s23 hL
      obtain ⟨w13, w16, w19, rfl, b14, b15, b17, b18, b20, b21, x22, q26⟩ := hL
      have q26 := q26.symm
      subst q26
      intro v27 e28
      have g29 : s0.1 31 5 = v27 := by rw [e28]
      have b30 : v27.toInt = (s0.1 31 5).toInt := congrArg Int32.toInt e28
      intro v31 e32
      have b33 : v31.toInt = (2) * v27.toInt := vg_mulL e32 (by omega) (by omega) (by omega)
      have yw := x22.1.2
      refine And.intro (fun c34 => ?_) (fun c34 => ?_)
      · have c34 : v31.toInt ≤ w19.toInt := c34
        show s0 = s0 ∧ (q_lcE (q_pf (s0.1 32) (s0.1 31 4).toInt (s0.1 31 5).toInt) (s0.1 31 5).toNatClampNeg w13.toNatClampNeg ∧ 0 ≤ w13.toInt)
        exact ⟨rfl, (by first | exact ⟨q_lw3 yc (by omega) (by omega), by omega⟩ | exact ⟨q_lw2 x22.1 x22.2.2 (by omega) (by omega), by omega⟩)⟩
      · have c34 : ¬ (v31.toInt ≤ w19.toInt) := c34
        refine And.intro (Nat.le_of_ble_eq_true rfl) (And.intro ⟨31, w19, rfl, by decide, i0, by omega⟩ ?_)
        intro v35 s37 h36
        have h36 : s37 = s0 ∧ (v35 = (q_pf (s0.1 32) (s0.1 31 4).toInt (s0.1 31 5).toInt) w19.toNatClampNeg) := h36
        have q40 := h36.1.symm
        subst q40
        have q41 := h36.2
        have y0 := q41
        intro v42 e43
        have b44 := vg_sub e43 (by omega) (by omega)
        refine And.intro (Nat.le_of_ble_eq_true rfl) (And.intro ⟨31, v42, rfl, by decide, i0, by omega⟩ ?_)
        intro v45 s47 h46
        have h46 : s47 = s0 ∧ (v45 = (q_pf (s0.1 32) (s0.1 31 4).toInt (s0.1 31 5).toInt) v42.toNatClampNeg) := h46
        have q50 := h46.1.symm
        subst q50
        have q51 := h46.2
        have y1 := q51
        refine And.intro (fun c52 => ?_) (fun c52 => ?_)
        · have c52 : ¬ v35.toInt = v45.toInt := c52
          refine And.intro (Nat.le_of_ble_eq_true rfl) (And.intro ⟨w13, (Int32.ofInt 1), rfl, trivial⟩ ?_)
          intro v53 s55 h54
          have h54 : s55 = s0 ∧ (w13.toInt ≤ v53.toInt ∧ (Int32.ofInt 1).toInt ≤ v53.toInt ∧ (v53.toInt = w13.toInt ∨ v53.toInt = (Int32.ofInt 1).toInt)) := h54
          have q58 := h54.1.symm
          subst q58
          have q59 := h54.2
          intro v60 e61
          have b62 := vg_add e61 (by omega) (by omega)
          exact ⟨rfl, ⟨v53, (Int32.ofInt 1), v60, rfl, (by omega), (by omega), (by omega), (by omega), (by omega), (by omega), (by first | exact ⟨q_lw0, by omega, by omega⟩ | exact ⟨q_lw1 x22.1 y0 y1 (by omega) (by omega) q59 (by omega), by omega, x22.2.2⟩), rfl⟩, (by show (2000 - v60.toInt).toNat < (2000 - w19.toInt).toNat; omega)⟩
        · have c52 : ¬ (¬ v35.toInt = v45.toInt) := c52
          intro v63 e64
          have b65 := vg_add e64 (by omega) (by omega)
          refine And.intro (Nat.le_of_ble_eq_true rfl) (And.intro ⟨w13, v63, rfl, trivial⟩ ?_)
          intro v66 s68 h67
          have h67 : s68 = s0 ∧ (w13.toInt ≤ v66.toInt ∧ v63.toInt ≤ v66.toInt ∧ (v66.toInt = w13.toInt ∨ v66.toInt = v63.toInt)) := h67
          have q71 := h67.1.symm
          subst q71
          have q72 := h67.2
          intro v73 e74
          have b75 := vg_add e74 (by omega) (by omega)
          exact ⟨rfl, ⟨v66, v63, v73, rfl, (by omega), (by omega), (by omega), (by omega), (by omega), (by omega), (by first | exact ⟨q_lw0, by omega, by omega⟩ | exact ⟨q_lw1 x22.1 y0 y1 (by omega) (by omega) q72 (by omega), by omega, x22.2.2⟩), rfl⟩, (by show (2000 - v73.toInt).toNat < (2000 - w19.toInt).toNat; omega)⟩
