def o_X9_cellOf : List vg_I := [(0, .iconst 0, 1, 0, 0, 0, 0), (1, .istore_n 2, 1, 0, 0, 0, 0), (2, .iconst 0, 1, 0, 0, 0, 0), (3, .istore_n 3, 1, 0, 0, 0, 0), (4, .iload_n 3, 1, 0, 0, 0, 0), (5, .bipush 10, 2, 0, 0, 0, 0), (7, .if_icmp .ge 33, 3, 0, 0, 0, 0), (10, .iload_n 2, 1, 0, 0, 0, 0), (11, .aload_n 0, 1, 0, 0, 0, 0), (12, .getfield 17, 3, 367, 9, 1, 0), (15, .iload_n 1, 1, 0, 0, 0, 0), (16, .bipush 10, 2, 0, 0, 0, 0), (18, .imul, 1, 0, 0, 0, 0), (19, .iload_n 3, 1, 0, 0, 0, 0), (20, .iadd, 1, 0, 0, 0, 0), (21, .iaload, 1, 0, 0, 0, 0), (22, .ixor, 1, 0, 0, 0, 0), (23, .ldc 79, 2, 975, 0, 0, -1640531535), (25, .imul, 1, 0, 0, 0, 0), (26, .istore_n 2, 1, 0, 0, 0, 0), (27, .iload_n 2, 1, 0, 0, 0, 0), (28, .iload_n 2, 1, 0, 0, 0, 0), (29, .bipush 15, 2, 0, 0, 0, 0), (31, .iushr, 1, 0, 0, 0, 0), (32, .ixor, 1, 0, 0, 0, 0), (33, .istore_n 2, 1, 0, 0, 0, 0), (34, .iinc 3 1, 3, 0, 0, 0, 0), (37, .goto (-33), 3, 0, 0, 0, 0), (40, .iload_n 2, 1, 0, 0, 0, 0), (41, .sipush 2047, 3, 0, 0, 0, 0), (44, .iand, 1, 0, 0, 0, 0), (45, .ireturn, 1, 0, 0, 0, 0)]
set_option maxRecDepth 100000 in
set_option maxHeartbeats 4000000 in
theorem c_X9_cellOf (l : Launch) (G : vg_G) (hp : vg_Hp G) : vg_Ct l G vg_sh r_X9_cellOf := by
  refine vg_meth hp vg_sh_ok r_X9_cellOf k_X9_cellOf rfl (fun h => by cases h) o_X9_cellOf [] false (by decide +kernel) (by decide +kernel) ⟨_, _, rfl, rfl⟩ (fun _ h => absurd h List.not_mem_nil) (fun h => by cases h) 600 ?_
  intro as s0 hpre
  obtain ⟨r, a1, rfl, hr, i0, p0⟩ := hpre
  simp only [List.mem_cons, List.not_mem_nil, or_false] at hr
  rcases hr with rfl
  ·
    have zm1640531535 : (Int32.ofInt (-1640531535)).toInt = -1640531535 := by decide
    have z0 : (Int32.ofInt 0).toInt = 0 := by decide
    have z1 : (Int32.ofInt 1).toInt = 1 := by decide
    have z10 : (Int32.ofInt 10).toInt = 10 := by decide
    have z15 : (Int32.ofInt 15).toInt = 15 := by decide
    have z2047 : (Int32.ofInt 2047).toInt = 2047 := by decide
    refine ⟨Nat.le_of_ble_eq_true rfl, [(4, [true, true, true, true], (fun L t => ∃ (x2 : Int32) (x3 : Int32), L = [some (.ref 31), some (.int a1), some (.int x2), some (.int x3)] ∧ (0 : Int) ≤ x3.toInt ∧ x3.toInt ≤ (10 : Int) ∧ t = s0), (fun L _ => (0 + (10 - (vg_li L 3).toInt) * 1000000000000).toNat))], ?_, List.forall_mem_cons.mpr ⟨?_, fun _ h => absurd h List.not_mem_nil⟩⟩
    ·
      exact ⟨rfl, ⟨(Int32.ofInt 0), (Int32.ofInt 0), rfl, (by omega), (by omega), rfl⟩, trivial⟩
    ·
      intro L s5 hL
      obtain ⟨w1, w2, rfl, b3, b4, q8⟩ := hL
      have q8 := q8.symm
      subst q8
      refine And.intro (fun c9 => ?_) (fun c9 => ?_)
      · have c9 : (Int32.ofInt 10).toInt ≤ w2.toInt := c9
        intro v10 e11
        have b12 := vg_and e11 (by omega)
        show s0 = s0 ∧ (0 ≤ v10.toInt ∧ v10.toInt ≤ 2047)
        exact ⟨rfl, (by first | trivial | omega | assumption)⟩
      · have c9 : ¬ ((Int32.ofInt 10).toInt ≤ w2.toInt) := c9
        intro v13 e14
        have b15 : v13.toInt = a1.toInt * (10) := vg_mulR e14 (by omega) (by omega) (by omega)
        intro v16 e17
        have b18 := vg_add e17 (by omega) (by omega)
        refine And.intro ⟨by omega, by omega⟩ ?_
        intro v19 e20
        intro v21 e22
        intro v23 e24
        intro v25 e26
        intro v27 e28
        intro v29 e30
        have b31 := vg_add e30 (by omega) (by omega)
        exact ⟨rfl, ⟨v27, v29, rfl, (by omega), (by omega), rfl⟩, (by show (0 + (10 - v29.toInt) * 1000000000000).toNat < (0 + (10 - w2.toInt) * 1000000000000).toNat; omega)⟩
def o_X9_isSame : List vg_I := [(0, .iconst 0, 1, 0, 0, 0, 0), (1, .istore_n 3, 1, 0, 0, 0, 0), (2, .iload_n 3, 1, 0, 0, 0, 0), (3, .bipush 10, 2, 0, 0, 0, 0), (5, .if_icmp .ge 36, 3, 0, 0, 0, 0), (8, .aload_n 0, 1, 0, 0, 0, 0), (9, .getfield 17, 3, 367, 9, 1, 0), (12, .iload_n 1, 1, 0, 0, 0, 0), (13, .bipush 10, 2, 0, 0, 0, 0), (15, .imul, 1, 0, 0, 0, 0), (16, .iload_n 3, 1, 0, 0, 0, 0), (17, .iadd, 1, 0, 0, 0, 0), (18, .iaload, 1, 0, 0, 0, 0), (19, .aload_n 0, 1, 0, 0, 0, 0), (20, .getfield 17, 3, 367, 9, 1, 0), (23, .iload_n 2, 1, 0, 0, 0, 0), (24, .bipush 10, 2, 0, 0, 0, 0), (26, .imul, 1, 0, 0, 0, 0), (27, .iload_n 3, 1, 0, 0, 0, 0), (28, .iadd, 1, 0, 0, 0, 0), (29, .iaload, 1, 0, 0, 0, 0), (30, .if_icmp .eq 5, 3, 0, 0, 0, 0), (33, .iconst 0, 1, 0, 0, 0, 0), (34, .ireturn, 1, 0, 0, 0, 1), (35, .iinc 3 1, 3, 0, 0, 0, 0), (38, .goto (-36), 3, 0, 0, 0, 0), (41, .iconst 1, 1, 0, 0, 0, 0), (42, .ireturn, 1, 0, 0, 0, 1)]
set_option maxRecDepth 100000 in
set_option maxHeartbeats 4000000 in
theorem c_X9_isSame (l : Launch) (G : vg_G) (hp : vg_Hp G) : vg_Ct l G vg_sh r_X9_isSame := by
  refine vg_meth hp vg_sh_ok r_X9_isSame k_X9_isSame rfl (fun h => by cases h) o_X9_isSame [] false (by decide +kernel) (by decide +kernel) ⟨_, _, rfl, rfl⟩ (fun _ h => absurd h List.not_mem_nil) (fun h => by cases h) 600 ?_
  intro as s0 hpre
  obtain ⟨r, a1, a2, rfl, hr, i0, p0⟩ := hpre
  simp only [List.mem_cons, List.not_mem_nil, or_false] at hr
  rcases hr with rfl
  ·
    have z0 : (Int32.ofInt 0).toInt = 0 := by decide
    have z1 : (Int32.ofInt 1).toInt = 1 := by decide
    have z10 : (Int32.ofInt 10).toInt = 10 := by decide
    refine ⟨Nat.le_of_ble_eq_true rfl, [(2, [true, true, true, true], (fun L t => ∃ (x3 : Int32), L = [some (.ref 31), some (.int a1), some (.int a2), some (.int x3)] ∧ (0 : Int) ≤ x3.toInt ∧ x3.toInt ≤ (10 : Int) ∧ t = s0), (fun L _ => (0 + (10 - (vg_li L 3).toInt) * 1000000000000).toNat))], ?_, List.forall_mem_cons.mpr ⟨?_, fun _ h => absurd h List.not_mem_nil⟩⟩
    ·
      exact ⟨rfl, ⟨(Int32.ofInt 0), rfl, (by omega), (by omega), rfl⟩, trivial⟩
    ·
      intro L s4 hL
      obtain ⟨w1, rfl, b2, b3, q7⟩ := hL
      have q7 := q7.symm
      subst q7
      refine And.intro (fun c8 => ?_) (fun c8 => ?_)
      · have c8 : (Int32.ofInt 10).toInt ≤ w1.toInt := c8
        refine And.intro (by first | exact Or.inl rfl | exact Or.inr rfl | exact vg_01 (by omega) (by omega)) ?_
        show s0 = s0 ∧ (0 ≤ (Int32.ofInt 1).toInt ∧ (Int32.ofInt 1).toInt ≤ 1)
        exact ⟨rfl, (by first | trivial | omega | assumption)⟩
      · have c8 : ¬ ((Int32.ofInt 10).toInt ≤ w1.toInt) := c8
        intro v9 e10
        have b11 : v9.toInt = a1.toInt * (10) := vg_mulR e10 (by omega) (by omega) (by omega)
        intro v12 e13
        have b14 := vg_add e13 (by omega) (by omega)
        refine And.intro ⟨by omega, by omega⟩ ?_
        intro v15 e16
        intro v17 e18
        have b19 : v17.toInt = a2.toInt * (10) := vg_mulR e18 (by omega) (by omega) (by omega)
        intro v20 e21
        have b22 := vg_add e21 (by omega) (by omega)
        refine And.intro ⟨by omega, by omega⟩ ?_
        intro v23 e24
        refine And.intro (fun c25 => ?_) (fun c25 => ?_)
        · have c25 : v15.toInt = v23.toInt := c25
          intro v26 e27
          have b28 := vg_add e27 (by omega) (by omega)
          exact ⟨rfl, ⟨v26, rfl, (by omega), (by omega), rfl⟩, (by show (0 + (10 - v26.toInt) * 1000000000000).toNat < (0 + (10 - w1.toInt) * 1000000000000).toNat; omega)⟩
        · have c25 : ¬ (v15.toInt = v23.toInt) := c25
          refine And.intro (by first | exact Or.inl rfl | exact Or.inr rfl | exact vg_01 (by omega) (by omega)) ?_
          show s0 = s0 ∧ (0 ≤ (Int32.ofInt 0).toInt ∧ (Int32.ofInt 0).toInt ≤ 1)
          exact ⟨rfl, (by first | trivial | omega | assumption)⟩
def o_X9_findOrPut : List vg_I := [(0, .aload_n 0, 1, 0, 0, 0, 0), (1, .iload_n 1, 1, 0, 0, 0, 0), (2, .invokevirtual 72, 3, 0, 9, 1, 971), (5, .istore_n 2, 1, 0, 0, 0, 0), (6, .iconst 0, 1, 0, 0, 0, 0), (7, .istore_n 3, 1, 0, 0, 0, 0), (8, .iload_n 3, 1, 0, 0, 0, 0), (9, .sipush 2048, 3, 0, 0, 0, 0), (12, .if_icmp .ge 67, 3, 0, 0, 0, 0), (15, .iload_n 2, 1, 0, 0, 0, 0), (16, .iload_n 3, 1, 0, 0, 0, 0), (17, .iadd, 1, 0, 0, 0, 0), (18, .sipush 2047, 3, 0, 0, 0, 0), (21, .iand, 1, 0, 0, 0, 0), (22, .istore 4, 2, 0, 0, 0, 0), (24, .aload_n 0, 1, 0, 0, 0, 0), (25, .getfield 20, 3, 368, 9, 2, 0), (28, .iload 4, 2, 0, 0, 0, 0), (30, .iaload, 1, 0, 0, 0, 0), (31, .ifCond .ne 15, 3, 0, 0, 0, 0), (34, .aload_n 0, 1, 0, 0, 0, 0), (35, .getfield 20, 3, 368, 9, 2, 0), (38, .iload 4, 2, 0, 0, 0, 0), (40, .iload_n 1, 1, 0, 0, 0, 0), (41, .iconst 1, 1, 0, 0, 0, 0), (42, .iadd, 1, 0, 0, 0, 0), (43, .iastore, 1, 0, 0, 0, 0), (44, .iconst (-1), 1, 0, 0, 0, 0), (45, .ireturn, 1, 0, 0, 0, 0), (46, .aload_n 0, 1, 0, 0, 0, 0), (47, .aload_n 0, 1, 0, 0, 0, 0), (48, .getfield 20, 3, 368, 9, 2, 0), (51, .iload 4, 2, 0, 0, 0, 0), (53, .iaload, 1, 0, 0, 0, 0), (54, .iconst 1, 1, 0, 0, 0, 0), (55, .isub, 1, 0, 0, 0, 0), (56, .iload_n 1, 1, 0, 0, 0, 0), (57, .invokevirtual 75, 3, 1, 9, 2, 976), (60, .ifCond .eq 13, 3, 0, 0, 0, 0), (63, .aload_n 0, 1, 0, 0, 0, 0), (64, .getfield 20, 3, 368, 9, 2, 0), (67, .iload 4, 2, 0, 0, 0, 0), (69, .iaload, 1, 0, 0, 0, 0), (70, .iconst 1, 1, 0, 0, 0, 0), (71, .isub, 1, 0, 0, 0, 0), (72, .ireturn, 1, 0, 0, 0, 0), (73, .iinc 3 1, 3, 0, 0, 0, 0), (76, .goto (-68), 3, 0, 0, 0, 0), (79, .iconst (-1), 1, 0, 0, 0, 0), (80, .ireturn, 1, 0, 0, 0, 0)]
set_option maxRecDepth 100000 in
set_option maxHeartbeats 4000000 in
theorem c_X9_findOrPut (l : Launch) (G : vg_G) (hp : vg_Hp G) : vg_Ct l G vg_sh r_X9_findOrPut := by
  refine vg_meth hp vg_sh_ok r_X9_findOrPut k_X9_findOrPut rfl (fun h => by cases h) o_X9_findOrPut [r_X9_cellOf, r_X9_isSame] false (by decide +kernel) (by decide +kernel) ⟨_, _, rfl, rfl⟩ (List.forall_mem_cons.mpr ⟨⟨c_X9_cellOf l G hp, Nat.le_of_ble_eq_true rfl, Nat.le_of_ble_eq_true rfl⟩, List.forall_mem_cons.mpr ⟨⟨c_X9_isSame l G hp, Nat.le_of_ble_eq_true rfl, Nat.le_of_ble_eq_true rfl⟩, fun _ h => absurd h List.not_mem_nil⟩⟩) (fun h => by cases h) 600 ?_
  intro as s0 hpre
  obtain ⟨r, a1, rfl, hr, i0, p0⟩ := hpre
  simp only [List.mem_cons, List.not_mem_nil, or_false] at hr
  rcases hr with rfl
  ·
    have zm1 : (Int32.ofInt (-1)).toInt = -1 := by decide
    have z0 : (Int32.ofInt 0).toInt = 0 := by decide
    have z1 : (Int32.ofInt 1).toInt = 1 := by decide
    have z2047 : (Int32.ofInt 2047).toInt = 2047 := by decide
    have z2048 : (Int32.ofInt 2048).toInt = 2048 := by decide
    refine ⟨Nat.le_of_ble_eq_true rfl, [(8, [true, true, true, true, false], (fun L t => ∃ (x2 : Int32) (x3 : Int32), L = [some (.ref 31), some (.int a1), some (.int x2), some (.int x3), none] ∧ (0 : Int) ≤ x2.toInt ∧ x2.toInt ≤ (2047 : Int) ∧ (0 : Int) ≤ x3.toInt ∧ x3.toInt ≤ (2048 : Int) ∧ (∀ j : Nat, j < 2048 → 0 ≤ (t.1 34 j).toInt ∧ (t.1 34 j).toInt ≤ a1.toInt) ∧ Iv t ∧ Kc s0 t ∧ vk t = ((vk s0).1, (vk s0).2)), (fun L _ => (0 + (2048 - (vg_li L 3).toInt) * 1000000000000).toNat))], ?_, List.forall_mem_cons.mpr ⟨?_, fun _ h => absurd h List.not_mem_nil⟩⟩
    ·
      refine And.intro (Nat.le_of_ble_eq_true rfl) (And.intro ⟨31, a1, rfl, by decide, i0, by omega⟩ ?_)
      intro v1 s3 h2
      have h2 : s3 = s0 ∧ (0 ≤ v1.toInt ∧ v1.toInt ≤ 2047) := h2
      have q6 := h2.1.symm
      subst q6
      have q7 := h2.2
      exact ⟨rfl, ⟨v1, (Int32.ofInt 0), rfl, (by omega), (by omega), (by omega), (by omega), (by first | exact None | exact p0.2), i0, Kx.rf, rfl⟩, trivial⟩
    ·
      intro L s15 hL
      obtain ⟨w8, w11, rfl, b9, b10, b12, b13, x14, i16, k17, u18⟩ := hL
      refine And.intro (fun c19 => ?_) (fun c19 => ?_)
      · have c19 : (Int32.ofInt 2048).toInt ≤ w11.toInt := c19
        show Iv s15 ∧ Kc s0 s15 ∧ vk s15 = ((vk s0).1, (vk s0).2) ∧ (((Int32.ofInt (-1)).toInt = -1 ∨ (0 ≤ (Int32.ofInt (-1)).toInt ∧ (Int32.ofInt (-1)).toInt < a1.toInt)) ∧ ∀ j : Nat, j < 2048 → 0 ≤ (s15.1 34 j).toInt ∧ (s15.1 34 j).toInt ≤ a1.toInt + 1)
        exact ⟨i16, k17, u18, (by refine ⟨by omega, fun j hj => ?_⟩; first | (rw [rfl]; exact vg_cells1 x14 (by omega) j hj) | (have h9 := x14 j hj; omega))⟩
      · have c19 : ¬ ((Int32.ofInt 2048).toInt ≤ w11.toInt) := c19
        intro v20 e21
        have b22 := vg_add e21 (by omega) (by omega)
        intro v23 e24
        have b25 := vg_and e24 (by omega)
        refine And.intro ⟨by omega, by omega⟩ ?_
        intro v26 e27
        have b28 : 0 ≤ v26.toInt ∧ v26.toInt ≤ a1.toInt := by rw [e27]; exact x14 _ (by have h9 : v23.toNatClampNeg = v23.toInt.toNat := rfl; omega)
        refine And.intro (fun c29 => ?_) (fun c29 => ?_)
        · have c29 : ¬ v26.toInt = 0 := c29
          refine And.intro ⟨by omega, by omega⟩ ?_
          intro v30 e31
          have w32 : v26 = v30 := by rw [e31, e27]
          subst w32
          intro v33 e34
          have b35 := vg_sub e34 (by omega) (by omega)
          refine And.intro (Nat.le_of_ble_eq_true rfl) (And.intro ⟨31, v33, a1, rfl, by decide, i16, by omega⟩ ?_)
          intro v36 s38 h37
          have h37 : s38 = s15 ∧ (0 ≤ v36.toInt ∧ v36.toInt ≤ 1) := h37
          have q41 := h37.1.symm
          subst q41
          have q42 := h37.2
          refine And.intro (fun c43 => ?_) (fun c43 => ?_)
          · have c43 : v36.toInt = 0 := c43
            intro v44 e45
            have b46 := vg_add e45 (by omega) (by omega)
            exact ⟨rfl, ⟨w8, v44, rfl, (by omega), (by omega), (by omega), (by omega), (by first | exact x14 | exact p0.2), i16, k17, u18⟩, (by show (0 + (2048 - v44.toInt) * 1000000000000).toNat < (0 + (2048 - w11.toInt) * 1000000000000).toNat; omega)⟩
          · have c43 : ¬ (v36.toInt = 0) := c43
            refine And.intro ⟨by omega, by omega⟩ ?_
            intro v47 e48
            have w49 : v26 = v47 := by rw [e48, e27]
            subst w49
            intro v50 e51
            have b52 := vg_sub e51 (by omega) (by omega)
            show Iv s15 ∧ Kc s0 s15 ∧ vk s15 = ((vk s0).1, (vk s0).2) ∧ ((v50.toInt = -1 ∨ (0 ≤ v50.toInt ∧ v50.toInt < a1.toInt)) ∧ ∀ j : Nat, j < 2048 → 0 ≤ (s15.1 34 j).toInt ∧ (s15.1 34 j).toInt ≤ a1.toInt + 1)
            exact ⟨i16, k17, u18, (by refine ⟨by omega, fun j hj => ?_⟩; first | (rw [rfl]; exact vg_cells1 x14 (by omega) j hj) | (have h9 := x14 j hj; omega))⟩
        · have c29 : ¬ (¬ v26.toInt = 0) := c29
          intro v53 e54
          have b55 := vg_add e54 (by omega) (by omega)
          refine And.intro ⟨by omega, by omega⟩ ?_
          intro s56 e57
          have i58 : Iv s56 := Iv.a1 i16 e57 rfl
          have k59 : Kc s0 s56 := Kx.u1 k17 e57 rfl
          have u60 : vk s56 = ((vk s0).1, (vk s0).2) := vk_k1 u18 e57 rfl
          show Iv s56 ∧ Kc s0 s56 ∧ vk s56 = ((vk s0).1, (vk s0).2) ∧ (((Int32.ofInt (-1)).toInt = -1 ∨ (0 ≤ (Int32.ofInt (-1)).toInt ∧ (Int32.ofInt (-1)).toInt < a1.toInt)) ∧ ∀ j : Nat, j < 2048 → 0 ≤ (s56.1 34 j).toInt ∧ (s56.1 34 j).toInt ≤ a1.toInt + 1)
          exact ⟨i58, k59, u60, (by refine ⟨by omega, fun j hj => ?_⟩; first | (rw [e57]; exact vg_cells1 x14 (by omega) j hj) | (have h9 := x14 j hj; omega))⟩
def o_X9_follow : List vg_I := [(0, .aload_n 1, 1, 0, 0, 0, 0), (1, .aload_n 2, 1, 0, 0, 0, 0), (2, .invokevirtual 23, 3, 0, 5, 1, 952), (5, .aload_n 0, 1, 0, 0, 0, 0), (6, .getfield 20, 3, 368, 9, 2, 0), (9, .iconst 0, 1, 0, 0, 0, 0), (10, .invokestatic 27, 3, 1, 1, 2, 961), (13, .aload_n 0, 1, 0, 0, 0, 0), (14, .iconst 0, 1, 0, 0, 0, 0), (15, .putfield 33, 3, 369, 9, 3, 1), (18, .aload_n 0, 1, 0, 0, 0, 0), (19, .iconst 0, 1, 0, 0, 0, 0), (20, .putfield 37, 3, 371, 9, 4, 0), (23, .aload_n 0, 1, 0, 0, 0, 0), (24, .iconst 0, 1, 0, 0, 0, 0), (25, .putfield 41, 3, 373, 9, 5, 0), (28, .iconst 0, 1, 0, 0, 0, 0), (29, .istore 4, 2, 0, 0, 0, 0), (31, .iload 4, 2, 0, 0, 0, 0), (33, .sipush 1000, 3, 0, 0, 0, 0), (36, .if_icmp .gt 77, 3, 0, 0, 0, 0), (39, .aload_n 1, 1, 0, 0, 0, 0), (40, .aload_n 0, 1, 0, 0, 0, 0), (41, .getfield 17, 3, 367, 9, 1, 0), (44, .iload 4, 2, 0, 0, 0, 0), (46, .bipush 10, 2, 0, 0, 0, 0), (48, .imul, 1, 0, 0, 0, 0), (49, .invokevirtual 44, 3, 2, 5, 2, 962), (52, .aload_n 0, 1, 0, 0, 0, 0), (53, .iload 4, 2, 0, 0, 0, 0), (55, .invokevirtual 47, 3, 3, 9, 1, 967), (58, .istore 5, 2, 0, 0, 0, 0), (60, .iload 5, 2, 0, 0, 0, 0), (62, .iconst (-1), 1, 0, 0, 0, 0), (63, .if_icmp .eq 24, 3, 0, 0, 0, 0), (66, .aload_n 0, 1, 0, 0, 0, 0), (67, .iconst 1, 1, 0, 0, 0, 0), (68, .putfield 33, 3, 369, 9, 3, 1), (71, .aload_n 0, 1, 0, 0, 0, 0), (72, .iload 5, 2, 0, 0, 0, 0), (74, .putfield 37, 3, 371, 9, 4, 0), (77, .aload_n 0, 1, 0, 0, 0, 0), (78, .iload 4, 2, 0, 0, 0, 0), (80, .iload 5, 2, 0, 0, 0, 0), (82, .isub, 1, 0, 0, 0, 0), (83, .putfield 41, 3, 373, 9, 5, 0), (86, .return_, 1, 0, 0, 0, 0), (87, .iload 4, 2, 0, 0, 0, 0), (89, .sipush 1000, 3, 0, 0, 0, 0), (92, .if_icmp .ge 15, 3, 0, 0, 0, 0), (95, .aload_n 0, 1, 0, 0, 0, 0), (96, .getfield 11, 3, 366, 9, 0, 0), (99, .iload 4, 2, 0, 0, 0, 0), (101, .aload_n 1, 1, 0, 0, 0, 0), (102, .iload_n 3, 1, 0, 0, 0, 0), (103, .invokevirtual 51, 3, 4, 5, 1, 980), (106, .iastore, 1, 0, 0, 0, 0), (107, .iinc 4 1, 3, 0, 0, 0, 0), (110, .goto (-79), 3, 0, 0, 0, 0), (113, .return_, 1, 0, 0, 0, 0)]
set_option maxRecDepth 100000 in
set_option maxHeartbeats 4000000 in
theorem c_X9_follow (l : Launch) (G : vg_G) (hp : vg_Hp G) : vg_Ct l G vg_sh r_X9_follow := by
  refine vg_meth hp vg_sh_ok r_X9_follow k_X9_follow rfl (fun h => by cases h) o_X9_follow [r_X5_beginTone, r_J7_fill_53178_at34, r_X5_writeWords, r_X9_findOrPut, r_X5_advance] false (by decide +kernel) (by decide +kernel) ⟨_, _, rfl, rfl⟩ (List.forall_mem_cons.mpr ⟨⟨c_X5_beginTone l G hp, Nat.le_of_ble_eq_true rfl, Nat.le_of_ble_eq_true rfl⟩, List.forall_mem_cons.mpr ⟨⟨c_J7_fill_53178_at34 l G hp, Nat.le_of_ble_eq_true rfl, Nat.le_of_ble_eq_true rfl⟩, List.forall_mem_cons.mpr ⟨⟨c_X5_writeWords l G hp, Nat.le_of_ble_eq_true rfl, Nat.le_of_ble_eq_true rfl⟩, List.forall_mem_cons.mpr ⟨⟨c_X9_findOrPut l G hp, Nat.le_of_ble_eq_true rfl, Nat.le_of_ble_eq_true rfl⟩, List.forall_mem_cons.mpr ⟨⟨c_X5_advance l G hp, Nat.le_of_ble_eq_true rfl, Nat.le_of_ble_eq_true rfl⟩, fun _ h => absurd h List.not_mem_nil⟩⟩⟩⟩⟩) (fun h => by cases h) 600 ?_
  intro as s0 hpre
  obtain ⟨r, a1, a2, a3, rfl, hr, ha1, ha2, i0⟩ := hpre
  simp only [List.mem_cons, List.not_mem_nil, or_false] at hr
  rcases hr with rfl
  ·
    simp only [List.mem_cons, List.not_mem_nil, or_false] at ha1
    rcases ha1 with rfl
    ·
      simp only [List.mem_cons, List.not_mem_nil, or_false] at ha2
      rcases ha2 with rfl
      ·
        have zm1 : (Int32.ofInt (-1)).toInt = -1 := by decide
        have z0 : (Int32.ofInt 0).toInt = 0 := by decide
        have z1 : (Int32.ofInt 1).toInt = 1 := by decide
        have z10 : (Int32.ofInt 10).toInt = 10 := by decide
        have z1000 : (Int32.ofInt 1000).toInt = 1000 := by decide
        refine ⟨Nat.le_of_ble_eq_true rfl, [(31, [true, true, false, true, true, false], (fun L t => ∃ (x4 : Int32), L = [some (.ref 31), some (.ref 22), none, some (.int a3), some (.int x4), none] ∧ (0 : Int) ≤ x4.toInt ∧ x4.toInt ≤ (1001 : Int) ∧ ((∀ j : Nat, j < 2048 → 0 ≤ (t.1 34 j).toInt ∧ (t.1 34 j).toInt ≤ x4.toInt) ∧ (t.1 31 4).toInt = 0 ∧ (t.1 31 5).toInt = 0) ∧ Iv t ∧ Kr s0 t ∧ vk t = ((vk s0).1, (vk s0).2)), (fun L _ => (0 + (1001 - (vg_li L 4).toInt) * 1000000000000).toNat))], ?_, List.forall_mem_cons.mpr ⟨?_, fun _ h => absurd h List.not_mem_nil⟩⟩
        ·
          refine And.intro (Nat.le_of_ble_eq_true rfl) (And.intro ⟨22, 4, rfl, by decide, by decide, i0⟩ ?_)
          intro s2 h1
          have h1 : Iv s2 ∧ Kp s0 s2 ∧ vk s2 = ((vk s0).1, (vk s0).2) ∧ (True) := h1
          have i3 := h1.1
          have k4 : Kr s0 s2 := Kx.tr Kx.rf (((h1.2.1).pc).cr)
          have u5 : vk s2 = ((vk s0).1, (vk s0).2) := h1.2.2.1.trans rfl
          refine And.intro (Nat.le_of_ble_eq_true rfl) (And.intro ⟨34, (Int32.ofInt 0), rfl, by decide, i3⟩ ?_)
          intro s7 h6
          have h6 : Iv s7 ∧ Kc s2 s7 ∧ vk s7 = ((vk s2).1, (vk s2).2) ∧ (∀ j : Nat, j < 2048 → s7.1 34 j = (Int32.ofInt 0)) := h6
          have i8 := h6.1
          have k9 : Kr s0 s7 := Kx.tr k4 ((h6.2.1).cr)
          have u10 : vk s7 = ((vk s0).1, (vk s0).2) := h6.2.2.1.trans u5
          have q11 := h6.2.2.2
          have y0 : ∀ j : Nat, j < 2048 → (s7.1 34 j) = Int32.ofInt 0 := q11
          refine And.intro (by first | exact Or.inl rfl | exact Or.inr rfl | exact vg_01 (by omega) (by omega)) ?_
          intro s12 e13
          have i14 : Iv s12 := Iv.u1 i8 e13 rfl
          have k15 : Kr s0 s12 := Kx.u1 k9 e13 rfl
          have u16 : vk s12 = ((vk s0).1, (vk s0).2) := vk_k1 u10 e13 rfl
          intro s17 e18
          have i19 : Iv s17 := Iv.u1 i14 e18 rfl
          have k20 : Kr s0 s17 := Kx.u1 k15 e18 rfl
          have u21 : vk s17 = ((vk s0).1, (vk s0).2) := vk_k1 u16 e18 rfl
          intro s22 e23
          have i24 : Iv s22 := Iv.u1 i19 e23 rfl
          have k25 : Kr s0 s22 := Kx.u1 k20 e23 rfl
          have u26 : vk s22 = ((vk s0).1, (vk s0).2) := vk_k1 u21 e23 rfl
          obtain ⟨v27, e28⟩ : ∃ y, y = s22.1 31 4 := ⟨_, rfl⟩
          have w29 : (Int32.ofInt 0) = v27 := by rw [e28, e23, vg_u1_at (a := 31) (b := 4) (k := 31) (i := 5) (by decide), e18]; exact vg_u1_self.symm
          subst w29
          have b30 := congrArg Int32.toInt e28
          obtain ⟨v31, e32⟩ : ∃ y, y = s22.1 31 5 := ⟨_, rfl⟩
          have w33 : (Int32.ofInt 0) = v31 := by rw [e32, e23]; exact vg_u1_self.symm
          subst w33
          have b34 := congrArg Int32.toInt e32
          have y3 : ∀ j : Nat, j < 2048 → 0 ≤ (s22.1 34 j).toInt ∧ (s22.1 34 j).toInt ≤ 0 := fun j hj => by rw [e23, vg_u1_ne (a := 34) (k := 31) (by decide), e18, vg_u1_ne (a := 34) (k := 31) (by decide), e13, vg_u1_ne (a := 34) (k := 31) (by decide), y0 j hj]; decide
          have y9 : (s22.1 31 4).toInt = 0 ∧ (s22.1 31 5).toInt = 0 := by omega
          exact ⟨rfl, ⟨(Int32.ofInt 0), rfl, (by omega), (by omega), (by first | exact ⟨fun j hj => by (have h9 := y3 j hj; omega), y9⟩ | exact ⟨fun j hj => by (have h9 := y4 j hj; omega), y8⟩), i24, k25, u26⟩, trivial⟩
        ·
          intro L s39 hL
          obtain ⟨w35, rfl, b36, b37, x38, i40, k41, u42⟩ := hL
          refine And.intro (fun c43 => ?_) (fun c43 => ?_)
          · have c43 : (Int32.ofInt 1000).toInt < w35.toInt := c43
            have y10 := x38.2
            show Iv s39 ∧ Kr s0 s39 ∧ vk s39 = ((vk s0).1, (vk s0).2) ∧ (0 ≤ (s39.1 31 4).toInt ∧ 0 ≤ (s39.1 31 5).toInt ∧ (s39.1 31 4).toInt + (s39.1 31 5).toInt ≤ 1000)
            exact ⟨i40, k41, u42, (by first | trivial | omega | assumption)⟩
          · have c43 : ¬ ((Int32.ofInt 1000).toInt < w35.toInt) := c43
            intro v44 e45
            have b46 : v44.toInt = w35.toInt * (10) := vg_mulR e45 (by omega) (by omega) (by omega)
            refine And.intro (Nat.le_of_ble_eq_true rfl) (And.intro ⟨22, 33, v44, rfl, by decide, by decide, i40, by omega⟩ ?_)
            intro s48 h47
            have h47 : Iv s48 ∧ Kp s39 s48 ∧ vk s48 = ((vk s39).1, (vk s39).2) ∧ (True) := h47
            have i49 := h47.1
            have k50 : Kr s0 s48 := Kx.tr k41 (((h47.2.1).pc).cr)
            have u51 : vk s48 = ((vk s0).1, (vk s0).2) := h47.2.2.1.trans u42
            have y5 : (s48.1 31 4).toInt = 0 ∧ (s48.1 31 5).toInt = 0 := by rw [h47.2.1.1 31 4 rfl, h47.2.1.1 31 5 rfl]; exact x38.2
            refine And.intro (Nat.le_of_ble_eq_true rfl) (And.intro ⟨31, w35, rfl, by decide, i49, ⟨⟨by omega, by omega⟩, fun j hj => by rw [h47.2.1.1 34 j rfl]; exact x38.1 j hj⟩⟩ ?_)
            intro v52 s54 h53
            have h53 : Iv s54 ∧ Kc s48 s54 ∧ vk s54 = ((vk s48).1, (vk s48).2) ∧ ((v52.toInt = -1 ∨ (0 ≤ v52.toInt ∧ v52.toInt < w35.toInt)) ∧ ∀ j : Nat, j < 2048 → 0 ≤ (s54.1 34 j).toInt ∧ (s54.1 34 j).toInt ≤ w35.toInt + 1) := h53
            have i55 := h53.1
            have k56 : Kr s0 s54 := Kx.tr k50 ((h53.2.1).cr)
            have u57 : vk s54 = ((vk s0).1, (vk s0).2) := h53.2.2.1.trans u51
            have q58 := h53.2.2.2
            have y1 : ∀ j : Nat, j < 2048 → 0 ≤ (s54.1 34 j).toInt ∧ (s54.1 34 j).toInt ≤ w35.toInt + 1 := q58.2
            have y6 : (s54.1 31 4).toInt = 0 ∧ (s54.1 31 5).toInt = 0 := by rw [h53.2.1.1 31 4 rfl, h53.2.1.1 31 5 rfl]; exact y5
            refine And.intro (fun c59 => ?_) (fun c59 => ?_)
            · have c59 : v52.toInt = (Int32.ofInt (-1)).toInt := c59
              refine And.intro (fun c60 => ?_) (fun c60 => ?_)
              · have c60 : (Int32.ofInt 1000).toInt ≤ w35.toInt := c60
                have y4 : ∀ j : Nat, j < 2048 → 0 ≤ (s54.1 34 j).toInt ∧ (s54.1 34 j).toInt ≤ w35.toInt + 1 := by first | exact (fun j hj => by rw [rfl]; exact y2 j hj) | exact y1
                have y8 : (s54.1 31 4).toInt = 0 ∧ (s54.1 31 5).toInt = 0 := by first | (rw [rfl]; exact y7) | exact y6
                intro v61 e62
                have b63 := vg_add e62 (by omega) (by omega)
                exact ⟨rfl, ⟨v61, rfl, (by omega), (by omega), (by first | exact ⟨fun j hj => by (have h9 := y3 j hj; omega), y9⟩ | exact ⟨fun j hj => by (have h9 := y4 j hj; omega), y8⟩), i55, k56, u57⟩, (by show (0 + (1001 - v61.toInt) * 1000000000000).toNat < (0 + (1001 - w35.toInt) * 1000000000000).toNat; omega)⟩
              · have c60 : ¬ ((Int32.ofInt 1000).toInt ≤ w35.toInt) := c60
                refine And.intro (Nat.le_of_ble_eq_true rfl) (And.intro ⟨22, a3, rfl, by decide, i55⟩ ?_)
                intro v64 s66 h65
                have h65 : Iv s66 ∧ Kp s54 s66 ∧ vk s66 = ((vk s54).1, (vk s54).2) ∧ (True) := h65
                have i67 := h65.1
                have k68 : Kr s0 s66 := Kx.tr k56 (((h65.2.1).pc).cr)
                have u69 : vk s66 = ((vk s0).1, (vk s0).2) := h65.2.2.1.trans u57
                have y2 : ∀ j : Nat, j < 2048 → 0 ≤ (s66.1 34 j).toInt ∧ (s66.1 34 j).toInt ≤ w35.toInt + 1 := fun j hj => by rw [h65.2.1.1 34 j rfl]; exact y1 j hj
                have y7 : (s66.1 31 4).toInt = 0 ∧ (s66.1 31 5).toInt = 0 := by rw [h65.2.1.1 31 4 rfl, h65.2.1.1 31 5 rfl]; exact y6
                refine And.intro ⟨by omega, by omega⟩ ?_
                intro s70 e71
                have i72 : Iv s70 := Iv.a1 i67 e71 rfl
                have k73 : Kr s0 s70 := Kx.u1 k68 e71 rfl
                have u74 : vk s70 = ((vk s0).1, (vk s0).2) := vk_k1 u69 e71 rfl
                have y4 : ∀ j : Nat, j < 2048 → 0 ≤ (s70.1 34 j).toInt ∧ (s70.1 34 j).toInt ≤ w35.toInt + 1 := by first | exact (fun j hj => by rw [e71, vg_u1_ne (a := 34) (k := 32) (by decide)]; exact y2 j hj) | exact y1
                have y8 : (s70.1 31 4).toInt = 0 ∧ (s70.1 31 5).toInt = 0 := by first | (rw [e71, vg_u1_ne (a := 31) (k := 32) (by decide)]; exact y7) | exact y6
                intro v75 e76
                have b77 := vg_add e76 (by omega) (by omega)
                exact ⟨rfl, ⟨v75, rfl, (by omega), (by omega), (by first | exact ⟨fun j hj => by (have h9 := y3 j hj; omega), y9⟩ | exact ⟨fun j hj => by (have h9 := y4 j hj; omega), y8⟩), i72, k73, u74⟩, (by show (0 + (1001 - v75.toInt) * 1000000000000).toNat < (0 + (1001 - w35.toInt) * 1000000000000).toNat; omega)⟩
            · have c59 : ¬ (v52.toInt = (Int32.ofInt (-1)).toInt) := c59
              refine And.intro (by first | exact Or.inl rfl | exact Or.inr rfl | exact vg_01 (by omega) (by omega)) ?_
              intro s78 e79
              have i80 : Iv s78 := Iv.u1 i55 e79 rfl
              have k81 : Kr s0 s78 := Kx.u1 k56 e79 rfl
              have u82 : vk s78 = ((vk s0).1, (vk s0).2) := vk_k1 u57 e79 rfl
              intro s83 e84
              have i85 : Iv s83 := Iv.u1 i80 e84 rfl
              have k86 : Kr s0 s83 := Kx.u1 k81 e84 rfl
              have u87 : vk s83 = ((vk s0).1, (vk s0).2) := vk_k1 u82 e84 rfl
              intro v88 e89
              have b90 := vg_sub e89 (by omega) (by omega)
              intro s91 e92
              have i93 : Iv s91 := Iv.u1 i85 e92 rfl
              have k94 : Kr s0 s91 := Kx.u1 k86 e92 rfl
              have u95 : vk s91 = ((vk s0).1, (vk s0).2) := vk_k1 u87 e92 rfl
              obtain ⟨v96, e97⟩ : ∃ y, y = s91.1 31 4 := ⟨_, rfl⟩
              have w98 : v52 = v96 := by rw [e97, e92, vg_u1_at (a := 31) (b := 4) (k := 31) (i := 5) (by decide), e84]; exact vg_u1_self.symm
              subst w98
              have b99 := congrArg Int32.toInt e97
              obtain ⟨v100, e101⟩ : ∃ y, y = s91.1 31 5 := ⟨_, rfl⟩
              have w102 : v88 = v100 := by rw [e101, e92]; exact vg_u1_self.symm
              subst w102
              have b103 := congrArg Int32.toInt e101
              show Iv s91 ∧ Kr s0 s91 ∧ vk s91 = ((vk s0).1, (vk s0).2) ∧ (0 ≤ (s91.1 31 4).toInt ∧ 0 ≤ (s91.1 31 5).toInt ∧ (s91.1 31 4).toInt + (s91.1 31 5).toInt ≤ 1000)
              exact ⟨i93, k94, u95, (by first | trivial | omega | assumption)⟩
def o_X9_patternAt : List vg_I := [(0, .aload_n 0, 1, 0, 0, 0, 0), (1, .getfield 41, 3, 373, 9, 5, 0), (4, .ifCond .ne 7, 3, 0, 0, 0, 0), (7, .iconst 0, 1, 0, 0, 0, 0), (8, .goto 19, 3, 0, 0, 0, 0), (11, .aload_n 0, 1, 0, 0, 0, 0), (12, .getfield 11, 3, 366, 9, 0, 0), (15, .aload_n 0, 1, 0, 0, 0, 0), (16, .getfield 37, 3, 371, 9, 4, 0), (19, .iload_n 1, 1, 0, 0, 0, 0), (20, .aload_n 0, 1, 0, 0, 0, 0), (21, .getfield 41, 3, 373, 9, 5, 0), (24, .irem, 1, 0, 0, 0, 0), (25, .iadd, 1, 0, 0, 0, 0), (26, .iaload, 1, 0, 0, 0, 0), (27, .ireturn, 1, 0, 0, 0, 0)]
set_option maxRecDepth 100000 in
set_option maxHeartbeats 4000000 in
theorem c_X9_patternAt (l : Launch) (G : vg_G) (hp : vg_Hp G) : vg_Ct l G vg_sh r_X9_patternAt := by
  refine vg_meth hp vg_sh_ok r_X9_patternAt k_X9_patternAt rfl (fun h => by cases h) o_X9_patternAt [] false (by decide +kernel) (by decide +kernel) ⟨_, _, rfl, rfl⟩ (fun _ h => absurd h List.not_mem_nil) (fun h => by cases h) 600 ?_
  intro as s0 hpre
  obtain ⟨r, a1, rfl, hr, i0, p0⟩ := hpre
  have ra1 := vg_rng a1
  simp only [List.mem_cons, List.not_mem_nil, or_false] at hr
  rcases hr with rfl
  ·
    have z0 : (Int32.ofInt 0).toInt = 0 := by decide
    refine ⟨Nat.le_of_ble_eq_true rfl, [], ?_, fun _ h => absurd h List.not_mem_nil⟩
    ·
      intro v1 e2
      have g3 : s0.1 31 5 = v1 := by rw [e2]
      have b4 : v1.toInt = (s0.1 31 5).toInt := congrArg Int32.toInt e2
      refine And.intro (fun c5 => ?_) (fun c5 => ?_)
      · have c5 : ¬ v1.toInt = 0 := c5
        intro v6 e7
        have g8 : s0.1 31 4 = v6 := by rw [e7]
        have b9 : v6.toInt = (s0.1 31 4).toInt := congrArg Int32.toInt e7
        intro v10 e11
        have w12 : v1 = v10 := by rw [e11, g3]
        subst w12
        refine And.intro (by omega) ?_
        intro v13 e14
        have b15 := (vg_rem e14 (by omega) (by omega)).2
        intro v16 e17
        have b18 := vg_add e17 (by omega) (by omega)
        refine And.intro ⟨by omega, by omega⟩ ?_
        intro v19 e20
        show s0 = s0 ∧ (True)
        exact ⟨rfl, (trivial)⟩
      · have c5 : ¬ (¬ v1.toInt = 0) := c5
        show s0 = s0 ∧ (True)
        exact ⟨rfl, (trivial)⟩
def o_X9_total : List vg_I := [(0, .iconst 0, 1, 0, 0, 0, 0), (1, .istore_n 1, 1, 0, 0, 0, 0), (2, .iconst 0, 1, 0, 0, 0, 0), (3, .istore_n 2, 1, 0, 0, 0, 0), (4, .iload_n 2, 1, 0, 0, 0, 0), (5, .aload_n 0, 1, 0, 0, 0, 0), (6, .getfield 41, 3, 373, 9, 5, 0), (9, .if_icmp .ge 17, 3, 0, 0, 0, 0), (12, .iload_n 1, 1, 0, 0, 0, 0), (13, .aload_n 0, 1, 0, 0, 0, 0), (14, .iload_n 2, 1, 0, 0, 0, 0), (15, .invokevirtual 54, 3, 0, 9, 1, 985), (18, .iadd, 1, 0, 0, 0, 0), (19, .istore_n 1, 1, 0, 0, 0, 0), (20, .iinc 2 1, 3, 0, 0, 0, 0), (23, .goto (-19), 3, 0, 0, 0, 0), (26, .iload_n 1, 1, 0, 0, 0, 0), (27, .ireturn, 1, 0, 0, 0, 0)]
set_option maxRecDepth 100000 in
set_option maxHeartbeats 4000000 in
theorem c_X9_total (l : Launch) (G : vg_G) (hp : vg_Hp G) : vg_Ct l G vg_sh r_X9_total := by
  refine vg_meth hp vg_sh_ok r_X9_total k_X9_total rfl (fun h => by cases h) o_X9_total [r_X9_patternAt] false (by decide +kernel) (by decide +kernel) ⟨_, _, rfl, rfl⟩ (List.forall_mem_cons.mpr ⟨⟨c_X9_patternAt l G hp, Nat.le_of_ble_eq_true rfl, Nat.le_of_ble_eq_true rfl⟩, fun _ h => absurd h List.not_mem_nil⟩) (fun h => by cases h) 600 ?_
  intro as s0 hpre
  obtain ⟨r, rfl, hr, i0, p0⟩ := hpre
  simp only [List.mem_cons, List.not_mem_nil, or_false] at hr
  rcases hr with rfl
  ·
    have z0 : (Int32.ofInt 0).toInt = 0 := by decide
    have z1 : (Int32.ofInt 1).toInt = 1 := by decide
    refine ⟨Nat.le_of_ble_eq_true rfl, [(4, [true, true, true], (fun L t => ∃ (x1 : Int32) (x2 : Int32), L = [some (.ref 31), some (.int x1), some (.int x2)] ∧ (0 : Int) ≤ x2.toInt ∧ x2.toInt ≤ (1000 : Int) ∧ t = s0), (fun L _ => (0 + (1000 - (vg_li L 2).toInt) * 1000000000000).toNat))], ?_, List.forall_mem_cons.mpr ⟨?_, fun _ h => absurd h List.not_mem_nil⟩⟩
    ·
      exact ⟨rfl, ⟨(Int32.ofInt 0), (Int32.ofInt 0), rfl, (by omega), (by omega), rfl⟩, trivial⟩
    ·
      intro L s5 hL
      obtain ⟨w1, w2, rfl, b3, b4, q8⟩ := hL
      have q8 := q8.symm
      subst q8
      intro v9 e10
      have g11 : s0.1 31 5 = v9 := by rw [e10]
      have b12 : v9.toInt = (s0.1 31 5).toInt := congrArg Int32.toInt e10
      refine And.intro (fun c13 => ?_) (fun c13 => ?_)
      · have c13 : v9.toInt ≤ w2.toInt := c13
        show s0 = s0 ∧ (True)
        exact ⟨rfl, (trivial)⟩
      · have c13 : ¬ (v9.toInt ≤ w2.toInt) := c13
        refine And.intro (Nat.le_of_ble_eq_true rfl) (And.intro ⟨31, w2, rfl, by decide, i0, by omega⟩ ?_)
        intro v14 s16 h15
        have h15 : s16 = s0 ∧ (True) := h15
        have q19 := h15.1.symm
        subst q19
        intro v20 e21
        intro v22 e23
        have b24 := vg_add e23 (by omega) (by omega)
        exact ⟨rfl, ⟨v20, v22, rfl, (by omega), (by omega), rfl⟩, (by show (0 + (1000 - v22.toInt) * 1000000000000).toNat < (0 + (1000 - w2.toInt) * 1000000000000).toNat; omega)⟩
def o_X9_unlike : List vg_I := [(0, .iconst 0, 1, 0, 0, 0, 0), (1, .istore_n 1, 1, 0, 0, 0, 0), (2, .iconst 0, 1, 0, 0, 0, 0), (3, .istore_n 2, 1, 0, 0, 0, 0), (4, .iload_n 2, 1, 0, 0, 0, 0), (5, .aload_n 0, 1, 0, 0, 0, 0), (6, .getfield 41, 3, 373, 9, 5, 0), (9, .if_icmp .ge 19, 3, 0, 0, 0, 0), (12, .iload_n 1, 1, 0, 0, 0, 0), (13, .iconst 1, 1, 0, 0, 0, 0), (14, .aload_n 0, 1, 0, 0, 0, 0), (15, .iload_n 2, 1, 0, 0, 0, 0), (16, .invokevirtual 54, 3, 0, 9, 1, 985), (19, .ishl, 1, 0, 0, 0, 0), (20, .ior, 1, 0, 0, 0, 0), (21, .istore_n 1, 1, 0, 0, 0, 0), (22, .iinc 2 1, 3, 0, 0, 0, 0), (25, .goto (-21), 3, 0, 0, 0, 0), (28, .iload_n 1, 1, 0, 0, 0, 0), (29, .invokestatic 57, 3, 1, 1, 1, 993), (32, .ireturn, 1, 0, 0, 0, 0)]
set_option maxRecDepth 100000 in
set_option maxHeartbeats 4000000 in
theorem c_X9_unlike (l : Launch) (G : vg_G) (hp : vg_Hp G) : vg_Ct l G vg_sh r_X9_unlike := by
  refine vg_meth hp vg_sh_ok r_X9_unlike k_X9_unlike rfl (fun h => by cases h) o_X9_unlike [r_X9_patternAt, r_J6_bitCount_0f7a4] false (by decide +kernel) (by decide +kernel) ⟨_, _, rfl, rfl⟩ (List.forall_mem_cons.mpr ⟨⟨c_X9_patternAt l G hp, Nat.le_of_ble_eq_true rfl, Nat.le_of_ble_eq_true rfl⟩, List.forall_mem_cons.mpr ⟨⟨c_J6_bitCount_0f7a4 l G hp, Nat.le_of_ble_eq_true rfl, Nat.le_of_ble_eq_true rfl⟩, fun _ h => absurd h List.not_mem_nil⟩⟩) (fun h => by cases h) 600 ?_
  intro as s0 hpre
  obtain ⟨r, rfl, hr, i0, p0⟩ := hpre
  simp only [List.mem_cons, List.not_mem_nil, or_false] at hr
  rcases hr with rfl
  ·
    have z0 : (Int32.ofInt 0).toInt = 0 := by decide
    have z1 : (Int32.ofInt 1).toInt = 1 := by decide
    refine ⟨Nat.le_of_ble_eq_true rfl, [(4, [true, true, true], (fun L t => ∃ (x1 : Int32) (x2 : Int32), L = [some (.ref 31), some (.int x1), some (.int x2)] ∧ (0 : Int) ≤ x2.toInt ∧ x2.toInt ≤ (1000 : Int) ∧ t = s0), (fun L _ => (0 + (1000 - (vg_li L 2).toInt) * 1000000000000).toNat))], ?_, List.forall_mem_cons.mpr ⟨?_, fun _ h => absurd h List.not_mem_nil⟩⟩
    ·
      exact ⟨rfl, ⟨(Int32.ofInt 0), (Int32.ofInt 0), rfl, (by omega), (by omega), rfl⟩, trivial⟩
    ·
      intro L s5 hL
      obtain ⟨w1, w2, rfl, b3, b4, q8⟩ := hL
      have q8 := q8.symm
      subst q8
      intro v9 e10
      have g11 : s0.1 31 5 = v9 := by rw [e10]
      have b12 : v9.toInt = (s0.1 31 5).toInt := congrArg Int32.toInt e10
      refine And.intro (fun c13 => ?_) (fun c13 => ?_)
      · have c13 : v9.toInt ≤ w2.toInt := c13
        refine And.intro (Nat.le_of_ble_eq_true rfl) (And.intro ⟨w1, rfl, trivial⟩ ?_)
        intro v14 s16 h15
        have h15 : s16 = s0 ∧ (True) := h15
        have q19 := h15.1.symm
        subst q19
        show s0 = s0 ∧ (True)
        exact ⟨rfl, (trivial)⟩
      · have c13 : ¬ (v9.toInt ≤ w2.toInt) := c13
        refine And.intro (Nat.le_of_ble_eq_true rfl) (And.intro ⟨31, w2, rfl, by decide, i0, by omega⟩ ?_)
        intro v20 s22 h21
        have h21 : s22 = s0 ∧ (True) := h21
        have q25 := h21.1.symm
        subst q25
        intro v26 e27
        intro v28 e29
        intro v30 e31
        have b32 := vg_add e31 (by omega) (by omega)
        exact ⟨rfl, ⟨v28, v30, rfl, (by omega), (by omega), rfl⟩, (by show (0 + (1000 - v30.toInt) * 1000000000000).toNat < (0 + (1000 - w2.toInt) * 1000000000000).toNat; omega)⟩
def o_X9_changes : List vg_I := [(0, .iconst 0, 1, 0, 0, 0, 0), (1, .istore_n 1, 1, 0, 0, 0, 0), (2, .iconst 0, 1, 0, 0, 0, 0), (3, .istore_n 2, 1, 0, 0, 0, 0), (4, .iload_n 2, 1, 0, 0, 0, 0), (5, .aload_n 0, 1, 0, 0, 0, 0), (6, .getfield 41, 3, 373, 9, 5, 0), (9, .if_icmp .ge 27, 3, 0, 0, 0, 0), (12, .aload_n 0, 1, 0, 0, 0, 0), (13, .iload_n 2, 1, 0, 0, 0, 0), (14, .invokevirtual 54, 3, 0, 9, 1, 985), (17, .aload_n 0, 1, 0, 0, 0, 0), (18, .iload_n 2, 1, 0, 0, 0, 0), (19, .iconst 1, 1, 0, 0, 0, 0), (20, .iadd, 1, 0, 0, 0, 0), (21, .invokevirtual 54, 3, 0, 9, 1, 985), (24, .if_icmp .eq 6, 3, 0, 0, 0, 0), (27, .iinc 1 1, 3, 0, 0, 0, 0), (30, .iinc 2 1, 3, 0, 0, 0, 0), (33, .goto (-29), 3, 0, 0, 0, 0), (36, .iload_n 1, 1, 0, 0, 0, 0), (37, .ireturn, 1, 0, 0, 0, 0)]
set_option maxRecDepth 100000 in
set_option maxHeartbeats 4000000 in
theorem c_X9_changes (l : Launch) (G : vg_G) (hp : vg_Hp G) : vg_Ct l G vg_sh r_X9_changes := by
  refine vg_meth hp vg_sh_ok r_X9_changes k_X9_changes rfl (fun h => by cases h) o_X9_changes [r_X9_patternAt] false (by decide +kernel) (by decide +kernel) ⟨_, _, rfl, rfl⟩ (List.forall_mem_cons.mpr ⟨⟨c_X9_patternAt l G hp, Nat.le_of_ble_eq_true rfl, Nat.le_of_ble_eq_true rfl⟩, fun _ h => absurd h List.not_mem_nil⟩) (fun h => by cases h) 600 ?_
  intro as s0 hpre
  obtain ⟨r, rfl, hr, i0, p0⟩ := hpre
  simp only [List.mem_cons, List.not_mem_nil, or_false] at hr
  rcases hr with rfl
  ·
    have z0 : (Int32.ofInt 0).toInt = 0 := by decide
    have z1 : (Int32.ofInt 1).toInt = 1 := by decide
    refine ⟨Nat.le_of_ble_eq_true rfl, [(4, [true, true, true], (fun L t => ∃ (x1 : Int32) (x2 : Int32), L = [some (.ref 31), some (.int x1), some (.int x2)] ∧ (0 : Int) ≤ x2.toInt ∧ x2.toInt ≤ (1000 : Int) ∧ t = s0), (fun L _ => (0 + (1000 - (vg_li L 2).toInt) * 1000000000000).toNat))], ?_, List.forall_mem_cons.mpr ⟨?_, fun _ h => absurd h List.not_mem_nil⟩⟩
    ·
      exact ⟨rfl, ⟨(Int32.ofInt 0), (Int32.ofInt 0), rfl, (by omega), (by omega), rfl⟩, trivial⟩
    ·
      intro L s5 hL
      obtain ⟨w1, w2, rfl, b3, b4, q8⟩ := hL
      have q8 := q8.symm
      subst q8
      intro v9 e10
      have g11 : s0.1 31 5 = v9 := by rw [e10]
      have b12 : v9.toInt = (s0.1 31 5).toInt := congrArg Int32.toInt e10
      refine And.intro (fun c13 => ?_) (fun c13 => ?_)
      · have c13 : v9.toInt ≤ w2.toInt := c13
        show s0 = s0 ∧ (True)
        exact ⟨rfl, (trivial)⟩
      · have c13 : ¬ (v9.toInt ≤ w2.toInt) := c13
        refine And.intro (Nat.le_of_ble_eq_true rfl) (And.intro ⟨31, w2, rfl, by decide, i0, by omega⟩ ?_)
        intro v14 s16 h15
        have h15 : s16 = s0 ∧ (True) := h15
        have q19 := h15.1.symm
        subst q19
        intro v20 e21
        have b22 := vg_add e21 (by omega) (by omega)
        refine And.intro (Nat.le_of_ble_eq_true rfl) (And.intro ⟨31, v20, rfl, by decide, i0, by omega⟩ ?_)
        intro v23 s25 h24
        have h24 : s25 = s0 ∧ (True) := h24
        have q28 := h24.1.symm
        subst q28
        refine And.intro (fun c29 => ?_) (fun c29 => ?_)
        · have c29 : v14.toInt = v23.toInt := c29
          intro v30 e31
          have b32 := vg_add e31 (by omega) (by omega)
          exact ⟨rfl, ⟨w1, v30, rfl, (by omega), (by omega), rfl⟩, (by show (0 + (1000 - v30.toInt) * 1000000000000).toNat < (0 + (1000 - w2.toInt) * 1000000000000).toNat; omega)⟩
        · have c29 : ¬ (v14.toInt = v23.toInt) := c29
          intro v33 e34
          intro v35 e36
          have b37 := vg_add e36 (by omega) (by omega)
          exact ⟨rfl, ⟨v33, v35, rfl, (by omega), (by omega), rfl⟩, (by show (0 + (1000 - v35.toInt) * 1000000000000).toNat < (0 + (1000 - w2.toInt) * 1000000000000).toNat; omega)⟩
def o_X9_longestRun : List vg_I := [(0, .aload_n 0, 1, 0, 0, 0, 0), (1, .invokevirtual 62, 3, 0, 9, 0, 1007), (4, .ifCond .ne 8, 3, 0, 0, 0, 0), (7, .aload_n 0, 1, 0, 0, 0, 0), (8, .getfield 41, 3, 373, 9, 5, 0), (11, .ireturn, 1, 0, 0, 0, 0), (12, .iconst 1, 1, 0, 0, 0, 0), (13, .istore_n 1, 1, 0, 0, 0, 0), (14, .iconst 1, 1, 0, 0, 0, 0), (15, .istore_n 2, 1, 0, 0, 0, 0), (16, .iconst 1, 1, 0, 0, 0, 0), (17, .istore_n 3, 1, 0, 0, 0, 0), (18, .iload_n 3, 1, 0, 0, 0, 0), (19, .iconst 2, 1, 0, 0, 0, 0), (20, .aload_n 0, 1, 0, 0, 0, 0), (21, .getfield 41, 3, 373, 9, 5, 0), (24, .imul, 1, 0, 0, 0, 0), (25, .if_icmp .ge 38, 3, 0, 0, 0, 0), (28, .aload_n 0, 1, 0, 0, 0, 0), (29, .iload_n 3, 1, 0, 0, 0, 0), (30, .invokevirtual 54, 3, 1, 9, 1, 985), (33, .aload_n 0, 1, 0, 0, 0, 0), (34, .iload_n 3, 1, 0, 0, 0, 0), (35, .iconst 1, 1, 0, 0, 0, 0), (36, .isub, 1, 0, 0, 0, 0), (37, .invokevirtual 54, 3, 1, 9, 1, 985), (40, .if_icmp .ne 9, 3, 0, 0, 0, 0), (43, .iload_n 2, 1, 0, 0, 0, 0), (44, .iconst 1, 1, 0, 0, 0, 0), (45, .iadd, 1, 0, 0, 0, 0), (46, .goto 4, 3, 0, 0, 0, 0), (49, .iconst 1, 1, 0, 0, 0, 0), (50, .istore_n 2, 1, 0, 0, 0, 0), (51, .iload_n 1, 1, 0, 0, 0, 0), (52, .iload_n 2, 1, 0, 0, 0, 0), (53, .invokestatic 66, 3, 2, 1, 2, 1008), (56, .istore_n 1, 1, 0, 0, 0, 0), (57, .iinc 3 1, 3, 0, 0, 0, 0), (60, .goto (-42), 3, 0, 0, 0, 0), (63, .iload_n 1, 1, 0, 0, 0, 0), (64, .ireturn, 1, 0, 0, 0, 0)]
set_option maxRecDepth 100000 in
set_option maxHeartbeats 4000000 in
theorem c_X9_longestRun (l : Launch) (G : vg_G) (hp : vg_Hp G) : vg_Ct l G vg_sh r_X9_longestRun := by
  refine vg_meth hp vg_sh_ok r_X9_longestRun k_X9_longestRun rfl (fun h => by cases h) o_X9_longestRun [r_X9_changes, r_X9_patternAt, r_J9_max_7cf53] false (by decide +kernel) (by decide +kernel) ⟨_, _, rfl, rfl⟩ (List.forall_mem_cons.mpr ⟨⟨c_X9_changes l G hp, Nat.le_of_ble_eq_true rfl, Nat.le_of_ble_eq_true rfl⟩, List.forall_mem_cons.mpr ⟨⟨c_X9_patternAt l G hp, Nat.le_of_ble_eq_true rfl, Nat.le_of_ble_eq_true rfl⟩, List.forall_mem_cons.mpr ⟨⟨c_J9_max_7cf53 l G hp, Nat.le_of_ble_eq_true rfl, Nat.le_of_ble_eq_true rfl⟩, fun _ h => absurd h List.not_mem_nil⟩⟩⟩) (fun h => by cases h) 600 ?_
  intro as s0 hpre
  obtain ⟨r, rfl, hr, i0, p0⟩ := hpre
  simp only [List.mem_cons, List.not_mem_nil, or_false] at hr
  rcases hr with rfl
  ·
    have z1 : (Int32.ofInt 1).toInt = 1 := by decide
    have z2 : (Int32.ofInt 2).toInt = 2 := by decide
    refine ⟨Nat.le_of_ble_eq_true rfl, [(18, [true, true, true, true], (fun L t => ∃ (x1 : Int32) (x2 : Int32) (x3 : Int32), L = [some (.ref 31), some (.int x1), some (.int x2), some (.int x3)] ∧ (1 : Int) ≤ x3.toInt ∧ x3.toInt ≤ (2000 : Int) ∧ t = s0), (fun L _ => (2000 - (vg_li L 3).toInt).toNat))], ?_, List.forall_mem_cons.mpr ⟨?_, fun _ h => absurd h List.not_mem_nil⟩⟩
    ·
      refine And.intro (Nat.le_of_ble_eq_true rfl) (And.intro ⟨31, rfl, by decide, i0, by omega⟩ ?_)
      intro v1 s3 h2
      have h2 : s3 = s0 ∧ (True) := h2
      have q6 := h2.1.symm
      subst q6
      refine And.intro (fun c7 => ?_) (fun c7 => ?_)
      · have c7 : ¬ v1.toInt = 0 := c7
        exact ⟨rfl, ⟨(Int32.ofInt 1), (Int32.ofInt 1), (Int32.ofInt 1), rfl, (by omega), (by omega), rfl⟩, trivial⟩
      · have c7 : ¬ (¬ v1.toInt = 0) := c7
        intro v8 e9
        have g10 : s0.1 31 5 = v8 := by rw [e9]
        have b11 : v8.toInt = (s0.1 31 5).toInt := congrArg Int32.toInt e9
        show s0 = s0 ∧ (True)
        exact ⟨rfl, (trivial)⟩
    ·
      intro L s17 hL
      obtain ⟨w12, w13, w14, rfl, b15, b16, q20⟩ := hL
      have q20 := q20.symm
      subst q20
      intro v21 e22
      have g23 : s0.1 31 5 = v21 := by rw [e22]
      have b24 : v21.toInt = (s0.1 31 5).toInt := congrArg Int32.toInt e22
      intro v25 e26
      have b27 : v25.toInt = (2) * v21.toInt := vg_mulL e26 (by omega) (by omega) (by omega)
      refine And.intro (fun c28 => ?_) (fun c28 => ?_)
      · have c28 : v25.toInt ≤ w14.toInt := c28
        show s0 = s0 ∧ (True)
        exact ⟨rfl, (trivial)⟩
      · have c28 : ¬ (v25.toInt ≤ w14.toInt) := c28
        refine And.intro (Nat.le_of_ble_eq_true rfl) (And.intro ⟨31, w14, rfl, by decide, i0, by omega⟩ ?_)
        intro v29 s31 h30
        have h30 : s31 = s0 ∧ (True) := h30
        have q34 := h30.1.symm
        subst q34
        intro v35 e36
        have b37 := vg_sub e36 (by omega) (by omega)
        refine And.intro (Nat.le_of_ble_eq_true rfl) (And.intro ⟨31, v35, rfl, by decide, i0, by omega⟩ ?_)
        intro v38 s40 h39
        have h39 : s40 = s0 ∧ (True) := h39
        have q43 := h39.1.symm
        subst q43
        refine And.intro (fun c44 => ?_) (fun c44 => ?_)
        · have c44 : ¬ v29.toInt = v38.toInt := c44
          refine And.intro (Nat.le_of_ble_eq_true rfl) (And.intro ⟨w12, (Int32.ofInt 1), rfl, trivial⟩ ?_)
          intro v45 s47 h46
          have h46 : s47 = s0 ∧ (w12.toInt ≤ v45.toInt ∧ (Int32.ofInt 1).toInt ≤ v45.toInt ∧ (v45.toInt = w12.toInt ∨ v45.toInt = (Int32.ofInt 1).toInt)) := h46
          have q50 := h46.1.symm
          subst q50
          have q51 := h46.2
          intro v52 e53
          have b54 := vg_add e53 (by omega) (by omega)
          exact ⟨rfl, ⟨v45, (Int32.ofInt 1), v52, rfl, (by omega), (by omega), rfl⟩, (by show (2000 - v52.toInt).toNat < (2000 - w14.toInt).toNat; omega)⟩
        · have c44 : ¬ (¬ v29.toInt = v38.toInt) := c44
          intro v55 e56
          refine And.intro (Nat.le_of_ble_eq_true rfl) (And.intro ⟨w12, v55, rfl, trivial⟩ ?_)
          intro v57 s59 h58
          have h58 : s59 = s0 ∧ (w12.toInt ≤ v57.toInt ∧ v55.toInt ≤ v57.toInt ∧ (v57.toInt = w12.toInt ∨ v57.toInt = v55.toInt)) := h58
          have q62 := h58.1.symm
          subst q62
          have q63 := h58.2
          intro v64 e65
          have b66 := vg_add e65 (by omega) (by omega)
          exact ⟨rfl, ⟨v57, v55, v64, rfl, (by omega), (by omega), rfl⟩, (by show (2000 - v64.toInt).toNat < (2000 - w14.toInt).toNat; omega)⟩
