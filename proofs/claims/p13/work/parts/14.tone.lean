def o_X9_cellOf : List vg_I := [(0, .iconst 0, 1, 0, 0, 0, 0), (1, .istore_n 2, 1, 0, 0, 0, 0), (2, .iconst 0, 1, 0, 0, 0, 0), (3, .istore_n 3, 1, 0, 0, 0, 0), (4, .iload_n 3, 1, 0, 0, 0, 0), (5, .bipush 10, 2, 0, 0, 0, 0), (7, .if_icmp .ge 33, 3, 0, 0, 0, 0), (10, .iload_n 2, 1, 0, 0, 0, 0), (11, .aload_n 0, 1, 0, 0, 0, 0), (12, .getfield 17, 3, 367, 9, 1, 0), (15, .iload_n 1, 1, 0, 0, 0, 0), (16, .bipush 10, 2, 0, 0, 0, 0), (18, .imul, 1, 0, 0, 0, 0), (19, .iload_n 3, 1, 0, 0, 0, 0), (20, .iadd, 1, 0, 0, 0, 0), (21, .iaload, 1, 0, 0, 0, 0), (22, .ixor, 1, 0, 0, 0, 0), (23, .ldc 79, 2, 975, 0, 0, -1640531535), (25, .imul, 1, 0, 0, 0, 0), (26, .istore_n 2, 1, 0, 0, 0, 0), (27, .iload_n 2, 1, 0, 0, 0, 0), (28, .iload_n 2, 1, 0, 0, 0, 0), (29, .bipush 15, 2, 0, 0, 0, 0), (31, .iushr, 1, 0, 0, 0, 0), (32, .ixor, 1, 0, 0, 0, 0), (33, .istore_n 2, 1, 0, 0, 0, 0), (34, .iinc 3 1, 3, 0, 0, 0, 0), (37, .goto (-33), 3, 0, 0, 0, 0), (40, .iload_n 2, 1, 0, 0, 0, 0), (41, .sipush 2047, 3, 0, 0, 0, 0), (44, .iand, 1, 0, 0, 0, 0), (45, .ireturn, 1, 0, 0, 0, 0)]
set_option maxRecDepth 100000 in
set_option maxHeartbeats 4000000 in
theorem c_X9_cellOf (l : Launch) (G : vg_G) (hp : vg_Hp G) : vg_Ct l G vg_sh r_X9_cellOf := by
  refine vg_meth hp vg_sh_ok r_X9_cellOf k_X9_cellOf rfl (fun h => by cases h) o_X9_cellOf [] false (by decide +kernel) (by decide +kernel) ⟨_, _, rfl, rfl⟩ (fun _ h => absurd h List.not_mem_nil) (fun h => by cases h) 600 ?_
  intro as s0 hpre
  obtain ⟨r, a1, rfl, hr, i0, p0⟩ := hpre
  simp only [List.mem_cons, List.not_mem_nil, or_false] at hr
  rcases hr with rfl
  ·
    have zm1640531535 : (Int32.ofInt (-1640531535)).toInt = -1640531535 := by decide
    have z0 : (Int32.ofInt 0).toInt = 0 := by decide
    have z1 : (Int32.ofInt 1).toInt = 1 := by decide
    have z10 : (Int32.ofInt 10).toInt = 10 := by decide
    have z15 : (Int32.ofInt 15).toInt = 15 := by decide
    have z2047 : (Int32.ofInt 2047).toInt = 2047 := by decide
    refine ⟨Nat.le_of_ble_eq_true rfl, [(4, [true, true, true, true], (fun L t => ∃ (x2 : Int32) (x3 : Int32), L = [some (.ref 31), some (.int a1), some (.int x2), some (.int x3)] ∧ (0 : Int) ≤ x3.toInt ∧ x3.toInt ≤ (10 : Int) ∧ t = s0), (fun L _ => (0 + (10 - (vg_li L 3).toInt) * 1000000000000).toNat))], ?_, List.forall_mem_cons.mpr ⟨?_, fun _ h => absurd h List.not_mem_nil⟩⟩
    ·
      exact ⟨rfl, ⟨(Int32.ofInt 0), (Int32.ofInt 0), rfl, (by omega), (by omega), rfl⟩, trivial⟩
    ·
      intro L s5 hL
      obtain ⟨w1, w2, rfl, b3, b4, q8⟩ := hL
      have q8 := q8.symm
      subst q8
      refine And.intro (fun c9 => ?_) (fun c9 => ?_)
      · have c9 : (Int32.ofInt 10).toInt ≤ w2.toInt := c9
        intro v10 e11
        have b12 := vg_and e11 (by omega)
        show s0 = s0 ∧ (0 ≤ v10.toInt ∧ v10.toInt ≤ 2047)
        exact ⟨rfl, (by first | trivial | omega | assumption)⟩
      · have c9 : ¬ ((Int32.ofInt 10).toInt ≤ w2.toInt) := c9
        intro v13 e14
        have b15 : v13.toInt = a1.toInt * (10) := vg_mulR e14 (by omega) (by omega) (by omega)
        intro v16 e17
        have b18 := vg_add e17 (by omega) (by omega)
        refine And.intro ⟨by omega, by omega⟩ ?_
        intro v19 e20
        intro v21 e22
        intro v23 e24
        intro v25 e26
        intro v27 e28
        intro v29 e30
        have b31 := vg_add e30 (by omega) (by omega)
        exact ⟨rfl, ⟨v27, v29, rfl, (by omega), (by omega), rfl⟩, (by show (0 + (10 - v29.toInt) * 1000000000000).toNat < (0 + (10 - w2.toInt) * 1000000000000).toNat; omega)⟩
def o_X9_isSame : List vg_I := [(0, .iconst 0, 1, 0, 0, 0, 0), (1, .istore_n 3, 1, 0, 0, 0, 0), (2, .iload_n 3, 1, 0, 0, 0, 0), (3, .bipush 10, 2, 0, 0, 0, 0), (5, .if_icmp .ge 36, 3, 0, 0, 0, 0), (8, .aload_n 0, 1, 0, 0, 0, 0), (9, .getfield 17, 3, 367, 9, 1, 0), (12, .iload_n 1, 1, 0, 0, 0, 0), (13, .bipush 10, 2, 0, 0, 0, 0), (15, .imul, 1, 0, 0, 0, 0), (16, .iload_n 3, 1, 0, 0, 0, 0), (17, .iadd, 1, 0, 0, 0, 0), (18, .iaload, 1, 0, 0, 0, 0), (19, .aload_n 0, 1, 0, 0, 0, 0), (20, .getfield 17, 3, 367, 9, 1, 0), (23, .iload_n 2, 1, 0, 0, 0, 0), (24, .bipush 10, 2, 0, 0, 0, 0), (26, .imul, 1, 0, 0, 0, 0), (27, .iload_n 3, 1, 0, 0, 0, 0), (28, .iadd, 1, 0, 0, 0, 0), (29, .iaload, 1, 0, 0, 0, 0), (30, .if_icmp .eq 5, 3, 0, 0, 0, 0), (33, .iconst 0, 1, 0, 0, 0, 0), (34, .ireturn, 1, 0, 0, 0, 1), (35, .iinc 3 1, 3, 0, 0, 0, 0), (38, .goto (-36), 3, 0, 0, 0, 0), (41, .iconst 1, 1, 0, 0, 0, 0), (42, .ireturn, 1, 0, 0, 0, 1)]
set_option maxRecDepth 100000 in
set_option maxHeartbeats 4000000 in
theorem c_X9_isSame (l : Launch) (G : vg_G) (hp : vg_Hp G) : vg_Ct l G vg_sh r_X9_isSame := by
  refine vg_meth hp vg_sh_ok r_X9_isSame k_X9_isSame rfl (fun h => by cases h) o_X9_isSame [] false (by decide +kernel) (by decide +kernel) ⟨_, _, rfl, rfl⟩ (fun _ h => absurd h List.not_mem_nil) (fun h => by cases h) 600 ?_
  intro as s0 hpre
  obtain ⟨r, a1, a2, rfl, hr, i0, p0⟩ := hpre
  simp only [List.mem_cons, List.not_mem_nil, or_false] at hr
  rcases hr with rfl
  ·
    have z0 : (Int32.ofInt 0).toInt = 0 := by decide
    have z1 : (Int32.ofInt 1).toInt = 1 := by decide
    have z10 : (Int32.ofInt 10).toInt = 10 := by decide
    refine ⟨Nat.le_of_ble_eq_true rfl, [(2, [true, true, true, true], (fun L t => ∃ (x3 : Int32), L = [some (.ref 31), some (.int a1), some (.int a2), some (.int x3)] ∧ (0 : Int) ≤ x3.toInt ∧ x3.toInt ≤ (10 : Int) ∧ t = s0), (fun L _ => (0 + (10 - (vg_li L 3).toInt) * 1000000000000).toNat))], ?_, List.forall_mem_cons.mpr ⟨?_, fun _ h => absurd h List.not_mem_nil⟩⟩
    ·
      exact ⟨rfl, ⟨(Int32.ofInt 0), rfl, (by omega), (by omega), rfl⟩, trivial⟩
    ·
      intro L s4 hL
      obtain ⟨w1, rfl, b2, b3, q7⟩ := hL
      have q7 := q7.symm
      subst q7
      refine And.intro (fun c8 => ?_) (fun c8 => ?_)
      · have c8 : (Int32.ofInt 10).toInt ≤ w1.toInt := c8
        refine And.intro (by first | exact Or.inl rfl | exact Or.inr rfl | exact vg_01 (by omega) (by omega)) ?_
        show s0 = s0 ∧ (0 ≤ (Int32.ofInt 1).toInt ∧ (Int32.ofInt 1).toInt ≤ 1)
        exact ⟨rfl, (by first | trivial | omega | assumption)⟩
      · have c8 : ¬ ((Int32.ofInt 10).toInt ≤ w1.toInt) := c8
        intro v9 e10
        have b11 : v9.toInt = a1.toInt * (10) := vg_mulR e10 (by omega) (by omega) (by omega)
        intro v12 e13
        have b14 := vg_add e13 (by omega) (by omega)
        refine And.intro ⟨by omega, by omega⟩ ?_
        intro v15 e16
        intro v17 e18
        have b19 : v17.toInt = a2.toInt * (10) := vg_mulR e18 (by omega) (by omega) (by omega)
        intro v20 e21
        have b22 := vg_add e21 (by omega) (by omega)
        refine And.intro ⟨by omega, by omega⟩ ?_
        intro v23 e24
        refine And.intro (fun c25 => ?_) (fun c25 => ?_)
        · have c25 : v15.toInt = v23.toInt := c25
          intro v26 e27
          have b28 := vg_add e27 (by omega) (by omega)
          exact ⟨rfl, ⟨v26, rfl, (by omega), (by omega), rfl⟩, (by show (0 + (10 - v26.toInt) * 1000000000000).toNat < (0 + (10 - w1.toInt) * 1000000000000).toNat; omega)⟩
        · have c25 : ¬ (v15.toInt = v23.toInt) := c25
          refine And.intro (by first | exact Or.inl rfl | exact Or.inr rfl | exact vg_01 (by omega) (by omega)) ?_
          show s0 = s0 ∧ (0 ≤ (Int32.ofInt 0).toInt ∧ (Int32.ofInt 0).toInt ≤ 1)
          exact ⟨rfl, (by first | trivial | omega | assumption)⟩
def o_X9_findOrPut : List vg_I := [(0, .aload_n 0, 1, 0, 0, 0, 0), (1, .iload_n 1, 1, 0, 0, 0, 0), (2, .invokevirtual 72, 3, 0, 9, 1, 971), (5, .istore_n 2, 1, 0, 0, 0, 0), (6, .iconst 0, 1, 0, 0, 0, 0), (7, .istore_n 3, 1, 0, 0, 0, 0), (8, .iload_n 3, 1, 0, 0, 0, 0), (9, .sipush 2048, 3, 0, 0, 0, 0), (12, .if_icmp .ge 67, 3, 0, 0, 0, 0), (15, .iload_n 2, 1, 0, 0, 0, 0), (16, .iload_n 3, 1, 0, 0, 0, 0), (17, .iadd, 1, 0, 0, 0, 0), (18, .sipush 2047, 3, 0, 0, 0, 0), (21, .iand, 1, 0, 0, 0, 0), (22, .istore 4, 2, 0, 0, 0, 0), (24, .aload_n 0, 1, 0, 0, 0, 0), (25, .getfield 20, 3, 368, 9, 2, 0), (28, .iload 4, 2, 0, 0, 0, 0), (30, .iaload, 1, 0, 0, 0, 0), (31, .ifCond .ne 15, 3, 0, 0, 0, 0), (34, .aload_n 0, 1, 0, 0, 0, 0), (35, .getfield 20, 3, 368, 9, 2, 0), (38, .iload 4, 2, 0, 0, 0, 0), (40, .iload_n 1, 1, 0, 0, 0, 0), (41, .iconst 1, 1, 0, 0, 0, 0), (42, .iadd, 1, 0, 0, 0, 0), (43, .iastore, 1, 0, 0, 0, 0), (44, .iconst (-1), 1, 0, 0, 0, 0), (45, .ireturn, 1, 0, 0, 0, 0), (46, .aload_n 0, 1, 0, 0, 0, 0), (47, .aload_n 0, 1, 0, 0, 0, 0), (48, .getfield 20, 3, 368, 9, 2, 0), (51, .iload 4, 2, 0, 0, 0, 0), (53, .iaload, 1, 0, 0, 0, 0), (54, .iconst 1, 1, 0, 0, 0, 0), (55, .isub, 1, 0, 0, 0, 0), (56, .iload_n 1, 1, 0, 0, 0, 0), (57, .invokevirtual 75, 3, 1, 9, 2, 976), (60, .ifCond .eq 13, 3, 0, 0, 0, 0), (63, .aload_n 0, 1, 0, 0, 0, 0), (64, .getfield 20, 3, 368, 9, 2, 0), (67, .iload 4, 2, 0, 0, 0, 0), (69, .iaload, 1, 0, 0, 0, 0), (70, .iconst 1, 1, 0, 0, 0, 0), (71, .isub, 1, 0, 0, 0, 0), (72, .ireturn, 1, 0, 0, 0, 0), (73, .iinc 3 1, 3, 0, 0, 0, 0), (76, .goto (-68), 3, 0, 0, 0, 0), (79, .iconst (-1), 1, 0, 0, 0, 0), (80, .ireturn, 1, 0, 0, 0, 0)]
set_option maxRecDepth 100000 in
set_option maxHeartbeats 4000000 in
theorem c_X9_findOrPut (l : Launch) (G : vg_G) (hp : vg_Hp G) : vg_Ct l G vg_sh r_X9_findOrPut := by
  refine vg_meth hp vg_sh_ok r_X9_findOrPut k_X9_findOrPut rfl (fun h => by cases h) o_X9_findOrPut [r_X9_cellOf, r_X9_isSame] false (by decide +kernel) (by decide +kernel) ⟨_, _, rfl, rfl⟩ (List.forall_mem_cons.mpr ⟨⟨c_X9_cellOf l G hp, Nat.le_of_ble_eq_true rfl, Nat.le_of_ble_eq_true rfl⟩, List.forall_mem_cons.mpr ⟨⟨c_X9_isSame l G hp, Nat.le_of_ble_eq_true rfl, Nat.le_of_ble_eq_true rfl⟩, fun _ h => absurd h List.not_mem_nil⟩⟩) (fun h => by cases h) 600 ?_
  intro as s0 hpre
  obtain ⟨r, a1, rfl, hr, i0, p0⟩ := hpre
  simp only [List.mem_cons, List.not_mem_nil, or_false] at hr
  rcases hr with rfl
  ·
    have zm1 : (Int32.ofInt (-1)).toInt = -1 := by decide
    have z0 : (Int32.ofInt 0).toInt = 0 := by decide
    have z1 : (Int32.ofInt 1).toInt = 1 := by decide
    have z2047 : (Int32.ofInt 2047).toInt = 2047 := by decide
    have z2048 : (Int32.ofInt 2048).toInt = 2048 := by decide
    refine ⟨Nat.le_of_ble_eq_true rfl, [(8, [true, true, true, true, false], (fun L t => ∃ (x2 : Int32) (x3 : Int32), L = [some (.ref 31), some (.int a1), some (.int x2), some (.int x3), none] ∧ (0 : Int) ≤ x2.toInt ∧ x2.toInt ≤ (2047 : Int) ∧ (0 : Int) ≤ x3.toInt ∧ x3.toInt ≤ (2048 : Int) ∧ (∀ j : Nat, j < 2048 → 0 ≤ (t.1 34 j).toInt ∧ (t.1 34 j).toInt ≤ a1.toInt) ∧ Iv t ∧ Kc s0 t), (fun L _ => (0 + (2048 - (vg_li L 3).toInt) * 1000000000000).toNat))], ?_, List.forall_mem_cons.mpr ⟨?_, fun _ h => absurd h List.not_mem_nil⟩⟩
    ·
      refine And.intro (Nat.le_of_ble_eq_true rfl) (And.intro ⟨31, a1, rfl, by decide, i0, by omega⟩ ?_)
      intro v1 s3 h2
      have h2 : s3 = s0 ∧ (0 ≤ v1.toInt ∧ v1.toInt ≤ 2047) := h2
      have q6 := h2.1.symm
      subst q6
      have q7 := h2.2
      exact ⟨rfl, ⟨v1, (Int32.ofInt 0), rfl, (by omega), (by omega), (by omega), (by omega), (by first | exact None | exact p0.2), i0, Kx.rf⟩, trivial⟩
    ·
      intro L s15 hL
      obtain ⟨w8, w11, rfl, b9, b10, b12, b13, x14, i16, k17⟩ := hL
      refine And.intro (fun c18 => ?_) (fun c18 => ?_)
      · have c18 : (Int32.ofInt 2048).toInt ≤ w11.toInt := c18
        show Iv s15 ∧ Kc s0 s15 ∧ (((Int32.ofInt (-1)).toInt = -1 ∨ (0 ≤ (Int32.ofInt (-1)).toInt ∧ (Int32.ofInt (-1)).toInt < a1.toInt)) ∧ ∀ j : Nat, j < 2048 → 0 ≤ (s15.1 34 j).toInt ∧ (s15.1 34 j).toInt ≤ a1.toInt + 1)
        exact ⟨i16, k17, (by refine ⟨by omega, fun j hj => ?_⟩; first | (rw [rfl]; exact vg_cells1 x14 (by omega) j hj) | (have h9 := x14 j hj; omega))⟩
      · have c18 : ¬ ((Int32.ofInt 2048).toInt ≤ w11.toInt) := c18
        intro v19 e20
        have b21 := vg_add e20 (by omega) (by omega)
        intro v22 e23
        have b24 := vg_and e23 (by omega)
        refine And.intro ⟨by omega, by omega⟩ ?_
        intro v25 e26
        have b27 : 0 ≤ v25.toInt ∧ v25.toInt ≤ a1.toInt := by rw [e26]; exact x14 _ (by have h9 : v22.toNatClampNeg = v22.toInt.toNat := rfl; omega)
        refine And.intro (fun c28 => ?_) (fun c28 => ?_)
        · have c28 : ¬ v25.toInt = 0 := c28
          refine And.intro ⟨by omega, by omega⟩ ?_
          intro v29 e30
          have w31 : v25 = v29 := by rw [e30, e26]
          subst w31
          intro v32 e33
          have b34 := vg_sub e33 (by omega) (by omega)
          refine And.intro (Nat.le_of_ble_eq_true rfl) (And.intro ⟨31, v32, a1, rfl, by decide, i16, by omega⟩ ?_)
          intro v35 s37 h36
          have h36 : s37 = s15 ∧ (0 ≤ v35.toInt ∧ v35.toInt ≤ 1) := h36
          have q40 := h36.1.symm
          subst q40
          have q41 := h36.2
          refine And.intro (fun c42 => ?_) (fun c42 => ?_)
          · have c42 : v35.toInt = 0 := c42
            intro v43 e44
            have b45 := vg_add e44 (by omega) (by omega)
            exact ⟨rfl, ⟨w8, v43, rfl, (by omega), (by omega), (by omega), (by omega), (by first | exact x14 | exact p0.2), i16, k17⟩, (by show (0 + (2048 - v43.toInt) * 1000000000000).toNat < (0 + (2048 - w11.toInt) * 1000000000000).toNat; omega)⟩
          · have c42 : ¬ (v35.toInt = 0) := c42
            refine And.intro ⟨by omega, by omega⟩ ?_
            intro v46 e47
            have w48 : v25 = v46 := by rw [e47, e26]
            subst w48
            intro v49 e50
            have b51 := vg_sub e50 (by omega) (by omega)
            show Iv s15 ∧ Kc s0 s15 ∧ ((v49.toInt = -1 ∨ (0 ≤ v49.toInt ∧ v49.toInt < a1.toInt)) ∧ ∀ j : Nat, j < 2048 → 0 ≤ (s15.1 34 j).toInt ∧ (s15.1 34 j).toInt ≤ a1.toInt + 1)
            exact ⟨i16, k17, (by refine ⟨by omega, fun j hj => ?_⟩; first | (rw [rfl]; exact vg_cells1 x14 (by omega) j hj) | (have h9 := x14 j hj; omega))⟩
        · have c28 : ¬ (¬ v25.toInt = 0) := c28
          intro v52 e53
          have b54 := vg_add e53 (by omega) (by omega)
          refine And.intro ⟨by omega, by omega⟩ ?_
          intro s55 e56
          have i57 : Iv s55 := Iv.a1 i16 e56 rfl
          have k58 : Kc s0 s55 := Kx.u1 k17 e56 rfl
          show Iv s55 ∧ Kc s0 s55 ∧ (((Int32.ofInt (-1)).toInt = -1 ∨ (0 ≤ (Int32.ofInt (-1)).toInt ∧ (Int32.ofInt (-1)).toInt < a1.toInt)) ∧ ∀ j : Nat, j < 2048 → 0 ≤ (s55.1 34 j).toInt ∧ (s55.1 34 j).toInt ≤ a1.toInt + 1)
          exact ⟨i57, k58, (by refine ⟨by omega, fun j hj => ?_⟩; first | (rw [e56]; exact vg_cells1 x14 (by omega) j hj) | (have h9 := x14 j hj; omega))⟩
def o_X9_follow : List vg_I := [(0, .aload_n 1, 1, 0, 0, 0, 0), (1, .aload_n 2, 1, 0, 0, 0, 0), (2, .invokevirtual 23, 3, 0, 5, 1, 952), (5, .aload_n 0, 1, 0, 0, 0, 0), (6, .getfield 20, 3, 368, 9, 2, 0), (9, .iconst 0, 1, 0, 0, 0, 0), (10, .invokestatic 27, 3, 1, 1, 2, 961), (13, .aload_n 0, 1, 0, 0, 0, 0), (14, .iconst 0, 1, 0, 0, 0, 0), (15, .putfield 33, 3, 369, 9, 3, 1), (18, .aload_n 0, 1, 0, 0, 0, 0), (19, .iconst 0, 1, 0, 0, 0, 0), (20, .putfield 37, 3, 371, 9, 4, 0), (23, .aload_n 0, 1, 0, 0, 0, 0), (24, .iconst 0, 1, 0, 0, 0, 0), (25, .putfield 41, 3, 373, 9, 5, 0), (28, .iconst 0, 1, 0, 0, 0, 0), (29, .istore 4, 2, 0, 0, 0, 0), (31, .iload 4, 2, 0, 0, 0, 0), (33, .sipush 1000, 3, 0, 0, 0, 0), (36, .if_icmp .gt 77, 3, 0, 0, 0, 0), (39, .aload_n 1, 1, 0, 0, 0, 0), (40, .aload_n 0, 1, 0, 0, 0, 0), (41, .getfield 17, 3, 367, 9, 1, 0), (44, .iload 4, 2, 0, 0, 0, 0), (46, .bipush 10, 2, 0, 0, 0, 0), (48, .imul, 1, 0, 0, 0, 0), (49, .invokevirtual 44, 3, 2, 5, 2, 962), (52, .aload_n 0, 1, 0, 0, 0, 0), (53, .iload 4, 2, 0, 0, 0, 0), (55, .invokevirtual 47, 3, 3, 9, 1, 967), (58, .istore 5, 2, 0, 0, 0, 0), (60, .iload 5, 2, 0, 0, 0, 0), (62, .iconst (-1), 1, 0, 0, 0, 0), (63, .if_icmp .eq 24, 3, 0, 0, 0, 0), (66, .aload_n 0, 1, 0, 0, 0, 0), (67, .iconst 1, 1, 0, 0, 0, 0), (68, .putfield 33, 3, 369, 9, 3, 1), (71, .aload_n 0, 1, 0, 0, 0, 0), (72, .iload 5, 2, 0, 0, 0, 0), (74, .putfield 37, 3, 371, 9, 4, 0), (77, .aload_n 0, 1, 0, 0, 0, 0), (78, .iload 4, 2, 0, 0, 0, 0), (80, .iload 5, 2, 0, 0, 0, 0), (82, .isub, 1, 0, 0, 0, 0), (83, .putfield 41, 3, 373, 9, 5, 0), (86, .return_, 1, 0, 0, 0, 0), (87, .iload 4, 2, 0, 0, 0, 0), (89, .sipush 1000, 3, 0, 0, 0, 0), (92, .if_icmp .ge 15, 3, 0, 0, 0, 0), (95, .aload_n 0, 1, 0, 0, 0, 0), (96, .getfield 11, 3, 366, 9, 0, 0), (99, .iload 4, 2, 0, 0, 0, 0), (101, .aload_n 1, 1, 0, 0, 0, 0), (102, .iload_n 3, 1, 0, 0, 0, 0), (103, .invokevirtual 51, 3, 4, 5, 1, 980), (106, .iastore, 1, 0, 0, 0, 0), (107, .iinc 4 1, 3, 0, 0, 0, 0), (110, .goto (-79), 3, 0, 0, 0, 0), (113, .return_, 1, 0, 0, 0, 0)]
set_option maxRecDepth 100000 in
set_option maxHeartbeats 4000000 in
theorem c_X9_follow (l : Launch) (G : vg_G) (hp : vg_Hp G) : vg_Ct l G vg_sh r_X9_follow := by
  refine vg_meth hp vg_sh_ok r_X9_follow k_X9_follow rfl (fun h => by cases h) o_X9_follow [r_X5_beginTone, r_J7_fill_53178_at34, r_X5_writeWords, r_X9_findOrPut, r_X5_advance] false (by decide +kernel) (by decide +kernel) ⟨_, _, rfl, rfl⟩ (List.forall_mem_cons.mpr ⟨⟨c_X5_beginTone l G hp, Nat.le_of_ble_eq_true rfl, Nat.le_of_ble_eq_true rfl⟩, List.forall_mem_cons.mpr ⟨⟨c_J7_fill_53178_at34 l G hp, Nat.le_of_ble_eq_true rfl, Nat.le_of_ble_eq_true rfl⟩, List.forall_mem_cons.mpr ⟨⟨c_X5_writeWords l G hp, Nat.le_of_ble_eq_true rfl, Nat.le_of_ble_eq_true rfl⟩, List.forall_mem_cons.mpr ⟨⟨c_X9_findOrPut l G hp, Nat.le_of_ble_eq_true rfl, Nat.le_of_ble_eq_true rfl⟩, List.forall_mem_cons.mpr ⟨⟨c_X5_advance l G hp, Nat.le_of_ble_eq_true rfl, Nat.le_of_ble_eq_true rfl⟩, fun _ h => absurd h List.not_mem_nil⟩⟩⟩⟩⟩) (fun h => by cases h) 600 ?_
  intro as s0 hpre
  obtain ⟨r, a1, a2, a3, rfl, hr, ha1, ha2, i0⟩ := hpre
  simp only [List.mem_cons, List.not_mem_nil, or_false] at hr
  rcases hr with rfl
  ·
    simp only [List.mem_cons, List.not_mem_nil, or_false] at ha1
    rcases ha1 with rfl
    ·
      simp only [List.mem_cons, List.not_mem_nil, or_false] at ha2
      rcases ha2 with rfl
      ·
        have zm1 : (Int32.ofInt (-1)).toInt = -1 := by decide
        have z0 : (Int32.ofInt 0).toInt = 0 := by decide
        have z1 : (Int32.ofInt 1).toInt = 1 := by decide
        have z10 : (Int32.ofInt 10).toInt = 10 := by decide
        have z1000 : (Int32.ofInt 1000).toInt = 1000 := by decide
        refine ⟨Nat.le_of_ble_eq_true rfl, [(31, [true, true, false, true, true, false], (fun L t => ∃ (x4 : Int32), L = [some (.ref 31), some (.ref 22), none, some (.int a3), some (.int x4), none] ∧ (0 : Int) ≤ x4.toInt ∧ x4.toInt ≤ (1001 : Int) ∧ ((∀ j : Nat, j < 2048 → 0 ≤ (t.1 34 j).toInt ∧ (t.1 34 j).toInt ≤ x4.toInt) ∧ (t.1 31 4).toInt = 0 ∧ (t.1 31 5).toInt = 0) ∧ Iv t ∧ Kr s0 t), (fun L _ => (0 + (1001 - (vg_li L 4).toInt) * 1000000000000).toNat))], ?_, List.forall_mem_cons.mpr ⟨?_, fun _ h => absurd h List.not_mem_nil⟩⟩
        ·
          refine And.intro (Nat.le_of_ble_eq_true rfl) (And.intro ⟨22, 4, rfl, by decide, by decide, i0⟩ ?_)
          intro s2 h1
          have h1 : Iv s2 ∧ Kp s0 s2 ∧ (True) := h1
          have i3 := h1.1
          have k4 : Kr s0 s2 := Kx.tr Kx.rf (((h1.2.1).pc).cr)
          refine And.intro (Nat.le_of_ble_eq_true rfl) (And.intro ⟨34, (Int32.ofInt 0), rfl, by decide, i3⟩ ?_)
          intro s6 h5
          have h5 : Iv s6 ∧ Kc s2 s6 ∧ (∀ j : Nat, j < 2048 → s6.1 34 j = (Int32.ofInt 0)) := h5
          have i7 := h5.1
          have k8 : Kr s0 s6 := Kx.tr k4 ((h5.2.1).cr)
          have q9 := h5.2.2
          have y0 : ∀ j : Nat, j < 2048 → (s6.1 34 j) = Int32.ofInt 0 := q9
          refine And.intro (by first | exact Or.inl rfl | exact Or.inr rfl | exact vg_01 (by omega) (by omega)) ?_
          intro s10 e11
          have i12 : Iv s10 := Iv.u1 i7 e11 rfl
          have k13 : Kr s0 s10 := Kx.u1 k8 e11 rfl
          intro s14 e15
          have i16 : Iv s14 := Iv.u1 i12 e15 rfl
          have k17 : Kr s0 s14 := Kx.u1 k13 e15 rfl
          intro s18 e19
          have i20 : Iv s18 := Iv.u1 i16 e19 rfl
          have k21 : Kr s0 s18 := Kx.u1 k17 e19 rfl
          obtain ⟨v22, e23⟩ : ∃ y, y = s18.1 31 4 := ⟨_, rfl⟩
          have w24 : (Int32.ofInt 0) = v22 := by rw [e23, e19, vg_u1_at (a := 31) (b := 4) (k := 31) (i := 5) (by decide), e15]; exact vg_u1_self.symm
          subst w24
          have b25 := congrArg Int32.toInt e23
          obtain ⟨v26, e27⟩ : ∃ y, y = s18.1 31 5 := ⟨_, rfl⟩
          have w28 : (Int32.ofInt 0) = v26 := by rw [e27, e19]; exact vg_u1_self.symm
          subst w28
          have b29 := congrArg Int32.toInt e27
          have y3 : ∀ j : Nat, j < 2048 → 0 ≤ (s18.1 34 j).toInt ∧ (s18.1 34 j).toInt ≤ 0 := fun j hj => by rw [e19, vg_u1_ne (a := 34) (k := 31) (by decide), e15, vg_u1_ne (a := 34) (k := 31) (by decide), e11, vg_u1_ne (a := 34) (k := 31) (by decide), y0 j hj]; decide
          have y9 : (s18.1 31 4).toInt = 0 ∧ (s18.1 31 5).toInt = 0 := by omega
          exact ⟨rfl, ⟨(Int32.ofInt 0), rfl, (by omega), (by omega), (by first | exact ⟨fun j hj => by (have h9 := y3 j hj; omega), y9⟩ | exact ⟨fun j hj => by (have h9 := y4 j hj; omega), y8⟩), i20, k21⟩, trivial⟩
        ·
          intro L s34 hL
          obtain ⟨w30, rfl, b31, b32, x33, i35, k36⟩ := hL
          refine And.intro (fun c37 => ?_) (fun c37 => ?_)
          · have c37 : (Int32.ofInt 1000).toInt < w30.toInt := c37
            have y10 := x33.2
            show Iv s34 ∧ Kr s0 s34 ∧ (0 ≤ (s34.1 31 4).toInt ∧ 0 ≤ (s34.1 31 5).toInt ∧ (s34.1 31 4).toInt + (s34.1 31 5).toInt ≤ 1000)
            exact ⟨i35, k36, (by first | trivial | omega | assumption)⟩
          · have c37 : ¬ ((Int32.ofInt 1000).toInt < w30.toInt) := c37
            intro v38 e39
            have b40 : v38.toInt = w30.toInt * (10) := vg_mulR e39 (by omega) (by omega) (by omega)
            refine And.intro (Nat.le_of_ble_eq_true rfl) (And.intro ⟨22, 33, v38, rfl, by decide, by decide, i35, by omega⟩ ?_)
            intro s42 h41
            have h41 : Iv s42 ∧ Kp s34 s42 ∧ (True) := h41
            have i43 := h41.1
            have k44 : Kr s0 s42 := Kx.tr k36 (((h41.2.1).pc).cr)
            have y5 : (s42.1 31 4).toInt = 0 ∧ (s42.1 31 5).toInt = 0 := by rw [h41.2.1.1 31 4 rfl, h41.2.1.1 31 5 rfl]; exact x33.2
            refine And.intro (Nat.le_of_ble_eq_true rfl) (And.intro ⟨31, w30, rfl, by decide, i43, ⟨⟨by omega, by omega⟩, fun j hj => by rw [h41.2.1.1 34 j rfl]; exact x33.1 j hj⟩⟩ ?_)
            intro v45 s47 h46
            have h46 : Iv s47 ∧ Kc s42 s47 ∧ ((v45.toInt = -1 ∨ (0 ≤ v45.toInt ∧ v45.toInt < w30.toInt)) ∧ ∀ j : Nat, j < 2048 → 0 ≤ (s47.1 34 j).toInt ∧ (s47.1 34 j).toInt ≤ w30.toInt + 1) := h46
            have i48 := h46.1
            have k49 : Kr s0 s47 := Kx.tr k44 ((h46.2.1).cr)
            have q50 := h46.2.2
            have y1 : ∀ j : Nat, j < 2048 → 0 ≤ (s47.1 34 j).toInt ∧ (s47.1 34 j).toInt ≤ w30.toInt + 1 := q50.2
            have y6 : (s47.1 31 4).toInt = 0 ∧ (s47.1 31 5).toInt = 0 := by rw [h46.2.1.1 31 4 rfl, h46.2.1.1 31 5 rfl]; exact y5
            refine And.intro (fun c51 => ?_) (fun c51 => ?_)
            · have c51 : v45.toInt = (Int32.ofInt (-1)).toInt := c51
              refine And.intro (fun c52 => ?_) (fun c52 => ?_)
              · have c52 : (Int32.ofInt 1000).toInt ≤ w30.toInt := c52
                have y4 : ∀ j : Nat, j < 2048 → 0 ≤ (s47.1 34 j).toInt ∧ (s47.1 34 j).toInt ≤ w30.toInt + 1 := by first | exact (fun j hj => by rw [rfl]; exact y2 j hj) | exact y1
                have y8 : (s47.1 31 4).toInt = 0 ∧ (s47.1 31 5).toInt = 0 := by first | (rw [rfl]; exact y7) | exact y6
                intro v53 e54
                have b55 := vg_add e54 (by omega) (by omega)
                exact ⟨rfl, ⟨v53, rfl, (by omega), (by omega), (by first | exact ⟨fun j hj => by (have h9 := y3 j hj; omega), y9⟩ | exact ⟨fun j hj => by (have h9 := y4 j hj; omega), y8⟩), i48, k49⟩, (by show (0 + (1001 - v53.toInt) * 1000000000000).toNat < (0 + (1001 - w30.toInt) * 1000000000000).toNat; omega)⟩
              · have c52 : ¬ ((Int32.ofInt 1000).toInt ≤ w30.toInt) := c52
                refine And.intro (Nat.le_of_ble_eq_true rfl) (And.intro ⟨22, a3, rfl, by decide, i48⟩ ?_)
                intro v56 s58 h57
                have h57 : Iv s58 ∧ Kp s47 s58 ∧ (True) := h57
                have i59 := h57.1
                have k60 : Kr s0 s58 := Kx.tr k49 (((h57.2.1).pc).cr)
                have y2 : ∀ j : Nat, j < 2048 → 0 ≤ (s58.1 34 j).toInt ∧ (s58.1 34 j).toInt ≤ w30.toInt + 1 := fun j hj => by rw [h57.2.1.1 34 j rfl]; exact y1 j hj
                have y7 : (s58.1 31 4).toInt = 0 ∧ (s58.1 31 5).toInt = 0 := by rw [h57.2.1.1 31 4 rfl, h57.2.1.1 31 5 rfl]; exact y6
                refine And.intro ⟨by omega, by omega⟩ ?_
                intro s61 e62
                have i63 : Iv s61 := Iv.a1 i59 e62 rfl
                have k64 : Kr s0 s61 := Kx.u1 k60 e62 rfl
                have y4 : ∀ j : Nat, j < 2048 → 0 ≤ (s61.1 34 j).toInt ∧ (s61.1 34 j).toInt ≤ w30.toInt + 1 := by first | exact (fun j hj => by rw [e62, vg_u1_ne (a := 34) (k := 32) (by decide)]; exact y2 j hj) | exact y1
                have y8 : (s61.1 31 4).toInt = 0 ∧ (s61.1 31 5).toInt = 0 := by first | (rw [e62, vg_u1_ne (a := 31) (k := 32) (by decide)]; exact y7) | exact y6
                intro v65 e66
                have b67 := vg_add e66 (by omega) (by omega)
                exact ⟨rfl, ⟨v65, rfl, (by omega), (by omega), (by first | exact ⟨fun j hj => by (have h9 := y3 j hj; omega), y9⟩ | exact ⟨fun j hj => by (have h9 := y4 j hj; omega), y8⟩), i63, k64⟩, (by show (0 + (1001 - v65.toInt) * 1000000000000).toNat < (0 + (1001 - w30.toInt) * 1000000000000).toNat; omega)⟩
            · have c51 : ¬ (v45.toInt = (Int32.ofInt (-1)).toInt) := c51
              refine And.intro (by first | exact Or.inl rfl | exact Or.inr rfl | exact vg_01 (by omega) (by omega)) ?_
              intro s68 e69
              have i70 : Iv s68 := Iv.u1 i48 e69 rfl
              have k71 : Kr s0 s68 := Kx.u1 k49 e69 rfl
              intro s72 e73
              have i74 : Iv s72 := Iv.u1 i70 e73 rfl
              have k75 : Kr s0 s72 := Kx.u1 k71 e73 rfl
              intro v76 e77
              have b78 := vg_sub e77 (by omega) (by omega)
              intro s79 e80
              have i81 : Iv s79 := Iv.u1 i74 e80 rfl
              have k82 : Kr s0 s79 := Kx.u1 k75 e80 rfl
              obtain ⟨v83, e84⟩ : ∃ y, y = s79.1 31 4 := ⟨_, rfl⟩
              have w85 : v45 = v83 := by rw [e84, e80, vg_u1_at (a := 31) (b := 4) (k := 31) (i := 5) (by decide), e73]; exact vg_u1_self.symm
              subst w85
              have b86 := congrArg Int32.toInt e84
              obtain ⟨v87, e88⟩ : ∃ y, y = s79.1 31 5 := ⟨_, rfl⟩
              have w89 : v76 = v87 := by rw [e88, e80]; exact vg_u1_self.symm
              subst w89
              have b90 := congrArg Int32.toInt e88
              show Iv s79 ∧ Kr s0 s79 ∧ (0 ≤ (s79.1 31 4).toInt ∧ 0 ≤ (s79.1 31 5).toInt ∧ (s79.1 31 4).toInt + (s79.1 31 5).toInt ≤ 1000)
              exact ⟨i81, k82, (by first | trivial | omega | assumption)⟩
def o_X9_patternAt : List vg_I := [(0, .aload_n 0, 1, 0, 0, 0, 0), (1, .getfield 41, 3, 373, 9, 5, 0), (4, .ifCond .ne 7, 3, 0, 0, 0, 0), (7, .iconst 0, 1, 0, 0, 0, 0), (8, .goto 19, 3, 0, 0, 0, 0), (11, .aload_n 0, 1, 0, 0, 0, 0), (12, .getfield 11, 3, 366, 9, 0, 0), (15, .aload_n 0, 1, 0, 0, 0, 0), (16, .getfield 37, 3, 371, 9, 4, 0), (19, .iload_n 1, 1, 0, 0, 0, 0), (20, .aload_n 0, 1, 0, 0, 0, 0), (21, .getfield 41, 3, 373, 9, 5, 0), (24, .irem, 1, 0, 0, 0, 0), (25, .iadd, 1, 0, 0, 0, 0), (26, .iaload, 1, 0, 0, 0, 0), (27, .ireturn, 1, 0, 0, 0, 0)]
set_option maxRecDepth 100000 in
set_option maxHeartbeats 4000000 in
theorem c_X9_patternAt (l : Launch) (G : vg_G) (hp : vg_Hp G) : vg_Ct l G vg_sh r_X9_patternAt := by
  refine vg_meth hp vg_sh_ok r_X9_patternAt k_X9_patternAt rfl (fun h => by cases h) o_X9_patternAt [] false (by decide +kernel) (by decide +kernel) ⟨_, _, rfl, rfl⟩ (fun _ h => absurd h List.not_mem_nil) (fun h => by cases h) 600 ?_
  intro as s0 hpre
  obtain ⟨r, a1, rfl, hr, i0, p0⟩ := hpre
  have ra1 := vg_rng a1
  simp only [List.mem_cons, List.not_mem_nil, or_false] at hr
  rcases hr with rfl
  ·
    have z0 : (Int32.ofInt 0).toInt = 0 := by decide
    refine ⟨Nat.le_of_ble_eq_true rfl, [], ?_, fun _ h => absurd h List.not_mem_nil⟩
    ·
      intro v1 e2
      have g3 : s0.1 31 5 = v1 := by rw [e2]
      have b4 : v1.toInt = (s0.1 31 5).toInt := congrArg Int32.toInt e2
      refine And.intro (fun c5 => ?_) (fun c5 => ?_)
      · have c5 : ¬ v1.toInt = 0 := c5
        intro v6 e7
        have g8 : s0.1 31 4 = v6 := by rw [e7]
        have b9 : v6.toInt = (s0.1 31 4).toInt := congrArg Int32.toInt e7
        intro v10 e11
        have w12 : v1 = v10 := by rw [e11, g3]
        subst w12
        refine And.intro (by omega) ?_
        intro v13 e14
        have b15 := (vg_rem e14 (by omega) (by omega)).2
        intro v16 e17
        have b18 := vg_add e17 (by omega) (by omega)
        refine And.intro ⟨by omega, by omega⟩ ?_
        intro v19 e20
        show s0 = s0 ∧ (True)
        exact ⟨rfl, (trivial)⟩
      · have c5 : ¬ (¬ v1.toInt = 0) := c5
        show s0 = s0 ∧ (True)
        exact ⟨rfl, (trivial)⟩
def o_X9_total : List vg_I := [(0, .iconst 0, 1, 0, 0, 0, 0), (1, .istore_n 1, 1, 0, 0, 0, 0), (2, .iconst 0, 1, 0, 0, 0, 0), (3, .istore_n 2, 1, 0, 0, 0, 0), (4, .iload_n 2, 1, 0, 0, 0, 0), (5, .aload_n 0, 1, 0, 0, 0, 0), (6, .getfield 41, 3, 373, 9, 5, 0), (9, .if_icmp .ge 17, 3, 0, 0, 0, 0), (12, .iload_n 1, 1, 0, 0, 0, 0), (13, .aload_n 0, 1, 0, 0, 0, 0), (14, .iload_n 2, 1, 0, 0, 0, 0), (15, .invokevirtual 54, 3, 0, 9, 1, 985), (18, .iadd, 1, 0, 0, 0, 0), (19, .istore_n 1, 1, 0, 0, 0, 0), (20, .iinc 2 1, 3, 0, 0, 0, 0), (23, .goto (-19), 3, 0, 0, 0, 0), (26, .iload_n 1, 1, 0, 0, 0, 0), (27, .ireturn, 1, 0, 0, 0, 0)]
set_option maxRecDepth 100000 in
set_option maxHeartbeats 4000000 in
theorem c_X9_total (l : Launch) (G : vg_G) (hp : vg_Hp G) : vg_Ct l G vg_sh r_X9_total := by
  refine vg_meth hp vg_sh_ok r_X9_total k_X9_total rfl (fun h => by cases h) o_X9_total [r_X9_patternAt] false (by decide +kernel) (by decide +kernel) ⟨_, _, rfl, rfl⟩ (List.forall_mem_cons.mpr ⟨⟨c_X9_patternAt l G hp, Nat.le_of_ble_eq_true rfl, Nat.le_of_ble_eq_true rfl⟩, fun _ h => absurd h List.not_mem_nil⟩) (fun h => by cases h) 600 ?_
  intro as s0 hpre
  obtain ⟨r, rfl, hr, i0, p0⟩ := hpre
  simp only [List.mem_cons, List.not_mem_nil, or_false] at hr
  rcases hr with rfl
  ·
    have z0 : (Int32.ofInt 0).toInt = 0 := by decide
    have z1 : (Int32.ofInt 1).toInt = 1 := by decide
    refine ⟨Nat.le_of_ble_eq_true rfl, [(4, [true, true, true], (fun L t => ∃ (x1 : Int32) (x2 : Int32), L = [some (.ref 31), some (.int x1), some (.int x2)] ∧ (0 : Int) ≤ x2.toInt ∧ x2.toInt ≤ (1000 : Int) ∧ t = s0), (fun L _ => (0 + (1000 - (vg_li L 2).toInt) * 1000000000000).toNat))], ?_, List.forall_mem_cons.mpr ⟨?_, fun _ h => absurd h List.not_mem_nil⟩⟩
    ·
      exact ⟨rfl, ⟨(Int32.ofInt 0), (Int32.ofInt 0), rfl, (by omega), (by omega), rfl⟩, trivial⟩
    ·
      intro L s5 hL
      obtain ⟨w1, w2, rfl, b3, b4, q8⟩ := hL
      have q8 := q8.symm
      subst q8
      intro v9 e10
      have g11 : s0.1 31 5 = v9 := by rw [e10]
      have b12 : v9.toInt = (s0.1 31 5).toInt := congrArg Int32.toInt e10
      refine And.intro (fun c13 => ?_) (fun c13 => ?_)
      · have c13 : v9.toInt ≤ w2.toInt := c13
        show s0 = s0 ∧ (True)
        exact ⟨rfl, (trivial)⟩
      · have c13 : ¬ (v9.toInt ≤ w2.toInt) := c13
        refine And.intro (Nat.le_of_ble_eq_true rfl) (And.intro ⟨31, w2, rfl, by decide, i0, by omega⟩ ?_)
        intro v14 s16 h15
        have h15 : s16 = s0 ∧ (True) := h15
        have q19 := h15.1.symm
        subst q19
        intro v20 e21
        intro v22 e23
        have b24 := vg_add e23 (by omega) (by omega)
        exact ⟨rfl, ⟨v20, v22, rfl, (by omega), (by omega), rfl⟩, (by show (0 + (1000 - v22.toInt) * 1000000000000).toNat < (0 + (1000 - w2.toInt) * 1000000000000).toNat; omega)⟩
def o_X9_unlike : List vg_I := [(0, .iconst 0, 1, 0, 0, 0, 0), (1, .istore_n 1, 1, 0, 0, 0, 0), (2, .iconst 0, 1, 0, 0, 0, 0), (3, .istore_n 2, 1, 0, 0, 0, 0), (4, .iload_n 2, 1, 0, 0, 0, 0), (5, .aload_n 0, 1, 0, 0, 0, 0), (6, .getfield 41, 3, 373, 9, 5, 0), (9, .if_icmp .ge 19, 3, 0, 0, 0, 0), (12, .iload_n 1, 1, 0, 0, 0, 0), (13, .iconst 1, 1, 0, 0, 0, 0), (14, .aload_n 0, 1, 0, 0, 0, 0), (15, .iload_n 2, 1, 0, 0, 0, 0), (16, .invokevirtual 54, 3, 0, 9, 1, 985), (19, .ishl, 1, 0, 0, 0, 0), (20, .ior, 1, 0, 0, 0, 0), (21, .istore_n 1, 1, 0, 0, 0, 0), (22, .iinc 2 1, 3, 0, 0, 0, 0), (25, .goto (-21), 3, 0, 0, 0, 0), (28, .iload_n 1, 1, 0, 0, 0, 0), (29, .invokestatic 57, 3, 1, 1, 1, 993), (32, .ireturn, 1, 0, 0, 0, 0)]
set_option maxRecDepth 100000 in
set_option maxHeartbeats 4000000 in
theorem c_X9_unlike (l : Launch) (G : vg_G) (hp : vg_Hp G) : vg_Ct l G vg_sh r_X9_unlike := by
  refine vg_meth hp vg_sh_ok r_X9_unlike k_X9_unlike rfl (fun h => by cases h) o_X9_unlike [r_X9_patternAt, r_J6_bitCount_0f7a4] false (by decide +kernel) (by decide +kernel) ⟨_, _, rfl, rfl⟩ (List.forall_mem_cons.mpr ⟨⟨c_X9_patternAt l G hp, Nat.le_of_ble_eq_true rfl, Nat.le_of_ble_eq_true rfl⟩, List.forall_mem_cons.mpr ⟨⟨c_J6_bitCount_0f7a4 l G hp, Nat.le_of_ble_eq_true rfl, Nat.le_of_ble_eq_true rfl⟩, fun _ h => absurd h List.not_mem_nil⟩⟩) (fun h => by cases h) 600 ?_
  intro as s0 hpre
  obtain ⟨r, rfl, hr, i0, p0⟩ := hpre
  simp only [List.mem_cons, List.not_mem_nil, or_false] at hr
  rcases hr with rfl
  ·
    have z0 : (Int32.ofInt 0).toInt = 0 := by decide
    have z1 : (Int32.ofInt 1).toInt = 1 := by decide
    refine ⟨Nat.le_of_ble_eq_true rfl, [(4, [true, true, true], (fun L t => ∃ (x1 : Int32) (x2 : Int32), L = [some (.ref 31), some (.int x1), some (.int x2)] ∧ (0 : Int) ≤ x2.toInt ∧ x2.toInt ≤ (1000 : Int) ∧ t = s0), (fun L _ => (0 + (1000 - (vg_li L 2).toInt) * 1000000000000).toNat))], ?_, List.forall_mem_cons.mpr ⟨?_, fun _ h => absurd h List.not_mem_nil⟩⟩
    ·
      exact ⟨rfl, ⟨(Int32.ofInt 0), (Int32.ofInt 0), rfl, (by omega), (by omega), rfl⟩, trivial⟩
    ·
      intro L s5 hL
      obtain ⟨w1, w2, rfl, b3, b4, q8⟩ := hL
      have q8 := q8.symm
      subst q8
      intro v9 e10
      have g11 : s0.1 31 5 = v9 := by rw [e10]
      have b12 : v9.toInt = (s0.1 31 5).toInt := congrArg Int32.toInt e10
      refine And.intro (fun c13 => ?_) (fun c13 => ?_)
      · have c13 : v9.toInt ≤ w2.toInt := c13
        refine And.intro (Nat.le_of_ble_eq_true rfl) (And.intro ⟨w1, rfl, trivial⟩ ?_)
        intro v14 s16 h15
        have h15 : s16 = s0 ∧ (True) := h15
        have q19 := h15.1.symm
        subst q19
        show s0 = s0 ∧ (True)
        exact ⟨rfl, (trivial)⟩
      · have c13 : ¬ (v9.toInt ≤ w2.toInt) := c13
        refine And.intro (Nat.le_of_ble_eq_true rfl) (And.intro ⟨31, w2, rfl, by decide, i0, by omega⟩ ?_)
        intro v20 s22 h21
        have h21 : s22 = s0 ∧ (True) := h21
        have q25 := h21.1.symm
        subst q25
        intro v26 e27
        intro v28 e29
        intro v30 e31
        have b32 := vg_add e31 (by omega) (by omega)
        exact ⟨rfl, ⟨v28, v30, rfl, (by omega), (by omega), rfl⟩, (by show (0 + (1000 - v30.toInt) * 1000000000000).toNat < (0 + (1000 - w2.toInt) * 1000000000000).toNat; omega)⟩
def o_X9_changes : List vg_I := [(0, .iconst 0, 1, 0, 0, 0, 0), (1, .istore_n 1, 1, 0, 0, 0, 0), (2, .iconst 0, 1, 0, 0, 0, 0), (3, .istore_n 2, 1, 0, 0, 0, 0), (4, .iload_n 2, 1, 0, 0, 0, 0), (5, .aload_n 0, 1, 0, 0, 0, 0), (6, .getfield 41, 3, 373, 9, 5, 0), (9, .if_icmp .ge 27, 3, 0, 0, 0, 0), (12, .aload_n 0, 1, 0, 0, 0, 0), (13, .iload_n 2, 1, 0, 0, 0, 0), (14, .invokevirtual 54, 3, 0, 9, 1, 985), (17, .aload_n 0, 1, 0, 0, 0, 0), (18, .iload_n 2, 1, 0, 0, 0, 0), (19, .iconst 1, 1, 0, 0, 0, 0), (20, .iadd, 1, 0, 0, 0, 0), (21, .invokevirtual 54, 3, 0, 9, 1, 985), (24, .if_icmp .eq 6, 3, 0, 0, 0, 0), (27, .iinc 1 1, 3, 0, 0, 0, 0), (30, .iinc 2 1, 3, 0, 0, 0, 0), (33, .goto (-29), 3, 0, 0, 0, 0), (36, .iload_n 1, 1, 0, 0, 0, 0), (37, .ireturn, 1, 0, 0, 0, 0)]
set_option maxRecDepth 100000 in
set_option maxHeartbeats 4000000 in
theorem c_X9_changes (l : Launch) (G : vg_G) (hp : vg_Hp G) : vg_Ct l G vg_sh r_X9_changes := by
  refine vg_meth hp vg_sh_ok r_X9_changes k_X9_changes rfl (fun h => by cases h) o_X9_changes [r_X9_patternAt] false (by decide +kernel) (by decide +kernel) ⟨_, _, rfl, rfl⟩ (List.forall_mem_cons.mpr ⟨⟨c_X9_patternAt l G hp, Nat.le_of_ble_eq_true rfl, Nat.le_of_ble_eq_true rfl⟩, fun _ h => absurd h List.not_mem_nil⟩) (fun h => by cases h) 600 ?_
  intro as s0 hpre
  obtain ⟨r, rfl, hr, i0, p0⟩ := hpre
  simp only [List.mem_cons, List.not_mem_nil, or_false] at hr
  rcases hr with rfl
  ·
    have z0 : (Int32.ofInt 0).toInt = 0 := by decide
    have z1 : (Int32.ofInt 1).toInt = 1 := by decide
    refine ⟨Nat.le_of_ble_eq_true rfl, [(4, [true, true, true], (fun L t => ∃ (x1 : Int32) (x2 : Int32), L = [some (.ref 31), some (.int x1), some (.int x2)] ∧ (0 : Int) ≤ x2.toInt ∧ x2.toInt ≤ (1000 : Int) ∧ t = s0), (fun L _ => (0 + (1000 - (vg_li L 2).toInt) * 1000000000000).toNat))], ?_, List.forall_mem_cons.mpr ⟨?_, fun _ h => absurd h List.not_mem_nil⟩⟩
    ·
      exact ⟨rfl, ⟨(Int32.ofInt 0), (Int32.ofInt 0), rfl, (by omega), (by omega), rfl⟩, trivial⟩
    ·
      intro L s5 hL
      obtain ⟨w1, w2, rfl, b3, b4, q8⟩ := hL
      have q8 := q8.symm
      subst q8
      intro v9 e10
      have g11 : s0.1 31 5 = v9 := by rw [e10]
      have b12 : v9.toInt = (s0.1 31 5).toInt := congrArg Int32.toInt e10
      refine And.intro (fun c13 => ?_) (fun c13 => ?_)
      · have c13 : v9.toInt ≤ w2.toInt := c13
        show s0 = s0 ∧ (True)
        exact ⟨rfl, (trivial)⟩
      · have c13 : ¬ (v9.toInt ≤ w2.toInt) := c13
        refine And.intro (Nat.le_of_ble_eq_true rfl) (And.intro ⟨31, w2, rfl, by decide, i0, by omega⟩ ?_)
        intro v14 s16 h15
        have h15 : s16 = s0 ∧ (True) := h15
        have q19 := h15.1.symm
        subst q19
        intro v20 e21
        have b22 := vg_add e21 (by omega) (by omega)
        refine And.intro (Nat.le_of_ble_eq_true rfl) (And.intro ⟨31, v20, rfl, by decide, i0, by omega⟩ ?_)
        intro v23 s25 h24
        have h24 : s25 = s0 ∧ (True) := h24
        have q28 := h24.1.symm
        subst q28
        refine And.intro (fun c29 => ?_) (fun c29 => ?_)
        · have c29 : v14.toInt = v23.toInt := c29
          intro v30 e31
          have b32 := vg_add e31 (by omega) (by omega)
          exact ⟨rfl, ⟨w1, v30, rfl, (by omega), (by omega), rfl⟩, (by show (0 + (1000 - v30.toInt) * 1000000000000).toNat < (0 + (1000 - w2.toInt) * 1000000000000).toNat; omega)⟩
        · have c29 : ¬ (v14.toInt = v23.toInt) := c29
          intro v33 e34
          intro v35 e36
          have b37 := vg_add e36 (by omega) (by omega)
          exact ⟨rfl, ⟨v33, v35, rfl, (by omega), (by omega), rfl⟩, (by show (0 + (1000 - v35.toInt) * 1000000000000).toNat < (0 + (1000 - w2.toInt) * 1000000000000).toNat; omega)⟩
def o_X9_longestRun : List vg_I := [(0, .aload_n 0, 1, 0, 0, 0, 0), (1, .invokevirtual 62, 3, 0, 9, 0, 1007), (4, .ifCond .ne 8, 3, 0, 0, 0, 0), (7, .aload_n 0, 1, 0, 0, 0, 0), (8, .getfield 41, 3, 373, 9, 5, 0), (11, .ireturn, 1, 0, 0, 0, 0), (12, .iconst 1, 1, 0, 0, 0, 0), (13, .istore_n 1, 1, 0, 0, 0, 0), (14, .iconst 1, 1, 0, 0, 0, 0), (15, .istore_n 2, 1, 0, 0, 0, 0), (16, .iconst 1, 1, 0, 0, 0, 0), (17, .istore_n 3, 1, 0, 0, 0, 0), (18, .iload_n 3, 1, 0, 0, 0, 0), (19, .iconst 2, 1, 0, 0, 0, 0), (20, .aload_n 0, 1, 0, 0, 0, 0), (21, .getfield 41, 3, 373, 9, 5, 0), (24, .imul, 1, 0, 0, 0, 0), (25, .if_icmp .ge 38, 3, 0, 0, 0, 0), (28, .aload_n 0, 1, 0, 0, 0, 0), (29, .iload_n 3, 1, 0, 0, 0, 0), (30, .invokevirtual 54, 3, 1, 9, 1, 985), (33, .aload_n 0, 1, 0, 0, 0, 0), (34, .iload_n 3, 1, 0, 0, 0, 0), (35, .iconst 1, 1, 0, 0, 0, 0), (36, .isub, 1, 0, 0, 0, 0), (37, .invokevirtual 54, 3, 1, 9, 1, 985), (40, .if_icmp .ne 9, 3, 0, 0, 0, 0), (43, .iload_n 2, 1, 0, 0, 0, 0), (44, .iconst 1, 1, 0, 0, 0, 0), (45, .iadd, 1, 0, 0, 0, 0), (46, .goto 4, 3, 0, 0, 0, 0), (49, .iconst 1, 1, 0, 0, 0, 0), (50, .istore_n 2, 1, 0, 0, 0, 0), (51, .iload_n 1, 1, 0, 0, 0, 0), (52, .iload_n 2, 1, 0, 0, 0, 0), (53, .invokestatic 66, 3, 2, 1, 2, 1008), (56, .istore_n 1, 1, 0, 0, 0, 0), (57, .iinc 3 1, 3, 0, 0, 0, 0), (60, .goto (-42), 3, 0, 0, 0, 0), (63, .iload_n 1, 1, 0, 0, 0, 0), (64, .ireturn, 1, 0, 0, 0, 0)]
set_option maxRecDepth 100000 in
set_option maxHeartbeats 4000000 in
theorem c_X9_longestRun (l : Launch) (G : vg_G) (hp : vg_Hp G) : vg_Ct l G vg_sh r_X9_longestRun := by
  refine vg_meth hp vg_sh_ok r_X9_longestRun k_X9_longestRun rfl (fun h => by cases h) o_X9_longestRun [r_X9_changes, r_X9_patternAt, r_J9_max_7cf53] false (by decide +kernel) (by decide +kernel) ⟨_, _, rfl, rfl⟩ (List.forall_mem_cons.mpr ⟨⟨c_X9_changes l G hp, Nat.le_of_ble_eq_true rfl, Nat.le_of_ble_eq_true rfl⟩, List.forall_mem_cons.mpr ⟨⟨c_X9_patternAt l G hp, Nat.le_of_ble_eq_true rfl, Nat.le_of_ble_eq_true rfl⟩, List.forall_mem_cons.mpr ⟨⟨c_J9_max_7cf53 l G hp, Nat.le_of_ble_eq_true rfl, Nat.le_of_ble_eq_true rfl⟩, fun _ h => absurd h List.not_mem_nil⟩⟩⟩) (fun h => by cases h) 600 ?_
  intro as s0 hpre
  obtain ⟨r, rfl, hr, i0, p0⟩ := hpre
  simp only [List.mem_cons, List.not_mem_nil, or_false] at hr
  rcases hr with rfl
  ·
    have z1 : (Int32.ofInt 1).toInt = 1 := by decide
    have z2 : (Int32.ofInt 2).toInt = 2 := by decide
    refine ⟨Nat.le_of_ble_eq_true rfl, [(18, [true, true, true, true], (fun L t => ∃ (x1 : Int32) (x2 : Int32) (x3 : Int32), L = [some (.ref 31), some (.int x1), some (.int x2), some (.int x3)] ∧ (1 : Int) ≤ x3.toInt ∧ x3.toInt ≤ (2000 : Int) ∧ t = s0), (fun L _ => (2000 - (vg_li L 3).toInt).toNat))], ?_, List.forall_mem_cons.mpr ⟨?_, fun _ h => absurd h List.not_mem_nil⟩⟩
    ·
      refine And.intro (Nat.le_of_ble_eq_true rfl) (And.intro ⟨31, rfl, by decide, i0, by omega⟩ ?_)
      intro v1 s3 h2
      have h2 : s3 = s0 ∧ (True) := h2
      have q6 := h2.1.symm
      subst q6
      refine And.intro (fun c7 => ?_) (fun c7 => ?_)
      · have c7 : ¬ v1.toInt = 0 := c7
        exact ⟨rfl, ⟨(Int32.ofInt 1), (Int32.ofInt 1), (Int32.ofInt 1), rfl, (by omega), (by omega), rfl⟩, trivial⟩
      · have c7 : ¬ (¬ v1.toInt = 0) := c7
        intro v8 e9
        have g10 : s0.1 31 5 = v8 := by rw [e9]
        have b11 : v8.toInt = (s0.1 31 5).toInt := congrArg Int32.toInt e9
        show s0 = s0 ∧ (True)
        exact ⟨rfl, (trivial)⟩
    ·
      intro L s17 hL
      obtain ⟨w12, w13, w14, rfl, b15, b16, q20⟩ := hL
      have q20 := q20.symm
      subst q20
      intro v21 e22
      have g23 : s0.1 31 5 = v21 := by rw [e22]
      have b24 : v21.toInt = (s0.1 31 5).toInt := congrArg Int32.toInt e22
      intro v25 e26
      have b27 : v25.toInt = (2) * v21.toInt := vg_mulL e26 (by omega) (by omega) (by omega)
      refine And.intro (fun c28 => ?_) (fun c28 => ?_)
      · have c28 : v25.toInt ≤ w14.toInt := c28
        show s0 = s0 ∧ (True)
        exact ⟨rfl, (trivial)⟩
      · have c28 : ¬ (v25.toInt ≤ w14.toInt) := c28
        refine And.intro (Nat.le_of_ble_eq_true rfl) (And.intro ⟨31, w14, rfl, by decide, i0, by omega⟩ ?_)
        intro v29 s31 h30
        have h30 : s31 = s0 ∧ (True) := h30
        have q34 := h30.1.symm
        subst q34
        intro v35 e36
        have b37 := vg_sub e36 (by omega) (by omega)
        refine And.intro (Nat.le_of_ble_eq_true rfl) (And.intro ⟨31, v35, rfl, by decide, i0, by omega⟩ ?_)
        intro v38 s40 h39
        have h39 : s40 = s0 ∧ (True) := h39
        have q43 := h39.1.symm
        subst q43
        refine And.intro (fun c44 => ?_) (fun c44 => ?_)
        · have c44 : ¬ v29.toInt = v38.toInt := c44
          refine And.intro (Nat.le_of_ble_eq_true rfl) (And.intro ⟨w12, (Int32.ofInt 1), rfl, trivial⟩ ?_)
          intro v45 s47 h46
          have h46 : s47 = s0 ∧ (w12.toInt ≤ v45.toInt ∧ (Int32.ofInt 1).toInt ≤ v45.toInt ∧ (v45.toInt = w12.toInt ∨ v45.toInt = (Int32.ofInt 1).toInt)) := h46
          have q50 := h46.1.symm
          subst q50
          have q51 := h46.2
          intro v52 e53
          have b54 := vg_add e53 (by omega) (by omega)
          exact ⟨rfl, ⟨v45, (Int32.ofInt 1), v52, rfl, (by omega), (by omega), rfl⟩, (by show (2000 - v52.toInt).toNat < (2000 - w14.toInt).toNat; omega)⟩
        · have c44 : ¬ (¬ v29.toInt = v38.toInt) := c44
          intro v55 e56
          refine And.intro (Nat.le_of_ble_eq_true rfl) (And.intro ⟨w12, v55, rfl, trivial⟩ ?_)
          intro v57 s59 h58
          have h58 : s59 = s0 ∧ (w12.toInt ≤ v57.toInt ∧ v55.toInt ≤ v57.toInt ∧ (v57.toInt = w12.toInt ∨ v57.toInt = v55.toInt)) := h58
          have q62 := h58.1.symm
          subst q62
          have q63 := h58.2
          intro v64 e65
          have b66 := vg_add e65 (by omega) (by omega)
          exact ⟨rfl, ⟨v57, v55, v64, rfl, (by omega), (by omega), rfl⟩, (by show (2000 - v64.toInt).toNat < (2000 - w14.toInt).toNat; omega)⟩
