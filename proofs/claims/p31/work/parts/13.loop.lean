def o_X6_copyFrom : List vg_I := [(0, .aload_n 0, 1, 0, 0, 0, 0), (1, .aload_n 1, 1, 0, 0, 0, 0), (2, .getfield 11, 3, 139, 6, 0, 0), (5, .putfield 11, 3, 139, 6, 0, 0), (8, .aload_n 0, 1, 0, 0, 0, 0), (9, .aload_n 1, 1, 0, 0, 0, 0), (10, .getfield 15, 3, 142, 6, 1, 0), (13, .putfield 15, 3, 142, 6, 1, 0), (16, .aload_n 0, 1, 0, 0, 0, 0), (17, .aload_n 1, 1, 0, 0, 0, 0), (18, .getfield 18, 3, 145, 6, 2, 0), (21, .putfield 18, 3, 145, 6, 2, 0), (24, .aload_n 0, 1, 0, 0, 0, 0), (25, .aload_n 1, 1, 0, 0, 0, 0), (26, .getfield 21, 3, 147, 6, 3, 0), (29, .putfield 21, 3, 147, 6, 3, 0), (32, .aload_n 0, 1, 0, 0, 0, 0), (33, .aload_n 1, 1, 0, 0, 0, 0), (34, .getfield 25, 3, 149, 6, 4, 0), (37, .putfield 25, 3, 149, 6, 4, 0), (40, .aload_n 0, 1, 0, 0, 0, 0), (41, .aload_n 1, 1, 0, 0, 0, 0), (42, .getfield 28, 3, 152, 6, 5, 0), (45, .putfield 28, 3, 152, 6, 5, 1), (48, .aload_n 0, 1, 0, 0, 0, 0), (49, .aload_n 1, 1, 0, 0, 0, 0), (50, .getfield 32, 3, 155, 6, 6, 0), (53, .putfield 32, 3, 155, 6, 6, 0), (56, .aload_n 0, 1, 0, 0, 0, 0), (57, .aload_n 1, 1, 0, 0, 0, 0), (58, .getfield 35, 3, 159, 6, 7, 0), (61, .putfield 35, 3, 159, 6, 7, 0), (64, .return_, 1, 0, 0, 0, 0)]
set_option maxRecDepth 100000 in
set_option maxHeartbeats 4000000 in
theorem c_X6_copyFrom (l : Launch) (G : vg_G) (hp : vg_Hp G) : vg_Ct l G vg_sh r_X6_copyFrom := by
  refine vg_meth hp vg_sh_ok r_X6_copyFrom k_X6_copyFrom rfl (fun h => by cases h) o_X6_copyFrom [] false (by decide +kernel) (by decide +kernel) ⟨_, _, rfl, rfl⟩ (fun _ h => absurd h List.not_mem_nil) (fun h => by cases h) 600 ?_
  intro as s0 hpre
  obtain ⟨r, a1, rfl, hr, ha1, i0⟩ := hpre
  simp only [List.mem_cons, List.not_mem_nil, or_false] at hr
  rcases hr with rfl
  ·
    simp only [List.mem_cons, List.not_mem_nil, or_false] at ha1
    rcases ha1 with rfl
    ·
      refine ⟨Nat.le_of_ble_eq_true rfl, [], ?_, fun _ h => absurd h List.not_mem_nil⟩
      ·
        intro v1 e2
        have g3 : s0.1 4 0 = v1 := by rw [e2]
        have y0 := e2
        intro s4 e5
        have i6 : Iv s4 := Iv.u1 i0 e5 rfl
        have k7 : Kp s0 s4 := Kx.u1 Kx.rf e5 rfl
        intro v8 e9
        have g10 : s0.1 4 1 = v8 := by rw [e9, e5, vg_u1_ne (a := 4) (k := 23) (by decide)]
        have b11 : (1 : Int) ≤ v8.toInt ∧ v8.toInt ≤ 4 := by rw [e9]; exact Iv_4_1 i6
        have y1 := e9
        intro s12 e13
        have i14 : Iv s12 := Iv.c1 (lo := 1) (hi := 4) i6 e13 rfl (by omega) (by omega)
        have k15 : Kp s0 s12 := Kx.u1 k7 e13 rfl
        intro v16 e17
        have g18 : s0.1 4 2 = v16 := by rw [e17, e13, vg_u1_ne (a := 4) (k := 23) (by decide), e5, vg_u1_ne (a := 4) (k := 23) (by decide)]
        have b19 : (1 : Int) ≤ v16.toInt ∧ v16.toInt ≤ 5000 := by rw [e17]; exact Iv_4_2 i14
        have y2 := e17
        intro s20 e21
        have i22 : Iv s20 := Iv.c1 (lo := 1) (hi := 5000) i14 e21 rfl (by omega) (by omega)
        have k23 : Kp s0 s20 := Kx.u1 k15 e21 rfl
        intro v24 e25
        have g26 : s0.1 4 3 = v24 := by rw [e25, e21, vg_u1_ne (a := 4) (k := 23) (by decide), e13, vg_u1_ne (a := 4) (k := 23) (by decide), e5, vg_u1_ne (a := 4) (k := 23) (by decide)]
        have b27 : (2 : Int) ≤ v24.toInt ∧ v24.toInt ≤ 17 := by rw [e25]; exact Iv_4_3 i22
        have y3 := e25
        intro s28 e29
        have i30 : Iv s28 := Iv.c1 (lo := 2) (hi := 17) i22 e29 rfl (by omega) (by omega)
        have k31 : Kp s0 s28 := Kx.u1 k23 e29 rfl
        intro v32 e33
        have g34 : s0.1 4 4 = v32 := by rw [e33, e29, vg_u1_ne (a := 4) (k := 23) (by decide), e21, vg_u1_ne (a := 4) (k := 23) (by decide), e13, vg_u1_ne (a := 4) (k := 23) (by decide), e5, vg_u1_ne (a := 4) (k := 23) (by decide)]
        have b35 : (1 : Int) ≤ v32.toInt ∧ v32.toInt ≤ 60000 := by rw [e33]; exact Iv_4_4 i30
        have y4 := e33
        intro s36 e37
        have i38 : Iv s36 := Iv.c1 (lo := 1) (hi := 60000) i30 e37 rfl (by omega) (by omega)
        have k39 : Kp s0 s36 := Kx.u1 k31 e37 rfl
        intro v40 e41
        have g42 : s0.1 4 5 = v40 := by rw [e41, e37, vg_u1_ne (a := 4) (k := 23) (by decide), e29, vg_u1_ne (a := 4) (k := 23) (by decide), e21, vg_u1_ne (a := 4) (k := 23) (by decide), e13, vg_u1_ne (a := 4) (k := 23) (by decide), e5, vg_u1_ne (a := 4) (k := 23) (by decide)]
        have b43 : (0 : Int) ≤ v40.toInt ∧ v40.toInt ≤ 1 := by rw [e41]; exact Iv_4_5 i38
        have y5 := e41
        refine And.intro (by first | exact Or.inl rfl | exact Or.inr rfl | exact vg_01 (by omega) (by omega)) ?_
        intro s44 e45
        have i46 : Iv s44 := Iv.c1 (lo := 0) (hi := 1) i38 e45 rfl (by omega) (by omega)
        have k47 : Kp s0 s44 := Kx.u1 k39 e45 rfl
        intro v48 e49
        have g50 : s0.1 4 6 = v48 := by rw [e49, e45, vg_u1_ne (a := 4) (k := 23) (by decide), e37, vg_u1_ne (a := 4) (k := 23) (by decide), e29, vg_u1_ne (a := 4) (k := 23) (by decide), e21, vg_u1_ne (a := 4) (k := 23) (by decide), e13, vg_u1_ne (a := 4) (k := 23) (by decide), e5, vg_u1_ne (a := 4) (k := 23) (by decide)]
        have b51 : (0 : Int) ≤ v48.toInt ∧ v48.toInt ≤ 5000 := by rw [e49]; exact Iv_4_6 i46
        have y6 := e49
        intro s52 e53
        have i54 : Iv s52 := Iv.c1 (lo := 0) (hi := 5000) i46 e53 rfl (by omega) (by omega)
        have k55 : Kp s0 s52 := Kx.u1 k47 e53 rfl
        intro v56 e57
        have g58 : s0.1 4 7 = v56 := by rw [e57, e53, vg_u1_ne (a := 4) (k := 23) (by decide), e45, vg_u1_ne (a := 4) (k := 23) (by decide), e37, vg_u1_ne (a := 4) (k := 23) (by decide), e29, vg_u1_ne (a := 4) (k := 23) (by decide), e21, vg_u1_ne (a := 4) (k := 23) (by decide), e13, vg_u1_ne (a := 4) (k := 23) (by decide), e5, vg_u1_ne (a := 4) (k := 23) (by decide)]
        have y7 := e57
        intro s59 e60
        have i61 : Iv s59 := Iv.u1 i54 e60 rfl
        have k62 : Kp s0 s59 := Kx.u1 k55 e60 rfl
        show Iv s59 ∧ Kp s0 s59 ∧ (∀ j : Nat, j < 8 → s59.1 23 j = s0.1 4 j)
        exact ⟨i61, k62, (q_cpy e5 e13 e21 e29 e37 e45 e53 e60 y0 y1 y2 y3 y4 y5 y6 y7)⟩
def o_X6_besides : List vg_I := [(0, .aload_n 0, 1, 0, 0, 0, 0), (1, .getfield 11, 3, 139, 6, 0, 0), (4, .iconst 2, 1, 0, 0, 0, 0), (5, .if_icmp .ne 23, 3, 0, 0, 0, 0), (8, .aload_n 0, 1, 0, 0, 0, 0), (9, .getfield 21, 3, 147, 6, 3, 0), (12, .iconst 1, 1, 0, 0, 0, 0), (13, .isub, 1, 0, 0, 0, 0), (14, .iconst 1, 1, 0, 0, 0, 0), (15, .aload_n 0, 1, 0, 0, 0, 0), (16, .getfield 15, 3, 142, 6, 1, 0), (19, .iconst 1, 1, 0, 0, 0, 0), (20, .isub, 1, 0, 0, 0, 0), (21, .ishl, 1, 0, 0, 0, 0), (22, .iconst 1, 1, 0, 0, 0, 0), (23, .isub, 1, 0, 0, 0, 0), (24, .imul, 1, 0, 0, 0, 0), (25, .goto 4, 3, 0, 0, 0, 0), (28, .iconst 0, 1, 0, 0, 0, 0), (29, .ireturn, 1, 0, 0, 0, 0)]
set_option maxRecDepth 100000 in
set_option maxHeartbeats 4000000 in
theorem c_X6_besides (l : Launch) (G : vg_G) (hp : vg_Hp G) : vg_Ct l G vg_sh r_X6_besides := by
  refine vg_meth hp vg_sh_ok r_X6_besides k_X6_besides rfl (fun h => by cases h) o_X6_besides [] false (by decide +kernel) (by decide +kernel) ⟨_, _, rfl, rfl⟩ (fun _ h => absurd h List.not_mem_nil) (fun h => by cases h) 600 ?_
  intro as s0 hpre
  obtain ⟨r, rfl, hr, i0⟩ := hpre
  simp only [List.mem_cons, List.not_mem_nil, or_false] at hr
  rcases hr with rfl | rfl
  ·
    have z0 : (Int32.ofInt 0).toInt = 0 := by decide
    have z1 : (Int32.ofInt 1).toInt = 1 := by decide
    have z2 : (Int32.ofInt 2).toInt = 2 := by decide
    refine ⟨Nat.le_of_ble_eq_true rfl, [], ?_, fun _ h => absurd h List.not_mem_nil⟩
    ·
      intro v1 e2
      have g3 : s0.1 4 0 = v1 := by rw [e2]
      have b4 : v1.toInt = (s0.1 4 0).toInt := congrArg Int32.toInt e2
      refine And.intro (fun c5 => ?_) (fun c5 => ?_)
      · have c5 : ¬ v1.toInt = (Int32.ofInt 2).toInt := c5
        show s0 = s0 ∧ ((Int32.ofInt 0) = q_bes (s0.1 4 0) (s0.1 4 1) (s0.1 4 3))
        exact ⟨rfl, (by first | (rw [q_bes, if_pos (by omega)]; subst_vars; rfl) | rw [q_bes, if_neg (by omega)])⟩
      · have c5 : ¬ (¬ v1.toInt = (Int32.ofInt 2).toInt) := c5
        intro v6 e7
        have g8 : s0.1 4 3 = v6 := by rw [e7]
        have b9 : (2 : Int) ≤ v6.toInt ∧ v6.toInt ≤ 17 := by rw [e7]; exact Iv_4_3 i0
        intro v10 e11
        have b12 := vg_sub e11 (by omega) (by omega)
        intro v13 e14
        have g15 : s0.1 4 1 = v13 := by rw [e14]
        have b16 : (1 : Int) ≤ v13.toInt ∧ v13.toInt ≤ 4 := by rw [e14]; exact Iv_4_1 i0
        intro v17 e18
        have b19 := vg_sub e18 (by omega) (by omega)
        intro v20 e21
        intro v22 e23
        intro v24 e25
        show s0 = s0 ∧ (v24 = q_bes (s0.1 4 0) (s0.1 4 1) (s0.1 4 3))
        exact ⟨rfl, (by first | (rw [q_bes, if_pos (by omega)]; subst_vars; rfl) | rw [q_bes, if_neg (by omega)])⟩
  ·
    have z0 : (Int32.ofInt 0).toInt = 0 := by decide
    have z1 : (Int32.ofInt 1).toInt = 1 := by decide
    have z2 : (Int32.ofInt 2).toInt = 2 := by decide
    refine ⟨Nat.le_of_ble_eq_true rfl, [], ?_, fun _ h => absurd h List.not_mem_nil⟩
    ·
      intro v1 e2
      have g3 : s0.1 23 0 = v1 := by rw [e2]
      have b4 : v1.toInt = (s0.1 23 0).toInt := congrArg Int32.toInt e2
      refine And.intro (fun c5 => ?_) (fun c5 => ?_)
      · have c5 : ¬ v1.toInt = (Int32.ofInt 2).toInt := c5
        show s0 = s0 ∧ ((Int32.ofInt 0) = q_bes (s0.1 23 0) (s0.1 23 1) (s0.1 23 3))
        exact ⟨rfl, (by first | (rw [q_bes, if_pos (by omega)]; subst_vars; rfl) | rw [q_bes, if_neg (by omega)])⟩
      · have c5 : ¬ (¬ v1.toInt = (Int32.ofInt 2).toInt) := c5
        intro v6 e7
        have g8 : s0.1 23 3 = v6 := by rw [e7]
        have b9 : (2 : Int) ≤ v6.toInt ∧ v6.toInt ≤ 17 := by rw [e7]; exact Iv_23_3 i0
        intro v10 e11
        have b12 := vg_sub e11 (by omega) (by omega)
        intro v13 e14
        have g15 : s0.1 23 1 = v13 := by rw [e14]
        have b16 : (1 : Int) ≤ v13.toInt ∧ v13.toInt ≤ 4 := by rw [e14]; exact Iv_23_1 i0
        intro v17 e18
        have b19 := vg_sub e18 (by omega) (by omega)
        intro v20 e21
        intro v22 e23
        intro v24 e25
        show s0 = s0 ∧ (v24 = q_bes (s0.1 23 0) (s0.1 23 1) (s0.1 23 3))
        exact ⟨rfl, (by first | (rw [q_bes, if_pos (by omega)]; subst_vars; rfl) | rw [q_bes, if_neg (by omega)])⟩
def o_X6_valueOfSmall : List vg_I := [(0, .aload_n 0, 1, 0, 0, 0, 0), (1, .getfield 18, 3, 145, 6, 2, 0), (4, .iconst 2, 1, 0, 0, 0, 0), (5, .iload_n 1, 1, 0, 0, 0, 0), (6, .imul, 1, 0, 0, 0, 0), (7, .iconst 1, 1, 0, 0, 0, 0), (8, .iadd, 1, 0, 0, 0, 0), (9, .aload_n 0, 1, 0, 0, 0, 0), (10, .getfield 21, 3, 147, 6, 3, 0), (13, .isub, 1, 0, 0, 0, 0), (14, .imul, 1, 0, 0, 0, 0), (15, .ireturn, 1, 0, 0, 0, 0)]
set_option maxRecDepth 100000 in
set_option maxHeartbeats 4000000 in
theorem c_X6_valueOfSmall (l : Launch) (G : vg_G) (hp : vg_Hp G) : vg_Ct l G vg_sh r_X6_valueOfSmall := by
  refine vg_meth hp vg_sh_ok r_X6_valueOfSmall k_X6_valueOfSmall rfl (fun h => by cases h) o_X6_valueOfSmall [] false (by decide +kernel) (by decide +kernel) ⟨_, _, rfl, rfl⟩ (fun _ h => absurd h List.not_mem_nil) (fun h => by cases h) 600 ?_
  intro as s0 hpre
  obtain ⟨r, a1, rfl, hr, i0⟩ := hpre
  simp only [List.mem_cons, List.not_mem_nil, or_false] at hr
  rcases hr with rfl | rfl
  ·
    have z1 : (Int32.ofInt 1).toInt = 1 := by decide
    have z2 : (Int32.ofInt 2).toInt = 2 := by decide
    refine ⟨Nat.le_of_ble_eq_true rfl, [], ?_, fun _ h => absurd h List.not_mem_nil⟩
    ·
      intro v1 e2
      have g3 : s0.1 4 2 = v1 := by rw [e2]
      have b4 : (1 : Int) ≤ v1.toInt ∧ v1.toInt ≤ 5000 := by rw [e2]; exact Iv_4_2 i0
      intro v5 e6
      intro v7 e8
      intro v9 e10
      have g11 : s0.1 4 3 = v9 := by rw [e10]
      have b12 : (2 : Int) ≤ v9.toInt ∧ v9.toInt ≤ 17 := by rw [e10]; exact Iv_4_3 i0
      intro v13 e14
      intro v15 e16
      show s0 = s0 ∧ (v15 = q_val (s0.1 4 2) (s0.1 4 3) a1)
      exact ⟨rfl, (by subst_vars; rfl)⟩
  ·
    have z1 : (Int32.ofInt 1).toInt = 1 := by decide
    have z2 : (Int32.ofInt 2).toInt = 2 := by decide
    refine ⟨Nat.le_of_ble_eq_true rfl, [], ?_, fun _ h => absurd h List.not_mem_nil⟩
    ·
      intro v1 e2
      have g3 : s0.1 23 2 = v1 := by rw [e2]
      have b4 : (1 : Int) ≤ v1.toInt ∧ v1.toInt ≤ 5000 := by rw [e2]; exact Iv_23_2 i0
      intro v5 e6
      intro v7 e8
      intro v9 e10
      have g11 : s0.1 23 3 = v9 := by rw [e10]
      have b12 : (2 : Int) ≤ v9.toInt ∧ v9.toInt ≤ 17 := by rw [e10]; exact Iv_23_3 i0
      intro v13 e14
      intro v15 e16
      show s0 = s0 ∧ (v15 = q_val (s0.1 23 2) (s0.1 23 3) a1)
      exact ⟨rfl, (by subst_vars; rfl)⟩
def o_X6_valueOf : List vg_I := [(0, .aload_n 0, 1, 0, 0, 0, 0), (1, .iload_n 1, 1, 0, 0, 0, 0), (2, .aload_n 0, 1, 0, 0, 0, 0), (3, .invokevirtual 38, 3, 0, 6, 0, 709), (6, .isub, 1, 0, 0, 0, 0), (7, .invokevirtual 42, 3, 1, 6, 1, 710), (10, .ireturn, 1, 0, 0, 0, 0)]
set_option maxRecDepth 100000 in
set_option maxHeartbeats 4000000 in
theorem c_X6_valueOf (l : Launch) (G : vg_G) (hp : vg_Hp G) : vg_Ct l G vg_sh r_X6_valueOf := by
  refine vg_meth hp vg_sh_ok r_X6_valueOf k_X6_valueOf rfl (fun h => by cases h) o_X6_valueOf [r_X6_besides, r_X6_valueOfSmall] false (by decide +kernel) (by decide +kernel) ⟨_, _, rfl, rfl⟩ (List.forall_mem_cons.mpr ⟨⟨c_X6_besides l G hp, Nat.le_of_ble_eq_true rfl, Nat.le_of_ble_eq_true rfl⟩, List.forall_mem_cons.mpr ⟨⟨c_X6_valueOfSmall l G hp, Nat.le_of_ble_eq_true rfl, Nat.le_of_ble_eq_true rfl⟩, fun _ h => absurd h List.not_mem_nil⟩⟩) (fun h => by cases h) 600 ?_
  intro as s0 hpre
  obtain ⟨r, a1, rfl, hr, i0⟩ := hpre
  simp only [List.mem_cons, List.not_mem_nil, or_false] at hr
  rcases hr with rfl | rfl
  ·
    refine ⟨Nat.le_of_ble_eq_true rfl, [], ?_, fun _ h => absurd h List.not_mem_nil⟩
    ·
      refine And.intro (Nat.le_of_ble_eq_true rfl) (And.intro ⟨4, rfl, by decide, i0⟩ ?_)
      intro v1 s3 h2
      have h2 : s3 = s0 ∧ (v1 = q_bes (s0.1 4 0) (s0.1 4 1) (s0.1 4 3)) := h2
      have q6 := h2.1.symm
      subst q6
      have q7 := h2.2
      have y0 := q7
      intro v8 e9
      refine And.intro (Nat.le_of_ble_eq_true rfl) (And.intro ⟨4, v8, rfl, by decide, i0⟩ ?_)
      intro v10 s12 h11
      have h11 : s12 = s0 ∧ (v10 = q_val (s0.1 4 2) (s0.1 4 3) v8) := h11
      have q15 := h11.1.symm
      subst q15
      have q16 := h11.2
      show s0 = s0 ∧ (v10 = q_val (s0.1 4 2) (s0.1 4 3) (a1 - q_bes (s0.1 4 0) (s0.1 4 1) (s0.1 4 3)))
      exact ⟨rfl, (by rw [q16, e9, y0])⟩
  ·
    refine ⟨Nat.le_of_ble_eq_true rfl, [], ?_, fun _ h => absurd h List.not_mem_nil⟩
    ·
      refine And.intro (Nat.le_of_ble_eq_true rfl) (And.intro ⟨23, rfl, by decide, i0⟩ ?_)
      intro v1 s3 h2
      have h2 : s3 = s0 ∧ (v1 = q_bes (s0.1 23 0) (s0.1 23 1) (s0.1 23 3)) := h2
      have q6 := h2.1.symm
      subst q6
      have q7 := h2.2
      have y0 := q7
      intro v8 e9
      refine And.intro (Nat.le_of_ble_eq_true rfl) (And.intro ⟨23, v8, rfl, by decide, i0⟩ ?_)
      intro v10 s12 h11
      have h11 : s12 = s0 ∧ (v10 = q_val (s0.1 23 2) (s0.1 23 3) v8) := h11
      have q15 := h11.1.symm
      subst q15
      have q16 := h11.2
      show s0 = s0 ∧ (v10 = q_val (s0.1 23 2) (s0.1 23 3) (a1 - q_bes (s0.1 23 0) (s0.1 23 1) (s0.1 23 3)))
      exact ⟨rfl, (by rw [q16, e9, y0])⟩
def o_X6_nearest : List vg_I := [(0, .iload_n 1, 1, 0, 0, 0, 0), (1, .aload_n 0, 1, 0, 0, 0, 0), (2, .getfield 18, 3, 145, 6, 2, 0), (5, .aload_n 0, 1, 0, 0, 0, 0), (6, .getfield 21, 3, 147, 6, 3, 0), (9, .iconst 2, 1, 0, 0, 0, 0), (10, .isub, 1, 0, 0, 0, 0), (11, .imul, 1, 0, 0, 0, 0), (12, .iadd, 1, 0, 0, 0, 0), (13, .ineg, 1, 0, 0, 0, 0), (14, .iconst 2, 1, 0, 0, 0, 0), (15, .aload_n 0, 1, 0, 0, 0, 0), (16, .getfield 18, 3, 145, 6, 2, 0), (19, .imul, 1, 0, 0, 0, 0), (20, .invokestatic 46, 3, 0, 1, 2, 676), (23, .ineg, 1, 0, 0, 0, 0), (24, .istore_n 2, 1, 0, 0, 0, 0), (25, .iconst 0, 1, 0, 0, 0, 0), (26, .aload_n 0, 1, 0, 0, 0, 0), (27, .getfield 21, 3, 147, 6, 3, 0), (30, .iconst 1, 1, 0, 0, 0, 0), (31, .isub, 1, 0, 0, 0, 0), (32, .iload_n 2, 1, 0, 0, 0, 0), (33, .invokestatic 52, 3, 1, 1, 2, 679), (36, .invokestatic 55, 3, 2, 1, 2, 680), (39, .ireturn, 1, 0, 0, 0, 0)]
set_option maxRecDepth 100000 in
set_option maxHeartbeats 4000000 in
theorem c_X6_nearest (l : Launch) (G : vg_G) (hp : vg_Hp G) : vg_Ct l G vg_sh r_X6_nearest := by
  refine vg_meth hp vg_sh_ok r_X6_nearest k_X6_nearest rfl (fun h => by cases h) o_X6_nearest [r_J9_floorDiv_7cf53, r_J9_min_7cf53, r_J9_max_7cf53] false (by decide +kernel) (by decide +kernel) ⟨_, _, rfl, rfl⟩ (List.forall_mem_cons.mpr ⟨⟨c_J9_floorDiv_7cf53 l G hp, Nat.le_of_ble_eq_true rfl, Nat.le_of_ble_eq_true rfl⟩, List.forall_mem_cons.mpr ⟨⟨c_J9_min_7cf53 l G hp, Nat.le_of_ble_eq_true rfl, Nat.le_of_ble_eq_true rfl⟩, List.forall_mem_cons.mpr ⟨⟨c_J9_max_7cf53 l G hp, Nat.le_of_ble_eq_true rfl, Nat.le_of_ble_eq_true rfl⟩, fun _ h => absurd h List.not_mem_nil⟩⟩⟩) (fun h => by cases h) 600 ?_
  intro as s0 hpre
  obtain ⟨r, a1, rfl, hr, i0⟩ := hpre
  simp only [List.mem_cons, List.not_mem_nil, or_false] at hr
  rcases hr with rfl | rfl
  ·
    have z0 : (Int32.ofInt 0).toInt = 0 := by decide
    have z1 : (Int32.ofInt 1).toInt = 1 := by decide
    have z2 : (Int32.ofInt 2).toInt = 2 := by decide
    refine ⟨Nat.le_of_ble_eq_true rfl, [], ?_, fun _ h => absurd h List.not_mem_nil⟩
    ·
      intro v1 e2
      have g3 : s0.1 4 2 = v1 := by rw [e2]
      have b4 : (1 : Int) ≤ v1.toInt ∧ v1.toInt ≤ 5000 := by rw [e2]; exact Iv_4_2 i0
      have yS := e2
      intro v5 e6
      have g7 : s0.1 4 3 = v5 := by rw [e6]
      have b8 : (2 : Int) ≤ v5.toInt ∧ v5.toInt ≤ 17 := by rw [e6]; exact Iv_4_3 i0
      have yL := e6
      intro v9 e10
      have b11 := vg_sub e10 (by omega) (by omega)
      have y0 := e10
      intro v12 e13
      have y1 := e13
      intro v14 e15
      have y2 := e15
      intro v16 e17
      have y3 := e17
      intro v18 e19
      have w20 : v1 = v18 := by rw [e19, g3]
      subst w20
      intro v21 e22
      have b23 : v21.toInt = (2) * v1.toInt := vg_mulL e22 (by omega) (by omega) (by omega)
      have y4 := e22
      refine And.intro (Nat.le_of_ble_eq_true rfl) (And.intro ⟨v16, v21, rfl, by omega⟩ ?_)
      intro v24 s26 h25
      have h25 : s26 = s0 ∧ (v24.toInt = v16.toInt / v21.toInt) := h25
      have q29 := h25.1.symm
      subst q29
      have q30 := h25.2
      have y5 := q30
      intro v31 e32
      have y6 := e32
      intro v33 e34
      have w35 : v5 = v33 := by rw [e34, g7]
      subst w35
      intro v36 e37
      have b38 := vg_sub e37 (by omega) (by omega)
      have y7 := e37
      refine And.intro (Nat.le_of_ble_eq_true rfl) (And.intro ⟨v36, v31, rfl, trivial⟩ ?_)
      intro v39 s41 h40
      have h40 : s41 = s0 ∧ (v39.toInt ≤ v36.toInt ∧ v39.toInt ≤ v31.toInt ∧ (v39.toInt = v36.toInt ∨ v39.toInt = v31.toInt)) := h40
      have q44 := h40.1.symm
      subst q44
      have q45 := h40.2
      have y8 := q45
      refine And.intro (Nat.le_of_ble_eq_true rfl) (And.intro ⟨(Int32.ofInt 0), v39, rfl, trivial⟩ ?_)
      intro v46 s48 h47
      have h47 : s48 = s0 ∧ ((Int32.ofInt 0).toInt ≤ v46.toInt ∧ v39.toInt ≤ v46.toInt ∧ (v46.toInt = (Int32.ofInt 0).toInt ∨ v46.toInt = v39.toInt)) := h47
      have q51 := h47.1.symm
      subst q51
      have q52 := h47.2
      show s0 = s0 ∧ (0 ≤ v46.toInt ∧ v46.toInt ≤ 16 ∧ (-10000000 ≤ a1.toInt ∧ a1.toInt ≤ 10000000 → v46 = q_near (s0.1 4 2) (s0.1 4 3) a1))
      exact ⟨rfl, (⟨by omega, by omega, fun hw => by rw [← yS, ← yL]; exact q_near_cl ⟨by omega, by omega⟩ ⟨by omega, by omega⟩ hw y0 y1 y2 y3 y4 y5 y6 y7 y8 q52⟩)⟩
  ·
    have z0 : (Int32.ofInt 0).toInt = 0 := by decide
    have z1 : (Int32.ofInt 1).toInt = 1 := by decide
    have z2 : (Int32.ofInt 2).toInt = 2 := by decide
    refine ⟨Nat.le_of_ble_eq_true rfl, [], ?_, fun _ h => absurd h List.not_mem_nil⟩
    ·
      intro v1 e2
      have g3 : s0.1 23 2 = v1 := by rw [e2]
      have b4 : (1 : Int) ≤ v1.toInt ∧ v1.toInt ≤ 5000 := by rw [e2]; exact Iv_23_2 i0
      have yS := e2
      intro v5 e6
      have g7 : s0.1 23 3 = v5 := by rw [e6]
      have b8 : (2 : Int) ≤ v5.toInt ∧ v5.toInt ≤ 17 := by rw [e6]; exact Iv_23_3 i0
      have yL := e6
      intro v9 e10
      have b11 := vg_sub e10 (by omega) (by omega)
      have y0 := e10
      intro v12 e13
      have y1 := e13
      intro v14 e15
      have y2 := e15
      intro v16 e17
      have y3 := e17
      intro v18 e19
      have w20 : v1 = v18 := by rw [e19, g3]
      subst w20
      intro v21 e22
      have b23 : v21.toInt = (2) * v1.toInt := vg_mulL e22 (by omega) (by omega) (by omega)
      have y4 := e22
      refine And.intro (Nat.le_of_ble_eq_true rfl) (And.intro ⟨v16, v21, rfl, by omega⟩ ?_)
      intro v24 s26 h25
      have h25 : s26 = s0 ∧ (v24.toInt = v16.toInt / v21.toInt) := h25
      have q29 := h25.1.symm
      subst q29
      have q30 := h25.2
      have y5 := q30
      intro v31 e32
      have y6 := e32
      intro v33 e34
      have w35 : v5 = v33 := by rw [e34, g7]
      subst w35
      intro v36 e37
      have b38 := vg_sub e37 (by omega) (by omega)
      have y7 := e37
      refine And.intro (Nat.le_of_ble_eq_true rfl) (And.intro ⟨v36, v31, rfl, trivial⟩ ?_)
      intro v39 s41 h40
      have h40 : s41 = s0 ∧ (v39.toInt ≤ v36.toInt ∧ v39.toInt ≤ v31.toInt ∧ (v39.toInt = v36.toInt ∨ v39.toInt = v31.toInt)) := h40
      have q44 := h40.1.symm
      subst q44
      have q45 := h40.2
      have y8 := q45
      refine And.intro (Nat.le_of_ble_eq_true rfl) (And.intro ⟨(Int32.ofInt 0), v39, rfl, trivial⟩ ?_)
      intro v46 s48 h47
      have h47 : s48 = s0 ∧ ((Int32.ofInt 0).toInt ≤ v46.toInt ∧ v39.toInt ≤ v46.toInt ∧ (v46.toInt = (Int32.ofInt 0).toInt ∨ v46.toInt = v39.toInt)) := h47
      have q51 := h47.1.symm
      subst q51
      have q52 := h47.2
      show s0 = s0 ∧ (0 ≤ v46.toInt ∧ v46.toInt ≤ 16 ∧ (-10000000 ≤ a1.toInt ∧ a1.toInt ≤ 10000000 → v46 = q_near (s0.1 23 2) (s0.1 23 3) a1))
      exact ⟨rfl, (⟨by omega, by omega, fun hw => by rw [← yS, ← yL]; exact q_near_cl ⟨by omega, by omega⟩ ⟨by omega, by omega⟩ hw y0 y1 y2 y3 y4 y5 y6 y7 y8 q52⟩)⟩
def o_X6_elementsOf : List vg_I := [(0, .iload_n 0, 1, 0, 0, 0, 0), (1, .iconst 2, 1, 0, 0, 0, 0), (2, .if_icmp .ne 15, 3, 0, 0, 0, 0), (5, .iload_n 2, 1, 0, 0, 0, 0), (6, .iconst 1, 1, 0, 0, 0, 0), (7, .isub, 1, 0, 0, 0, 0), (8, .iconst 1, 1, 0, 0, 0, 0), (9, .iload_n 1, 1, 0, 0, 0, 0), (10, .ishl, 1, 0, 0, 0, 0), (11, .iconst 1, 1, 0, 0, 0, 0), (12, .isub, 1, 0, 0, 0, 0), (13, .imul, 1, 0, 0, 0, 0), (14, .goto 6, 3, 0, 0, 0, 0), (17, .iload_n 2, 1, 0, 0, 0, 0), (18, .iconst 1, 1, 0, 0, 0, 0), (19, .isub, 1, 0, 0, 0, 0), (20, .ireturn, 1, 0, 0, 0, 0)]
set_option maxRecDepth 100000 in
set_option maxHeartbeats 4000000 in
theorem c_X6_elementsOf (l : Launch) (G : vg_G) (hp : vg_Hp G) : vg_Ct l G vg_sh r_X6_elementsOf := by
  refine vg_meth hp vg_sh_ok r_X6_elementsOf k_X6_elementsOf rfl (fun h => by cases h) o_X6_elementsOf [] false (by decide +kernel) (by decide +kernel) ⟨_, _, rfl, rfl⟩ (fun _ h => absurd h List.not_mem_nil) (fun h => by cases h) 600 ?_
  intro as s0 hpre
  obtain ⟨a1, a2, a3, rfl, p0⟩ := hpre
  have z1 : (Int32.ofInt 1).toInt = 1 := by decide
  have z2 : (Int32.ofInt 2).toInt = 2 := by decide
  refine ⟨Nat.le_of_ble_eq_true rfl, [], ?_, fun _ h => absurd h List.not_mem_nil⟩
  ·
    refine And.intro (fun c1 => ?_) (fun c1 => ?_)
    · have c1 : ¬ a1.toInt = (Int32.ofInt 2).toInt := c1
      intro v2 e3
      have b4 := vg_sub e3 (by omega) (by omega)
      show s0 = s0 ∧ (v2.toInt = (vg_eo a1 a2 a3).toInt ∧ 1 ≤ v2.toInt ∧ v2.toInt ≤ 240)
      exact ⟨rfl, (by refine ⟨?_, by omega, by omega⟩; simp only [vg_eo]; (first | rw [if_pos (by omega)] | rw [if_neg (by omega)]); subst_vars; rfl)⟩
    · have c1 : ¬ (¬ a1.toInt = (Int32.ofInt 2).toInt) := c1
      intro v5 e6
      have b7 := vg_sub e6 (by omega) (by omega)
      intro v8 e9
      have b10 := vg_shl1 e9 (by omega) (by omega) (by omega)
      intro v11 e12
      have b13 := vg_sub e12 (by omega) (by omega)
      intro v14 e15
      have b16 := (vg_mulr e15 (by omega) (by omega) (by omega) (by omega)).2
      show s0 = s0 ∧ (v14.toInt = (vg_eo a1 a2 a3).toInt ∧ 1 ≤ v14.toInt ∧ v14.toInt ≤ 240)
      exact ⟨rfl, (by refine ⟨?_, by omega, by omega⟩; simp only [vg_eo]; (first | rw [if_pos (by omega)] | rw [if_neg (by omega)]); subst_vars; rfl)⟩
def o_X5_begin : List vg_I := [(0, .aload_n 0, 1, 0, 0, 0, 0), (1, .getfield 16, 3, 180, 5, 1, 0), (4, .iconst 0, 1, 0, 0, 0, 0), (5, .invokestatic 23, 3, 0, 1, 2, 500), (8, .aload_n 0, 1, 0, 0, 0, 0), (9, .getfield 20, 3, 182, 5, 2, 0), (12, .iconst 0, 1, 0, 0, 0, 0), (13, .invokestatic 23, 3, 0, 1, 2, 500), (16, .aload_n 0, 1, 0, 0, 0, 0), (17, .iconst 0, 1, 0, 0, 0, 0), (18, .putfield 29, 3, 183, 5, 3, 0), (21, .aload_n 0, 1, 0, 0, 0, 0), (22, .aload_n 0, 1, 0, 0, 0, 0), (23, .getfield 12, 3, 178, 5, 0, 0), (26, .getfield 33, 3, 158, 6, 7, 0), (29, .putfield 36, 3, 185, 5, 4, 0), (32, .aload_n 0, 1, 0, 0, 0, 0), (33, .iconst 0, 1, 0, 0, 0, 0), (34, .putfield 39, 3, 187, 5, 5, 0), (37, .aload_n 0, 1, 0, 0, 0, 0), (38, .iconst 0, 1, 0, 0, 0, 0), (39, .putfield 42, 3, 189, 5, 6, 0), (42, .aload_n 0, 1, 0, 0, 0, 0), (43, .iconst 0, 1, 0, 0, 0, 0), (44, .putfield 45, 3, 192, 5, 8, 0), (47, .aload_n 0, 1, 0, 0, 0, 0), (48, .lconst 0, 1, 0, 0, 0, 0), (49, .putfield 48, 3, 194, 5, 9, 2), (52, .aload_n 0, 1, 0, 0, 0, 0), (53, .lconst 0, 1, 0, 0, 0, 0), (54, .putfield 52, 3, 196, 5, 10, 2), (57, .aload_n 0, 1, 0, 0, 0, 0), (58, .lconst 0, 1, 0, 0, 0, 0), (59, .putfield 55, 3, 198, 5, 11, 2), (62, .aload_n 0, 1, 0, 0, 0, 0), (63, .lconst 0, 1, 0, 0, 0, 0), (64, .putfield 58, 3, 200, 5, 12, 2), (67, .aload_n 0, 1, 0, 0, 0, 0), (68, .lconst 0, 1, 0, 0, 0, 0), (69, .putfield 61, 3, 202, 5, 13, 2), (72, .return_, 1, 0, 0, 0, 0)]
set_option maxRecDepth 100000 in
set_option maxHeartbeats 4000000 in
theorem c_X5_begin (l : Launch) (G : vg_G) (hp : vg_Hp G) : vg_Ct l G vg_sh r_X5_begin := by
  refine vg_meth hp vg_sh_ok r_X5_begin k_X5_begin rfl (fun h => by cases h) o_X5_begin [r_J7_fill_53178_atL] false (by decide +kernel) (by decide +kernel) ⟨_, _, rfl, rfl⟩ (List.forall_mem_cons.mpr ⟨⟨c_J7_fill_53178_atL l G hp, Nat.le_of_ble_eq_true rfl, Nat.le_of_ble_eq_true rfl⟩, fun _ h => absurd h List.not_mem_nil⟩) (fun h => by cases h) 600 ?_
  intro as s0 hpre
  obtain ⟨r, rfl, hr, i0⟩ := hpre
  simp only [List.mem_cons, List.not_mem_nil, or_false] at hr
  rcases hr with rfl | rfl
  ·
    have z0 : (Int32.ofInt 0).toInt = 0 := by decide
    refine ⟨Nat.le_of_ble_eq_true rfl, [], ?_, fun _ h => absurd h List.not_mem_nil⟩
    ·
      refine And.intro (Nat.le_of_ble_eq_true rfl) (And.intro ⟨5, (Int32.ofInt 0), rfl, by decide, i0, by omega⟩ ?_)
      intro s2 h1
      have h1 : Iv s2 ∧ Kp s0 s2 ∧ ((∀ j : Nat, s2.1 5 j = if j < q_len 5 then (Int32.ofInt 0) else s0.1 5 j) ∧ ∀ m, m ≠ 5 → s2.1 m = s0.1 m) := h1
      have i3 := h1.1
      have k4 : Kp s0 s2 := Kx.tr Kx.rf (h1.2.1)
      have q5 := h1.2.2
      have y0 := q5
      refine And.intro (Nat.le_of_ble_eq_true rfl) (And.intro ⟨6, (Int32.ofInt 0), rfl, by decide, i3, by omega⟩ ?_)
      intro s7 h6
      have h6 : Iv s7 ∧ Kp s2 s7 ∧ ((∀ j : Nat, s7.1 6 j = if j < q_len 6 then (Int32.ofInt 0) else s2.1 6 j) ∧ ∀ m, m ≠ 6 → s7.1 m = s2.1 m) := h6
      have i8 := h6.1
      have k9 : Kp s0 s7 := Kx.tr k4 (h6.2.1)
      have q10 := h6.2.2
      have y1 := q10
      intro s11 e12
      have i13 : Iv s11 := Iv.u1 i8 e12 rfl
      have k14 : Kp s0 s11 := Kx.u1 k9 e12 rfl
      intro v15 e16
      have g17 : s7.1 4 7 = v15 := by rw [e16, e12, vg_u1_ne (a := 4) (k := 3) (by decide)]
      intro s18 e19
      have i20 : Iv s18 := Iv.u1 i13 e19 rfl
      have k21 : Kp s0 s18 := Kx.u1 k14 e19 rfl
      intro s22 e23
      have i24 : Iv s22 := Iv.u1 i20 e23 rfl
      have k25 : Kp s0 s22 := Kx.u1 k21 e23 rfl
      intro s26 e27
      have i28 : Iv s26 := Iv.u1 i24 e27 rfl
      have k29 : Kp s0 s26 := Kx.u1 k25 e27 rfl
      intro s30 e31
      have i32 : Iv s30 := Iv.u1 i28 e31 rfl
      have k33 : Kp s0 s30 := Kx.u1 k29 e31 rfl
      intro s34 e35
      have i36 : Iv s34 := Iv.u2 i32 e35
      have k37 : Kp s0 s34 := Kx.u2 k33 e35 (vg_kq_no ⟨rfl, rfl, rfl⟩ rfl).1
      intro s38 e39
      have i40 : Iv s38 := Iv.u2 i36 e39
      have k41 : Kp s0 s38 := Kx.u2 k37 e39 (vg_kq_no ⟨rfl, rfl, rfl⟩ rfl).1
      intro s42 e43
      have i44 : Iv s42 := Iv.u2 i40 e43
      have k45 : Kp s0 s42 := Kx.u2 k41 e43 (vg_kq_no ⟨rfl, rfl, rfl⟩ rfl).1
      intro s46 e47
      have i48 : Iv s46 := Iv.u2 i44 e47
      have k49 : Kp s0 s46 := Kx.u2 k45 e47 (vg_kq_no ⟨rfl, rfl, rfl⟩ rfl).1
      intro s50 e51
      have i52 : Iv s50 := Iv.u2 i48 e51
      have k53 : Kp s0 s50 := Kx.u2 k49 e51 (vg_kq_no ⟨rfl, rfl, rfl⟩ rfl).1
      show Iv s50 ∧ Kp s0 s50 ∧ ((∀ j : Nat, j < 4 → s50.1 5 j = Int32.ofInt 0) ∧ (∀ j : Nat, j < 6 → s50.1 6 j = Int32.ofInt 0) ∧ s50.1 3 3 = Int32.ofInt 0 ∧ s50.1 4 = s0.1 4)
      exact ⟨i52, k53, (q_bg (r := 3) rfl rfl rfl rfl y0 y1 e12 e19 e23 e27 e31 e35 e39 e43 e47 e51)⟩
  ·
    have z0 : (Int32.ofInt 0).toInt = 0 := by decide
    refine ⟨Nat.le_of_ble_eq_true rfl, [], ?_, fun _ h => absurd h List.not_mem_nil⟩
    ·
      refine And.intro (Nat.le_of_ble_eq_true rfl) (And.intro ⟨24, (Int32.ofInt 0), rfl, by decide, i0, by omega⟩ ?_)
      intro s2 h1
      have h1 : Iv s2 ∧ Kp s0 s2 ∧ ((∀ j : Nat, s2.1 24 j = if j < q_len 24 then (Int32.ofInt 0) else s0.1 24 j) ∧ ∀ m, m ≠ 24 → s2.1 m = s0.1 m) := h1
      have i3 := h1.1
      have k4 : Kp s0 s2 := Kx.tr Kx.rf (h1.2.1)
      have q5 := h1.2.2
      have y0 := q5
      refine And.intro (Nat.le_of_ble_eq_true rfl) (And.intro ⟨25, (Int32.ofInt 0), rfl, by decide, i3, by omega⟩ ?_)
      intro s7 h6
      have h6 : Iv s7 ∧ Kp s2 s7 ∧ ((∀ j : Nat, s7.1 25 j = if j < q_len 25 then (Int32.ofInt 0) else s2.1 25 j) ∧ ∀ m, m ≠ 25 → s7.1 m = s2.1 m) := h6
      have i8 := h6.1
      have k9 : Kp s0 s7 := Kx.tr k4 (h6.2.1)
      have q10 := h6.2.2
      have y1 := q10
      intro s11 e12
      have i13 : Iv s11 := Iv.u1 i8 e12 rfl
      have k14 : Kp s0 s11 := Kx.u1 k9 e12 rfl
      intro v15 e16
      have g17 : s7.1 23 7 = v15 := by rw [e16, e12, vg_u1_ne (a := 23) (k := 22) (by decide)]
      intro s18 e19
      have i20 : Iv s18 := Iv.u1 i13 e19 rfl
      have k21 : Kp s0 s18 := Kx.u1 k14 e19 rfl
      intro s22 e23
      have i24 : Iv s22 := Iv.u1 i20 e23 rfl
      have k25 : Kp s0 s22 := Kx.u1 k21 e23 rfl
      intro s26 e27
      have i28 : Iv s26 := Iv.u1 i24 e27 rfl
      have k29 : Kp s0 s26 := Kx.u1 k25 e27 rfl
      intro s30 e31
      have i32 : Iv s30 := Iv.u1 i28 e31 rfl
      have k33 : Kp s0 s30 := Kx.u1 k29 e31 rfl
      intro s34 e35
      have i36 : Iv s34 := Iv.u2 i32 e35
      have k37 : Kp s0 s34 := Kx.u2 k33 e35 (vg_kq_no ⟨rfl, rfl, rfl⟩ rfl).1
      intro s38 e39
      have i40 : Iv s38 := Iv.u2 i36 e39
      have k41 : Kp s0 s38 := Kx.u2 k37 e39 (vg_kq_no ⟨rfl, rfl, rfl⟩ rfl).1
      intro s42 e43
      have i44 : Iv s42 := Iv.u2 i40 e43
      have k45 : Kp s0 s42 := Kx.u2 k41 e43 (vg_kq_no ⟨rfl, rfl, rfl⟩ rfl).1
      intro s46 e47
      have i48 : Iv s46 := Iv.u2 i44 e47
      have k49 : Kp s0 s46 := Kx.u2 k45 e47 (vg_kq_no ⟨rfl, rfl, rfl⟩ rfl).1
      intro s50 e51
      have i52 : Iv s50 := Iv.u2 i48 e51
      have k53 : Kp s0 s50 := Kx.u2 k49 e51 (vg_kq_no ⟨rfl, rfl, rfl⟩ rfl).1
      show Iv s50 ∧ Kp s0 s50 ∧ ((∀ j : Nat, j < 4 → s50.1 24 j = Int32.ofInt 0) ∧ (∀ j : Nat, j < 6 → s50.1 25 j = Int32.ofInt 0) ∧ s50.1 22 3 = Int32.ofInt 0 ∧ s50.1 23 = s0.1 23)
      exact ⟨i52, k53, (q_bg (r := 22) rfl rfl rfl rfl y0 y1 e12 e19 e23 e27 e31 e35 e39 e43 e47 e51)⟩
def o_X5_beginTone : List vg_I := [(0, .aload_n 0, 1, 0, 0, 0, 0), (1, .getfield 12, 3, 178, 5, 0, 0), (4, .aload_n 1, 1, 0, 0, 0, 0), (5, .invokevirtual 64, 3, 0, 6, 1, 956), (8, .aload_n 0, 1, 0, 0, 0, 0), (9, .getfield 12, 3, 178, 5, 0, 0), (12, .iconst 0, 1, 0, 0, 0, 0), (13, .putfield 68, 3, 156, 6, 6, 0), (16, .aload_n 0, 1, 0, 0, 0, 0), (17, .invokevirtual 71, 3, 1, 5, 0, 960), (20, .return_, 1, 0, 0, 0, 0)]
set_option maxRecDepth 100000 in
set_option maxHeartbeats 4000000 in
theorem c_X5_beginTone (l : Launch) (G : vg_G) (hp : vg_Hp G) : vg_Ct l G vg_sh r_X5_beginTone := by
  refine vg_meth hp vg_sh_ok r_X5_beginTone k_X5_beginTone rfl (fun h => by cases h) o_X5_beginTone [r_X6_copyFrom, r_X5_begin] false (by decide +kernel) (by decide +kernel) ⟨_, _, rfl, rfl⟩ (List.forall_mem_cons.mpr ⟨⟨c_X6_copyFrom l G hp, Nat.le_of_ble_eq_true rfl, Nat.le_of_ble_eq_true rfl⟩, List.forall_mem_cons.mpr ⟨⟨c_X5_begin l G hp, Nat.le_of_ble_eq_true rfl, Nat.le_of_ble_eq_true rfl⟩, fun _ h => absurd h List.not_mem_nil⟩⟩) (fun h => by cases h) 600 ?_
  intro as s0 hpre
  obtain ⟨r, a1, rfl, hr, ha1, i0⟩ := hpre
  simp only [List.mem_cons, List.not_mem_nil, or_false] at hr
  rcases hr with rfl
  ·
    simp only [List.mem_cons, List.not_mem_nil, or_false] at ha1
    rcases ha1 with rfl
    ·
      have z0 : (Int32.ofInt 0).toInt = 0 := by decide
      refine ⟨Nat.le_of_ble_eq_true rfl, [], ?_, fun _ h => absurd h List.not_mem_nil⟩
      ·
        refine And.intro (Nat.le_of_ble_eq_true rfl) (And.intro ⟨23, 4, rfl, by decide, by decide, i0⟩ ?_)
        intro s2 h1
        have h1 : Iv s2 ∧ Kp s0 s2 ∧ (∀ j : Nat, j < 8 → s2.1 23 j = s0.1 4 j) := h1
        have i3 := h1.1
        have k4 : Kp s0 s2 := Kx.tr Kx.rf (h1.2.1)
        have q5 := h1.2.2
        have y0 := q5
        intro s6 e7
        have i8 : Iv s6 := Iv.c1 (lo := 0) (hi := 5000) i3 e7 rfl (by omega) (by omega)
        have k9 : Kp s0 s6 := Kx.u1 k4 e7 rfl
        have y1 := e7
        refine And.intro (Nat.le_of_ble_eq_true rfl) (And.intro ⟨22, rfl, by decide, i8⟩ ?_)
        intro s11 h10
        have h10 : Iv s11 ∧ Kp s6 s11 ∧ ((∀ j : Nat, j < 4 → s11.1 24 j = Int32.ofInt 0) ∧ (∀ j : Nat, j < 6 → s11.1 25 j = Int32.ofInt 0) ∧ s11.1 22 3 = Int32.ofInt 0 ∧ s11.1 23 = s6.1 23) := h10
        have i12 := h10.1
        have k13 : Kp s0 s11 := Kx.tr k9 (h10.2.1)
        have q14 := h10.2.2
        show Iv s11 ∧ Kp s0 s11 ∧ (q_btR s0 s11)
        exact ⟨i12, k13, (q_bt y0 y1 q14)⟩
def o_X5_copyFrom : List vg_I := [(0, .aload_n 0, 1, 0, 0, 0, 0), (1, .getfield 12, 3, 178, 5, 0, 0), (4, .aload_n 1, 1, 0, 0, 0, 0), (5, .getfield 12, 3, 178, 5, 0, 0), (8, .invokevirtual 64, 3, 0, 6, 1, 956), (11, .aload_n 0, 1, 0, 0, 0, 0), (12, .invokevirtual 71, 3, 1, 5, 0, 960), (15, .aload_n 1, 1, 0, 0, 0, 0), (16, .getfield 16, 3, 180, 5, 1, 0), (19, .iconst 0, 1, 0, 0, 0, 0), (20, .aload_n 0, 1, 0, 0, 0, 0), (21, .getfield 16, 3, 180, 5, 1, 0), (24, .iconst 0, 1, 0, 0, 0, 0), (25, .iconst 4, 1, 0, 0, 0, 0), (26, .invokestatic 74, 3, 0, 3, 0, 966), (29, .aload_n 1, 1, 0, 0, 0, 0), (30, .getfield 20, 3, 182, 5, 2, 0), (33, .iconst 0, 1, 0, 0, 0, 0), (34, .aload_n 0, 1, 0, 0, 0, 0), (35, .getfield 20, 3, 182, 5, 2, 0), (38, .iconst 0, 1, 0, 0, 0, 0), (39, .bipush 6, 2, 0, 0, 0, 0), (41, .invokestatic 74, 3, 0, 3, 0, 966), (44, .aload_n 0, 1, 0, 0, 0, 0), (45, .aload_n 1, 1, 0, 0, 0, 0), (46, .getfield 29, 3, 183, 5, 3, 0), (49, .putfield 29, 3, 183, 5, 3, 0), (52, .aload_n 0, 1, 0, 0, 0, 0), (53, .aload_n 1, 1, 0, 0, 0, 0), (54, .getfield 36, 3, 185, 5, 4, 0), (57, .putfield 36, 3, 185, 5, 4, 0), (60, .return_, 1, 0, 0, 0, 0)]
set_option maxRecDepth 100000 in
set_option maxHeartbeats 4000000 in
theorem c_X5_copyFrom (l : Launch) (G : vg_G) (hp : vg_Hp G) : vg_Ct l G vg_sh r_X5_copyFrom := by
  refine vg_meth hp vg_sh_ok r_X5_copyFrom k_X5_copyFrom rfl (fun h => by cases h) o_X5_copyFrom [r_X6_copyFrom, r_X5_begin] true (by decide +kernel) (by decide +kernel) ⟨_, _, rfl, rfl⟩ (List.forall_mem_cons.mpr ⟨⟨c_X6_copyFrom l G hp, Nat.le_of_ble_eq_true rfl, Nat.le_of_ble_eq_true rfl⟩, List.forall_mem_cons.mpr ⟨⟨c_X5_begin l G hp, Nat.le_of_ble_eq_true rfl, Nat.le_of_ble_eq_true rfl⟩, fun _ h => absurd h List.not_mem_nil⟩⟩) (fun _ => ⟨⟨Nat.le_of_ble_eq_true rfl, Nat.le_of_ble_eq_true rfl⟩, vg_cpw_in⟩) 600 ?_
  intro as s0 hpre
  obtain ⟨r, a1, rfl, hr, ha1, i0⟩ := hpre
  simp only [List.mem_cons, List.not_mem_nil, or_false] at hr
  rcases hr with rfl
  ·
    simp only [List.mem_cons, List.not_mem_nil, or_false] at ha1
    rcases ha1 with rfl
    ·
      have z0 : (Int32.ofInt 0).toInt = 0 := by decide
      have z4 : (Int32.ofInt 4).toInt = 4 := by decide
      have z6 : (Int32.ofInt 6).toInt = 6 := by decide
      refine ⟨Nat.le_of_ble_eq_true rfl, [], ?_, fun _ h => absurd h List.not_mem_nil⟩
      ·
        refine And.intro (Nat.le_of_ble_eq_true rfl) (And.intro ⟨23, 4, rfl, by decide, by decide, i0⟩ ?_)
        intro s2 h1
        have h1 : Iv s2 ∧ Kp s0 s2 ∧ (∀ j : Nat, j < 8 → s2.1 23 j = s0.1 4 j) := h1
        have i3 := h1.1
        have k4 : Kp s0 s2 := Kx.tr Kx.rf (h1.2.1)
        have q5 := h1.2.2
        refine And.intro (Nat.le_of_ble_eq_true rfl) (And.intro ⟨22, rfl, by decide, i3⟩ ?_)
        intro s7 h6
        have h6 : Iv s7 ∧ Kp s2 s7 ∧ ((∀ j : Nat, j < 4 → s7.1 24 j = Int32.ofInt 0) ∧ (∀ j : Nat, j < 6 → s7.1 25 j = Int32.ofInt 0) ∧ s7.1 22 3 = Int32.ofInt 0 ∧ s7.1 23 = s2.1 23) := h6
        have i8 := h6.1
        have k9 : Kp s0 s7 := Kx.tr k4 (h6.2.1)
        have q10 := h6.2.2
        refine And.intro (Nat.le_of_ble_eq_true rfl) (And.intro (by omega) (And.intro (by omega) (And.intro (by omega) (And.intro (by omega) (And.intro (by omega) ?_)))))
        intro s11 e12
        have i13 : Iv s11 := Iv.cw i8 e12
        have k14 : Kp s0 s11 := Kx.w1 k9 e12 (fun _ => rfl)
        refine And.intro (Nat.le_of_ble_eq_true rfl) (And.intro (by omega) (And.intro (by omega) (And.intro (by omega) (And.intro (by omega) (And.intro (by omega) ?_)))))
        intro s15 e16
        have i17 : Iv s15 := Iv.w1 i13 e16 rfl
        have k18 : Kp s0 s15 := Kx.w1 k14 e16 (fun _ => rfl)
        intro v19 e20
        have g21 : s7.1 3 3 = v19 := by rw [e20, e16, vg_w1_at (a := 3) (k := 25) (by decide), e12, vg_w1_at (a := 3) (k := 24) (by decide)]
        intro s22 e23
        have i24 : Iv s22 := Iv.u1 i17 e23 rfl
        have k25 : Kp s0 s22 := Kx.u1 k18 e23 rfl
        intro v26 e27
        have g28 : s7.1 3 4 = v26 := by rw [e27, e23, vg_u1_ne (a := 3) (k := 22) (by decide), e16, vg_w1_at (a := 3) (k := 25) (by decide), e12, vg_w1_at (a := 3) (k := 24) (by decide)]
        intro s29 e30
        have i31 : Iv s29 := Iv.u1 i24 e30 rfl
        have k32 : Kp s0 s29 := Kx.u1 k25 e30 rfl
        show Iv s29 ∧ Kp s0 s29 ∧ (True)
        exact ⟨i31, k32, (trivial)⟩
def o_X5_gapNow : List vg_I := [(0, .aload_n 0, 1, 0, 0, 0, 0), (1, .getfield 52, 3, 196, 5, 10, 0), (4, .aload_n 0, 1, 0, 0, 0, 0), (5, .getfield 48, 3, 194, 5, 9, 0), (8, .lsub, 1, 0, 0, 0, 0), (9, .lreturn, 1, 0, 0, 0, 0)]
set_option maxRecDepth 100000 in
set_option maxHeartbeats 4000000 in
theorem c_X5_gapNow (l : Launch) (G : vg_G) (hp : vg_Hp G) : vg_Ct l G vg_sh r_X5_gapNow := by
  refine vg_meth hp vg_sh_ok r_X5_gapNow k_X5_gapNow rfl (fun h => by cases h) o_X5_gapNow [] false (by decide +kernel) (by decide +kernel) ⟨_, _, rfl, rfl⟩ (fun _ h => absurd h List.not_mem_nil) (fun h => by cases h) 600 ?_
  intro as s0 hpre
  obtain ⟨r, rfl, hr, i0⟩ := hpre
  simp only [List.mem_cons, List.not_mem_nil, or_false] at hr
  rcases hr with rfl | rfl
  ·
    refine ⟨Nat.le_of_ble_eq_true rfl, [], ?_, fun _ h => absurd h List.not_mem_nil⟩
    ·
      intro v1 e2
      intro v3 e4
      intro v5 e6
      show s0 = s0 ∧ (True)
      exact ⟨rfl, (trivial)⟩
  ·
    refine ⟨Nat.le_of_ble_eq_true rfl, [], ?_, fun _ h => absurd h List.not_mem_nil⟩
    ·
      intro v1 e2
      intro v3 e4
      intro v5 e6
      show s0 = s0 ∧ (True)
      exact ⟨rfl, (trivial)⟩
def o_X5_drawDither : List vg_I := [(0, .aload_n 0, 1, 0, 0, 0, 0), (1, .getfield 12, 3, 178, 5, 0, 0), (4, .getfield 68, 3, 156, 6, 6, 0), (7, .ifCond .ne 5, 3, 0, 0, 0, 0), (10, .iconst 0, 1, 0, 0, 0, 0), (11, .ireturn, 1, 0, 0, 0, 0), (12, .aload_n 0, 1, 0, 0, 0, 0), (13, .aload_n 0, 1, 0, 0, 0, 0), (14, .getfield 36, 3, 185, 5, 4, 0), (17, .i2l, 1, 0, 0, 0, 0), (18, .ldc2_w 158, 3, 653, 0, 0, 1103515245), (21, .lmul, 1, 0, 0, 0, 0), (22, .ldc2_w 160, 3, 654, 0, 0, 12345), (25, .ladd, 1, 0, 0, 0, 0), (26, .ldc2_w 162, 3, 655, 0, 0, 2147483647), (29, .land, 1, 0, 0, 0, 0), (30, .l2i, 1, 0, 0, 0, 0), (31, .putfield 36, 3, 185, 5, 4, 0), (34, .aload_n 0, 1, 0, 0, 0, 0), (35, .getfield 36, 3, 185, 5, 4, 0), (38, .ldc 164, 2, 656, 0, 0, 65536), (40, .idiv, 1, 0, 0, 0, 0), (41, .iconst 2, 1, 0, 0, 0, 0), (42, .aload_n 0, 1, 0, 0, 0, 0), (43, .getfield 12, 3, 178, 5, 0, 0), (46, .getfield 68, 3, 156, 6, 6, 0), (49, .imul, 1, 0, 0, 0, 0), (50, .iconst 1, 1, 0, 0, 0, 0), (51, .iadd, 1, 0, 0, 0, 0), (52, .irem, 1, 0, 0, 0, 0), (53, .aload_n 0, 1, 0, 0, 0, 0), (54, .getfield 12, 3, 178, 5, 0, 0), (57, .getfield 68, 3, 156, 6, 6, 0), (60, .isub, 1, 0, 0, 0, 0), (61, .ireturn, 1, 0, 0, 0, 0)]
set_option maxRecDepth 100000 in
set_option maxHeartbeats 4000000 in
theorem c_X5_drawDither (l : Launch) (G : vg_G) (hp : vg_Hp G) : vg_Ct l G vg_sh r_X5_drawDither := by
  refine vg_meth hp vg_sh_ok r_X5_drawDither k_X5_drawDither rfl (fun h => by cases h) o_X5_drawDither [] false (by decide +kernel) (by decide +kernel) ⟨_, _, rfl, rfl⟩ (fun _ h => absurd h List.not_mem_nil) (fun h => by cases h) 600 ?_
  intro as s0 hpre
  obtain ⟨r, rfl, hr, i0⟩ := hpre
  simp only [List.mem_cons, List.not_mem_nil, or_false] at hr
  rcases hr with rfl | rfl
  ·
    have z0 : (Int32.ofInt 0).toInt = 0 := by decide
    have z1 : (Int32.ofInt 1).toInt = 1 := by decide
    have z2 : (Int32.ofInt 2).toInt = 2 := by decide
    have z65536 : (Int32.ofInt 65536).toInt = 65536 := by decide
    refine ⟨Nat.le_of_ble_eq_true rfl, [], ?_, fun _ h => absurd h List.not_mem_nil⟩
    ·
      intro v1 e2
      have g3 : s0.1 4 6 = v1 := by rw [e2]
      have b4 : v1.toInt = (s0.1 4 6).toInt := congrArg Int32.toInt e2
      have b5 : (0 : Int) ≤ v1.toInt ∧ v1.toInt ≤ 5000 := by rw [e2]; exact Iv_4_6 i0
      refine And.intro (fun c6 => ?_) (fun c6 => ?_)
      · have c6 : ¬ v1.toInt = 0 := c6
        intro v7 e8
        have g9 : s0.1 3 4 = v7 := by rw [e8]
        intro v10 e11
        intro v12 e13
        intro v14 e15
        intro v16 e17
        intro v18 e19
        intro s20 e21
        have i22 : Iv s20 := Iv.u1 i0 e21 rfl
        have k23 : Kp s0 s20 := Kx.u1 Kx.rf e21 rfl
        intro v24 e25
        have w26 : v18 = v24 := by rw [e25, e21]; exact vg_u1_self.symm
        subst w26
        refine And.intro (by omega) ?_
        intro v27 e28
        intro v29 e30
        have w31 : v1 = v29 := by rw [e30, e21, vg_u1_ne (a := 4) (k := 3) (by decide), g3]
        subst w31
        intro v32 e33
        have b34 : v32.toInt = (2) * v1.toInt := vg_mulL e33 (by omega) (by omega) (by omega)
        intro v35 e36
        have b37 := vg_add e36 (by omega) (by omega)
        refine And.intro (by omega) ?_
        intro v38 e39
        have b40 := vg_remx e39 (by omega)
        intro v41 e42
        have w43 : v1 = v41 := by rw [e42, e21, vg_u1_ne (a := 4) (k := 3) (by decide), g3]
        subst w43
        intro v44 e45
        have b46 := vg_sub e45 (by omega) (by omega)
        show Iv s20 ∧ Kp s0 s20 ∧ (((s0.1 4 6).toInt = 0 → v44 = Int32.ofInt 0) ∧ -15000 ≤ v44.toInt ∧ v44.toInt ≤ 15000 ∧ qk s0 s20 3 ∧ s20.1 3 7 = s0.1 3 7)
        exact ⟨i22, k23, (by first | exact ⟨fun _ => rfl, by omega, by omega, qk_rf, rfl⟩ | exact ⟨fun h => absurd h (by omega), by omega, by omega, (q_ditB e21).1, (q_ditB e21).2⟩)⟩
      · have c6 : ¬ (¬ v1.toInt = 0) := c6
        show Iv s0 ∧ Kp s0 s0 ∧ (((s0.1 4 6).toInt = 0 → (Int32.ofInt 0) = Int32.ofInt 0) ∧ -15000 ≤ (Int32.ofInt 0).toInt ∧ (Int32.ofInt 0).toInt ≤ 15000 ∧ qk s0 s0 3 ∧ s0.1 3 7 = s0.1 3 7)
        exact ⟨i0, Kx.rf, (by first | exact ⟨fun _ => rfl, by omega, by omega, qk_rf, rfl⟩ | exact ⟨fun h => absurd h (by omega), by omega, by omega, (q_ditB ).1, (q_ditB ).2⟩)⟩
  ·
    have z0 : (Int32.ofInt 0).toInt = 0 := by decide
    have z1 : (Int32.ofInt 1).toInt = 1 := by decide
    have z2 : (Int32.ofInt 2).toInt = 2 := by decide
    have z65536 : (Int32.ofInt 65536).toInt = 65536 := by decide
    refine ⟨Nat.le_of_ble_eq_true rfl, [], ?_, fun _ h => absurd h List.not_mem_nil⟩
    ·
      intro v1 e2
      have g3 : s0.1 23 6 = v1 := by rw [e2]
      have b4 : v1.toInt = (s0.1 23 6).toInt := congrArg Int32.toInt e2
      have b5 : (0 : Int) ≤ v1.toInt ∧ v1.toInt ≤ 5000 := by rw [e2]; exact Iv_23_6 i0
      refine And.intro (fun c6 => ?_) (fun c6 => ?_)
      · have c6 : ¬ v1.toInt = 0 := c6
        intro v7 e8
        have g9 : s0.1 22 4 = v7 := by rw [e8]
        intro v10 e11
        intro v12 e13
        intro v14 e15
        intro v16 e17
        intro v18 e19
        intro s20 e21
        have i22 : Iv s20 := Iv.u1 i0 e21 rfl
        have k23 : Kp s0 s20 := Kx.u1 Kx.rf e21 rfl
        intro v24 e25
        have w26 : v18 = v24 := by rw [e25, e21]; exact vg_u1_self.symm
        subst w26
        refine And.intro (by omega) ?_
        intro v27 e28
        intro v29 e30
        have w31 : v1 = v29 := by rw [e30, e21, vg_u1_ne (a := 23) (k := 22) (by decide), g3]
        subst w31
        intro v32 e33
        have b34 : v32.toInt = (2) * v1.toInt := vg_mulL e33 (by omega) (by omega) (by omega)
        intro v35 e36
        have b37 := vg_add e36 (by omega) (by omega)
        refine And.intro (by omega) ?_
        intro v38 e39
        have b40 := vg_remx e39 (by omega)
        intro v41 e42
        have w43 : v1 = v41 := by rw [e42, e21, vg_u1_ne (a := 23) (k := 22) (by decide), g3]
        subst w43
        intro v44 e45
        have b46 := vg_sub e45 (by omega) (by omega)
        show Iv s20 ∧ Kp s0 s20 ∧ (((s0.1 23 6).toInt = 0 → v44 = Int32.ofInt 0) ∧ -15000 ≤ v44.toInt ∧ v44.toInt ≤ 15000 ∧ qk s0 s20 22 ∧ s20.1 22 7 = s0.1 22 7)
        exact ⟨i22, k23, (by first | exact ⟨fun _ => rfl, by omega, by omega, qk_rf, rfl⟩ | exact ⟨fun h => absurd h (by omega), by omega, by omega, (q_ditB e21).1, (q_ditB e21).2⟩)⟩
      · have c6 : ¬ (¬ v1.toInt = 0) := c6
        show Iv s0 ∧ Kp s0 s0 ∧ (((s0.1 23 6).toInt = 0 → (Int32.ofInt 0) = Int32.ofInt 0) ∧ -15000 ≤ (Int32.ofInt 0).toInt ∧ (Int32.ofInt 0).toInt ≤ 15000 ∧ qk s0 s0 22 ∧ s0.1 22 7 = s0.1 22 7)
        exact ⟨i0, Kx.rf, (by first | exact ⟨fun _ => rfl, by omega, by omega, qk_rf, rfl⟩ | exact ⟨fun h => absurd h (by omega), by omega, by omega, (q_ditB ).1, (q_ditB ).2⟩)⟩
def o_X5_hold : List vg_I := [(0, .iload_n 1, 1, 0, 0, 0, 0), (1, .aload_n 0, 1, 0, 0, 0, 0), (2, .getfield 12, 3, 178, 5, 0, 0), (5, .getfield 146, 3, 151, 6, 4, 0), (8, .invokestatic 149, 3, 0, 2, 2, 2), (11, .istore_n 2, 1, 0, 0, 0, 0), (12, .iload_n 2, 1, 0, 0, 0, 0), (13, .iload_n 1, 1, 0, 0, 0, 0), (14, .if_icmp .eq 31, 3, 0, 0, 0, 0), (17, .aload_n 0, 1, 0, 0, 0, 0), (18, .iconst 1, 1, 0, 0, 0, 0), (19, .putfield 80, 3, 191, 5, 7, 1), (22, .aload_n 0, 1, 0, 0, 0, 0), (23, .dup, 1, 0, 0, 0, 0), (24, .getfield 39, 3, 187, 5, 5, 0), (27, .iconst 1, 1, 0, 0, 0, 0), (28, .iadd, 1, 0, 0, 0, 0), (29, .putfield 39, 3, 187, 5, 5, 0), (32, .aload_n 0, 1, 0, 0, 0, 0), (33, .dup, 1, 0, 0, 0, 0), (34, .getfield 58, 3, 200, 5, 12, 0), (37, .iload_n 1, 1, 0, 0, 0, 0), (38, .iload_n 2, 1, 0, 0, 0, 0), (39, .isub, 1, 0, 0, 0, 0), (40, .i2l, 1, 0, 0, 0, 0), (41, .ladd, 1, 0, 0, 0, 0), (42, .putfield 58, 3, 200, 5, 12, 2), (45, .aload_n 0, 1, 0, 0, 0, 0), (46, .aload_n 0, 1, 0, 0, 0, 0), (47, .getfield 45, 3, 192, 5, 8, 0), (50, .iload_n 2, 1, 0, 0, 0, 0), (51, .invokestatic 154, 3, 1, 1, 1, 666), (54, .invokestatic 156, 3, 2, 1, 2, 669), (57, .putfield 45, 3, 192, 5, 8, 0), (60, .iload_n 2, 1, 0, 0, 0, 0), (61, .ireturn, 1, 0, 0, 0, 0)]
set_option maxRecDepth 100000 in
set_option maxHeartbeats 4000000 in
theorem c_X5_hold (l : Launch) (G : vg_G) (hp : vg_Hp G) : vg_Ct l G vg_sh r_X5_hold := by
  refine vg_meth hp vg_sh_ok r_X5_hold k_X5_hold rfl (fun h => by cases h) o_X5_hold [r_X10_putTo, r_J9_abs_0f7a4, r_J9_max_7cf53] false (by decide +kernel) (by decide +kernel) ⟨_, _, rfl, rfl⟩ (List.forall_mem_cons.mpr ⟨⟨c_X10_putTo l G hp, Nat.le_of_ble_eq_true rfl, Nat.le_of_ble_eq_true rfl⟩, List.forall_mem_cons.mpr ⟨⟨c_J9_abs_0f7a4 l G hp, Nat.le_of_ble_eq_true rfl, Nat.le_of_ble_eq_true rfl⟩, List.forall_mem_cons.mpr ⟨⟨c_J9_max_7cf53 l G hp, Nat.le_of_ble_eq_true rfl, Nat.le_of_ble_eq_true rfl⟩, fun _ h => absurd h List.not_mem_nil⟩⟩⟩) (fun h => by cases h) 600 ?_
  intro as s0 hpre
  obtain ⟨r, a1, rfl, hr, i0⟩ := hpre
  simp only [List.mem_cons, List.not_mem_nil, or_false] at hr
  rcases hr with rfl | rfl
  ·
    have z1 : (Int32.ofInt 1).toInt = 1 := by decide
    refine ⟨Nat.le_of_ble_eq_true rfl, [], ?_, fun _ h => absurd h List.not_mem_nil⟩
    ·
      intro v1 e2
      have g3 : s0.1 4 4 = v1 := by rw [e2]
      have b4 : (1 : Int) ≤ v1.toInt ∧ v1.toInt ≤ 60000 := by rw [e2]; exact Iv_4_4 i0
      refine And.intro (Nat.le_of_ble_eq_true rfl) (And.intro ⟨a1, v1, rfl, trivial⟩ ?_)
      intro v5 s7 h6
      have h6 : s7 = s0 ∧ (v5 = q_held v1 a1 ∧ (0 ≤ v1.toInt → -v1.toInt ≤ v5.toInt ∧ v5.toInt ≤ v1.toInt)) := h6
      have q10 := h6.1.symm
      subst q10
      have q11 := h6.2
      have y2 : v5 = q_held (s0.1 4 4) a1 := by rw [← e2]; exact q11.1
      have y3 := q11.2 (by omega)
      refine And.intro (fun c12 => ?_) (fun c12 => ?_)
      · have c12 : v5.toInt = a1.toInt := c12
        intro v13 e14
        have g15 : s0.1 3 8 = v13 := by rw [e14]
        refine And.intro (Nat.le_of_ble_eq_true rfl) (And.intro ⟨v5, rfl, trivial⟩ ?_)
        intro v16 s18 h17
        have h17 : s18 = s0 ∧ (v16 = q_abs v5) := h17
        have q21 := h17.1.symm
        subst q21
        have q22 := h17.2
        refine And.intro (Nat.le_of_ble_eq_true rfl) (And.intro ⟨v13, v16, rfl, trivial⟩ ?_)
        intro v23 s25 h24
        have h24 : s25 = s0 ∧ (v13.toInt ≤ v23.toInt ∧ v16.toInt ≤ v23.toInt ∧ (v23.toInt = v13.toInt ∨ v23.toInt = v16.toInt)) := h24
        have q28 := h24.1.symm
        subst q28
        have q29 := h24.2
        intro s30 e31
        have i32 : Iv s30 := Iv.u1 i0 e31 rfl
        have k33 : Kp s0 s30 := Kx.u1 Kx.rf e31 rfl
        show Iv s30 ∧ Kp s0 s30 ∧ (v5 = q_held (s0.1 4 4) a1 ∧ -60000 ≤ v5.toInt ∧ v5.toInt ≤ 60000 ∧ qk s0 s30 3 ∧ s30.1 3 7 = cond (q_ht a1 v5) (Int32.ofInt 1) (s0.1 3 7))
        exact ⟨i32, k33, (by first | exact ⟨y2, by omega, by omega, (q_holdA e31).1, by rw [q_ht1 (by omega)]; exact (q_holdA e31).2⟩ | exact ⟨y2, by omega, by omega, (q_holdB e31).1, by rw [q_ht0 (by omega)]; exact (q_holdB e31).2⟩)⟩
      · have c12 : ¬ (v5.toInt = a1.toInt) := c12
        refine And.intro (by first | exact Or.inl rfl | exact Or.inr rfl | exact vg_01 (by omega) (by omega)) ?_
        intro s34 e35
        have i36 : Iv s34 := Iv.u1 i0 e35 rfl
        have k37 : Kp s0 s34 := Kx.u1 Kx.rf e35 rfl
        intro v38 e39
        have g40 : s0.1 3 5 = v38 := by rw [e39, e35, vg_u1_at (a := 3) (b := 5) (k := 3) (i := 7) (by decide)]
        intro v41 e42
        intro s43 e44
        have i45 : Iv s43 := Iv.u1 i36 e44 rfl
        have k46 : Kp s0 s43 := Kx.u1 k37 e44 rfl
        intro v47 e48
        intro v49 e50
        intro v51 e52
        intro v53 e54
        intro s55 e56
        have i57 : Iv s55 := Iv.u2 i45 e56
        have k58 : Kp s0 s55 := Kx.u2 k46 e56 (vg_kq_no ⟨rfl, rfl, rfl⟩ rfl).1
        intro v59 e60
        have g61 : s0.1 3 8 = v59 := by rw [e60, e56, vg_u2_1, e44, vg_u1_at (a := 3) (b := 8) (k := 3) (i := 5) (by decide), e35, vg_u1_at (a := 3) (b := 8) (k := 3) (i := 7) (by decide)]
        refine And.intro (Nat.le_of_ble_eq_true rfl) (And.intro ⟨v5, rfl, trivial⟩ ?_)
        intro v62 s64 h63
        have h63 : s64 = s55 ∧ (v62 = q_abs v5) := h63
        have q67 := h63.1.symm
        subst q67
        have q68 := h63.2
        refine And.intro (Nat.le_of_ble_eq_true rfl) (And.intro ⟨v59, v62, rfl, trivial⟩ ?_)
        intro v69 s71 h70
        have h70 : s71 = s55 ∧ (v59.toInt ≤ v69.toInt ∧ v62.toInt ≤ v69.toInt ∧ (v69.toInt = v59.toInt ∨ v69.toInt = v62.toInt)) := h70
        have q74 := h70.1.symm
        subst q74
        have q75 := h70.2
        intro s76 e77
        have i78 : Iv s76 := Iv.u1 i57 e77 rfl
        have k79 : Kp s0 s76 := Kx.u1 k58 e77 rfl
        show Iv s76 ∧ Kp s0 s76 ∧ (v5 = q_held (s0.1 4 4) a1 ∧ -60000 ≤ v5.toInt ∧ v5.toInt ≤ 60000 ∧ qk s0 s76 3 ∧ s76.1 3 7 = cond (q_ht a1 v5) (Int32.ofInt 1) (s0.1 3 7))
        exact ⟨i78, k79, (by first | exact ⟨y2, by omega, by omega, (q_holdA e35 e44 e56 e77).1, by rw [q_ht1 (by omega)]; exact (q_holdA e35 e44 e56 e77).2⟩ | exact ⟨y2, by omega, by omega, (q_holdB e35 e44 e56 e77).1, by rw [q_ht0 (by omega)]; exact (q_holdB e35 e44 e56 e77).2⟩)⟩
  ·
    have z1 : (Int32.ofInt 1).toInt = 1 := by decide
    refine ⟨Nat.le_of_ble_eq_true rfl, [], ?_, fun _ h => absurd h List.not_mem_nil⟩
    ·
      intro v1 e2
      have g3 : s0.1 23 4 = v1 := by rw [e2]
      have b4 : (1 : Int) ≤ v1.toInt ∧ v1.toInt ≤ 60000 := by rw [e2]; exact Iv_23_4 i0
      refine And.intro (Nat.le_of_ble_eq_true rfl) (And.intro ⟨a1, v1, rfl, trivial⟩ ?_)
      intro v5 s7 h6
      have h6 : s7 = s0 ∧ (v5 = q_held v1 a1 ∧ (0 ≤ v1.toInt → -v1.toInt ≤ v5.toInt ∧ v5.toInt ≤ v1.toInt)) := h6
      have q10 := h6.1.symm
      subst q10
      have q11 := h6.2
      have y2 : v5 = q_held (s0.1 23 4) a1 := by rw [← e2]; exact q11.1
      have y3 := q11.2 (by omega)
      refine And.intro (fun c12 => ?_) (fun c12 => ?_)
      · have c12 : v5.toInt = a1.toInt := c12
        intro v13 e14
        have g15 : s0.1 22 8 = v13 := by rw [e14]
        refine And.intro (Nat.le_of_ble_eq_true rfl) (And.intro ⟨v5, rfl, trivial⟩ ?_)
        intro v16 s18 h17
        have h17 : s18 = s0 ∧ (v16 = q_abs v5) := h17
        have q21 := h17.1.symm
        subst q21
        have q22 := h17.2
        refine And.intro (Nat.le_of_ble_eq_true rfl) (And.intro ⟨v13, v16, rfl, trivial⟩ ?_)
        intro v23 s25 h24
        have h24 : s25 = s0 ∧ (v13.toInt ≤ v23.toInt ∧ v16.toInt ≤ v23.toInt ∧ (v23.toInt = v13.toInt ∨ v23.toInt = v16.toInt)) := h24
        have q28 := h24.1.symm
        subst q28
        have q29 := h24.2
        intro s30 e31
        have i32 : Iv s30 := Iv.u1 i0 e31 rfl
        have k33 : Kp s0 s30 := Kx.u1 Kx.rf e31 rfl
        show Iv s30 ∧ Kp s0 s30 ∧ (v5 = q_held (s0.1 23 4) a1 ∧ -60000 ≤ v5.toInt ∧ v5.toInt ≤ 60000 ∧ qk s0 s30 22 ∧ s30.1 22 7 = cond (q_ht a1 v5) (Int32.ofInt 1) (s0.1 22 7))
        exact ⟨i32, k33, (by first | exact ⟨y2, by omega, by omega, (q_holdA e31).1, by rw [q_ht1 (by omega)]; exact (q_holdA e31).2⟩ | exact ⟨y2, by omega, by omega, (q_holdB e31).1, by rw [q_ht0 (by omega)]; exact (q_holdB e31).2⟩)⟩
      · have c12 : ¬ (v5.toInt = a1.toInt) := c12
        refine And.intro (by first | exact Or.inl rfl | exact Or.inr rfl | exact vg_01 (by omega) (by omega)) ?_
        intro s34 e35
        have i36 : Iv s34 := Iv.u1 i0 e35 rfl
        have k37 : Kp s0 s34 := Kx.u1 Kx.rf e35 rfl
        intro v38 e39
        have g40 : s0.1 22 5 = v38 := by rw [e39, e35, vg_u1_at (a := 22) (b := 5) (k := 22) (i := 7) (by decide)]
        intro v41 e42
        intro s43 e44
        have i45 : Iv s43 := Iv.u1 i36 e44 rfl
        have k46 : Kp s0 s43 := Kx.u1 k37 e44 rfl
        intro v47 e48
        intro v49 e50
        intro v51 e52
        intro v53 e54
        intro s55 e56
        have i57 : Iv s55 := Iv.u2 i45 e56
        have k58 : Kp s0 s55 := Kx.u2 k46 e56 (vg_kq_no ⟨rfl, rfl, rfl⟩ rfl).1
        intro v59 e60
        have g61 : s0.1 22 8 = v59 := by rw [e60, e56, vg_u2_1, e44, vg_u1_at (a := 22) (b := 8) (k := 22) (i := 5) (by decide), e35, vg_u1_at (a := 22) (b := 8) (k := 22) (i := 7) (by decide)]
        refine And.intro (Nat.le_of_ble_eq_true rfl) (And.intro ⟨v5, rfl, trivial⟩ ?_)
        intro v62 s64 h63
        have h63 : s64 = s55 ∧ (v62 = q_abs v5) := h63
        have q67 := h63.1.symm
        subst q67
        have q68 := h63.2
        refine And.intro (Nat.le_of_ble_eq_true rfl) (And.intro ⟨v59, v62, rfl, trivial⟩ ?_)
        intro v69 s71 h70
        have h70 : s71 = s55 ∧ (v59.toInt ≤ v69.toInt ∧ v62.toInt ≤ v69.toInt ∧ (v69.toInt = v59.toInt ∨ v69.toInt = v62.toInt)) := h70
        have q74 := h70.1.symm
        subst q74
        have q75 := h70.2
        intro s76 e77
        have i78 : Iv s76 := Iv.u1 i57 e77 rfl
        have k79 : Kp s0 s76 := Kx.u1 k58 e77 rfl
        show Iv s76 ∧ Kp s0 s76 ∧ (v5 = q_held (s0.1 23 4) a1 ∧ -60000 ≤ v5.toInt ∧ v5.toInt ≤ 60000 ∧ qk s0 s76 22 ∧ s76.1 22 7 = cond (q_ht a1 v5) (Int32.ofInt 1) (s0.1 22 7))
        exact ⟨i78, k79, (by first | exact ⟨y2, by omega, by omega, (q_holdA e35 e44 e56 e77).1, by rw [q_ht1 (by omega)]; exact (q_holdA e35 e44 e56 e77).2⟩ | exact ⟨y2, by omega, by omega, (q_holdB e35 e44 e56 e77).1, by rw [q_ht0 (by omega)]; exact (q_holdB e35 e44 e56 e77).2⟩)⟩
def o_X5_outOfSums : List vg_I := [(0, .iload_n 1, 1, 0, 0, 0, 0), (1, .istore_n 3, 1, 0, 0, 0, 0), (2, .iconst 0, 1, 0, 0, 0, 0), (3, .istore 4, 2, 0, 0, 0, 0), (5, .iload 4, 2, 0, 0, 0, 0), (7, .aload_n 0, 1, 0, 0, 0, 0), (8, .getfield 12, 3, 178, 5, 0, 0), (11, .getfield 134, 3, 144, 6, 1, 0), (14, .if_icmp .ge 42, 3, 0, 0, 0, 0), (17, .aload_n 0, 1, 0, 0, 0, 0), (18, .getfield 16, 3, 180, 5, 1, 0), (21, .iload 4, 2, 0, 0, 0, 0), (23, .aload_n 0, 1, 0, 0, 0, 0), (24, .aload_n 0, 1, 0, 0, 0, 0), (25, .getfield 16, 3, 180, 5, 1, 0), (28, .iload 4, 2, 0, 0, 0, 0), (30, .iaload, 1, 0, 0, 0, 0), (31, .iload_n 3, 1, 0, 0, 0, 0), (32, .iadd, 1, 0, 0, 0, 0), (33, .aload_n 0, 1, 0, 0, 0, 0), (34, .getfield 29, 3, 183, 5, 3, 0), (37, .isub, 1, 0, 0, 0, 0), (38, .invokevirtual 131, 3, 0, 5, 1, 661), (41, .iastore, 1, 0, 0, 0, 0), (42, .aload_n 0, 1, 0, 0, 0, 0), (43, .getfield 16, 3, 180, 5, 1, 0), (46, .iload 4, 2, 0, 0, 0, 0), (48, .iaload, 1, 0, 0, 0, 0), (49, .istore_n 3, 1, 0, 0, 0, 0), (50, .iinc 4 1, 3, 0, 0, 0, 0), (53, .goto (-48), 3, 0, 0, 0, 0), (56, .aload_n 0, 1, 0, 0, 0, 0), (57, .getfield 12, 3, 178, 5, 0, 0), (60, .iload_n 3, 1, 0, 0, 0, 0), (61, .iload_n 2, 1, 0, 0, 0, 0), (62, .iadd, 1, 0, 0, 0, 0), (63, .invokevirtual 128, 3, 1, 6, 1, 672), (66, .ireturn, 1, 0, 0, 0, 0)]
set_option maxRecDepth 100000 in
set_option maxHeartbeats 4000000 in
theorem c_X5_outOfSums (l : Launch) (G : vg_G) (hp : vg_Hp G) : vg_Ct l G vg_sh r_X5_outOfSums := by
  refine vg_meth hp vg_sh_ok r_X5_outOfSums k_X5_outOfSums rfl (fun h => by cases h) o_X5_outOfSums [r_X5_hold, r_X6_nearest] false (by decide +kernel) (by decide +kernel) ⟨_, _, rfl, rfl⟩ (List.forall_mem_cons.mpr ⟨⟨c_X5_hold l G hp, Nat.le_of_ble_eq_true rfl, Nat.le_of_ble_eq_true rfl⟩, List.forall_mem_cons.mpr ⟨⟨c_X6_nearest l G hp, Nat.le_of_ble_eq_true rfl, Nat.le_of_ble_eq_true rfl⟩, fun _ h => absurd h List.not_mem_nil⟩⟩) (fun h => by cases h) 600 ?_
  intro as s0 hpre
  obtain ⟨r, a1, a2, rfl, hr, i0, p0⟩ := hpre
  simp only [List.mem_cons, List.not_mem_nil, or_false] at hr
  rcases hr with rfl | rfl
  ·
    have z0 : (Int32.ofInt 0).toInt = 0 := by decide
    have z1 : (Int32.ofInt 1).toInt = 1 := by decide
    refine ⟨Nat.le_of_ble_eq_true rfl, [(5, [true, false, true, true, true], (fun L t => ∃ (x3 : Int32) (x4 : Int32), L = [some (.ref 3), none, some (.int a2), some (.int x3), some (.int x4)] ∧ (-60000 : Int) ≤ x3.toInt ∧ x3.toInt ≤ (60000 : Int) ∧ (0 : Int) ≤ x4.toInt ∧ x4.toInt ≤ (4 : Int) ∧ (q_osI s0 t 3 a1 x3 x4) ∧ Iv t ∧ Kp s0 t), (fun L _ => (0 + (4 - (vg_li L 4).toInt) * 1000000000000).toNat))], ?_, List.forall_mem_cons.mpr ⟨?_, fun _ h => absurd h List.not_mem_nil⟩⟩
    ·
      exact ⟨rfl, ⟨a1, (Int32.ofInt 0), rfl, (by omega), (by omega), (by omega), (by omega), (by first | exact q_os0 (show 1 ≤ (s0.1 4 1).toInt by have h9 := Iv_4_1 i0; omega) | exact q_os1 None y0 y1 y2 y3 y4.1 y4.2.2.2.1 y4.2.2.2.2 rfl None (by omega) (show _ < (s0.1 4 1).toInt by omega) (by omega)), i0, Kx.rf⟩, trivial⟩
    ·
      intro L s8 hL
      obtain ⟨w1, w4, rfl, b2, b3, b5, b6, x7, i9, k10⟩ := hL
      intro v11 e12
      have g13 : s8.1 4 1 = v11 := by rw [e12]
      have b14 : v11.toInt = (s8.1 4 1).toInt := congrArg Int32.toInt e12
      have b15 : (1 : Int) ≤ v11.toInt ∧ v11.toInt ≤ 4 := by rw [e12]; exact Iv_4_1 i9
      have y8 : (s8.1 4 1).toInt = (s0.1 4 1).toInt := congrArg Int32.toInt (congrFun x7.2.2.2.1 1)
      refine And.intro (fun c16 => ?_) (fun c16 => ?_)
      · have c16 : v11.toInt ≤ w4.toInt := c16
        intro v17 e18
        have b19 := vg_add e18 (by omega) (by omega)
        have y9 := e18
        refine And.intro (Nat.le_of_ble_eq_true rfl) (And.intro ⟨4, v17, rfl, by decide, i9⟩ ?_)
        intro v20 s22 h21
        have h21 : s22 = s8 ∧ (0 ≤ v20.toInt ∧ v20.toInt ≤ 16 ∧ (-10000000 ≤ v17.toInt ∧ v17.toInt ≤ 10000000 → v20 = q_near (s8.1 4 2) (s8.1 4 3) v17)) := h21
        have q25 := h21.1.symm
        subst q25
        have q26 := h21.2
        show Iv s8 ∧ Kp s0 s8 ∧ (q_oy s0 s8 3 v20 (q_yS (q_plC s0 4) a1 a2 (s0.1 5) (s0.1 6) (s0.1 3 3)))
        exact ⟨i9, k10, (q_os2 x7 y9 (q26.2.2 (by omega)) (show (s0.1 4 1).toInt ≤ _ by omega))⟩
      · have c16 : ¬ (v11.toInt ≤ w4.toInt) := c16
        refine And.intro ⟨by omega, by omega⟩ ?_
        intro v27 e28
        have b29 : (-60000 : Int) ≤ v27.toInt ∧ v27.toInt ≤ 60000 := by rw [e28]; exact Iv_r5 i9 (by omega) (by omega)
        have y0 := e28
        have y0b := e28
        intro v30 e31
        have b32 := vg_add e31 (by omega) (by omega)
        have y1 := e31
        intro v33 e34
        have g35 : s8.1 3 3 = v33 := by rw [e34]
        have y2 := e34
        intro v36 e37
        have y3 := e37
        refine And.intro (Nat.le_of_ble_eq_true rfl) (And.intro ⟨3, v36, rfl, by decide, i9⟩ ?_)
        intro v38 s40 h39
        have h39 : Iv s40 ∧ Kp s8 s40 ∧ (v38 = q_held (s8.1 4 4) v36 ∧ -60000 ≤ v38.toInt ∧ v38.toInt ≤ 60000 ∧ qk s8 s40 3 ∧ s40.1 3 7 = cond (q_ht v36 v38) (Int32.ofInt 1) (s8.1 3 7)) := h39
        have i41 := h39.1
        have k42 : Kp s0 s40 := Kx.tr k10 (h39.2.1)
        have q43 := h39.2.2
        have y4 := q43
        refine And.intro ⟨by omega, by omega⟩ ?_
        intro s44 e45
        have i46 : Iv s44 := Iv.r1 (lo := -60000) (hi := 60000) i41 e45 rfl (by omega) (by omega)
        have k47 : Kp s0 s44 := Kx.u1 k42 e45 rfl
        refine And.intro ⟨by omega, by omega⟩ ?_
        intro v48 e49
        have b50 : (-60000 : Int) ≤ v48.toInt ∧ v48.toInt ≤ 60000 := by rw [e49]; exact Iv_r5 i46 (by omega) (by omega)
        intro v51 e52
        have b53 := vg_add e52 (by omega) (by omega)
        exact ⟨rfl, ⟨v48, v51, rfl, (by omega), (by omega), (by omega), (by omega), (by first | exact q_os0 (show 1 ≤ (s0.1 4 1).toInt by have h9 := Iv_4_1 i0; omega) | exact q_os1 x7 y0 y1 y2 y3 y4.1 y4.2.2.2.1 y4.2.2.2.2 e45 e49 (by omega) (show _ < (s0.1 4 1).toInt by omega) (by omega)), i46, k47⟩, (by show (0 + (4 - v51.toInt) * 1000000000000).toNat < (0 + (4 - w4.toInt) * 1000000000000).toNat; omega)⟩
  ·
    have z0 : (Int32.ofInt 0).toInt = 0 := by decide
    have z1 : (Int32.ofInt 1).toInt = 1 := by decide
    refine ⟨Nat.le_of_ble_eq_true rfl, [(5, [true, false, true, true, true], (fun L t => ∃ (x3 : Int32) (x4 : Int32), L = [some (.ref 22), none, some (.int a2), some (.int x3), some (.int x4)] ∧ (-60000 : Int) ≤ x3.toInt ∧ x3.toInt ≤ (60000 : Int) ∧ (0 : Int) ≤ x4.toInt ∧ x4.toInt ≤ (4 : Int) ∧ (q_osI s0 t 22 a1 x3 x4) ∧ Iv t ∧ Kp s0 t), (fun L _ => (0 + (4 - (vg_li L 4).toInt) * 1000000000000).toNat))], ?_, List.forall_mem_cons.mpr ⟨?_, fun _ h => absurd h List.not_mem_nil⟩⟩
    ·
      exact ⟨rfl, ⟨a1, (Int32.ofInt 0), rfl, (by omega), (by omega), (by omega), (by omega), (by first | exact q_os0 (show 1 ≤ (s0.1 23 1).toInt by have h9 := Iv_23_1 i0; omega) | exact q_os1 None y0 y1 y2 y3 y4.1 y4.2.2.2.1 y4.2.2.2.2 rfl None (by omega) (show _ < (s0.1 23 1).toInt by omega) (by omega)), i0, Kx.rf⟩, trivial⟩
    ·
      intro L s8 hL
      obtain ⟨w1, w4, rfl, b2, b3, b5, b6, x7, i9, k10⟩ := hL
      intro v11 e12
      have g13 : s8.1 23 1 = v11 := by rw [e12]
      have b14 : v11.toInt = (s8.1 23 1).toInt := congrArg Int32.toInt e12
      have b15 : (1 : Int) ≤ v11.toInt ∧ v11.toInt ≤ 4 := by rw [e12]; exact Iv_23_1 i9
      have y8 : (s8.1 23 1).toInt = (s0.1 23 1).toInt := congrArg Int32.toInt (congrFun x7.2.2.2.1 1)
      refine And.intro (fun c16 => ?_) (fun c16 => ?_)
      · have c16 : v11.toInt ≤ w4.toInt := c16
        intro v17 e18
        have b19 := vg_add e18 (by omega) (by omega)
        have y9 := e18
        refine And.intro (Nat.le_of_ble_eq_true rfl) (And.intro ⟨23, v17, rfl, by decide, i9⟩ ?_)
        intro v20 s22 h21
        have h21 : s22 = s8 ∧ (0 ≤ v20.toInt ∧ v20.toInt ≤ 16 ∧ (-10000000 ≤ v17.toInt ∧ v17.toInt ≤ 10000000 → v20 = q_near (s8.1 23 2) (s8.1 23 3) v17)) := h21
        have q25 := h21.1.symm
        subst q25
        have q26 := h21.2
        show Iv s8 ∧ Kp s0 s8 ∧ (q_oy s0 s8 22 v20 (q_yS (q_plC s0 23) a1 a2 (s0.1 24) (s0.1 25) (s0.1 22 3)))
        exact ⟨i9, k10, (q_os2 x7 y9 (q26.2.2 (by omega)) (show (s0.1 23 1).toInt ≤ _ by omega))⟩
      · have c16 : ¬ (v11.toInt ≤ w4.toInt) := c16
        refine And.intro ⟨by omega, by omega⟩ ?_
        intro v27 e28
        have b29 : (-60000 : Int) ≤ v27.toInt ∧ v27.toInt ≤ 60000 := by rw [e28]; exact Iv_r24 i9 (by omega) (by omega)
        have y0 := e28
        have y0b := e28
        intro v30 e31
        have b32 := vg_add e31 (by omega) (by omega)
        have y1 := e31
        intro v33 e34
        have g35 : s8.1 22 3 = v33 := by rw [e34]
        have y2 := e34
        intro v36 e37
        have y3 := e37
        refine And.intro (Nat.le_of_ble_eq_true rfl) (And.intro ⟨22, v36, rfl, by decide, i9⟩ ?_)
        intro v38 s40 h39
        have h39 : Iv s40 ∧ Kp s8 s40 ∧ (v38 = q_held (s8.1 23 4) v36 ∧ -60000 ≤ v38.toInt ∧ v38.toInt ≤ 60000 ∧ qk s8 s40 22 ∧ s40.1 22 7 = cond (q_ht v36 v38) (Int32.ofInt 1) (s8.1 22 7)) := h39
        have i41 := h39.1
        have k42 : Kp s0 s40 := Kx.tr k10 (h39.2.1)
        have q43 := h39.2.2
        have y4 := q43
        refine And.intro ⟨by omega, by omega⟩ ?_
        intro s44 e45
        have i46 : Iv s44 := Iv.r1 (lo := -60000) (hi := 60000) i41 e45 rfl (by omega) (by omega)
        have k47 : Kp s0 s44 := Kx.u1 k42 e45 rfl
        refine And.intro ⟨by omega, by omega⟩ ?_
        intro v48 e49
        have b50 : (-60000 : Int) ≤ v48.toInt ∧ v48.toInt ≤ 60000 := by rw [e49]; exact Iv_r24 i46 (by omega) (by omega)
        intro v51 e52
        have b53 := vg_add e52 (by omega) (by omega)
        exact ⟨rfl, ⟨v48, v51, rfl, (by omega), (by omega), (by omega), (by omega), (by first | exact q_os0 (show 1 ≤ (s0.1 23 1).toInt by have h9 := Iv_23_1 i0; omega) | exact q_os1 x7 y0 y1 y2 y3 y4.1 y4.2.2.2.1 y4.2.2.2.2 e45 e49 (by omega) (show _ < (s0.1 23 1).toInt by omega) (by omega)), i46, k47⟩, (by show (0 + (4 - v51.toInt) * 1000000000000).toNat < (0 + (4 - w4.toInt) * 1000000000000).toNat; omega)⟩
def o_X5_differenceOf : List vg_I := [(0, .iload_n 1, 1, 0, 0, 0, 0), (1, .tableswitch 144 1 3 #[27, 45, 84], 27, 0, 0, 0, 0), (28, .iload_n 2, 1, 0, 0, 0, 0), (29, .aload_n 0, 1, 0, 0, 0, 0), (30, .getfield 20, 3, 182, 5, 2, 0), (33, .iconst 0, 1, 0, 0, 0, 0), (34, .iaload, 1, 0, 0, 0, 0), (35, .isub, 1, 0, 0, 0, 0), (36, .istore_n 3, 1, 0, 0, 0, 0), (37, .aload_n 0, 1, 0, 0, 0, 0), (38, .getfield 20, 3, 182, 5, 2, 0), (41, .iconst 0, 1, 0, 0, 0, 0), (42, .iload_n 2, 1, 0, 0, 0, 0), (43, .iastore, 1, 0, 0, 0, 0), (44, .iload_n 3, 1, 0, 0, 0, 0), (45, .ireturn, 1, 0, 0, 0, 0), (46, .iload_n 2, 1, 0, 0, 0, 0), (47, .iconst 2, 1, 0, 0, 0, 0), (48, .aload_n 0, 1, 0, 0, 0, 0), (49, .getfield 20, 3, 182, 5, 2, 0), (52, .iconst 1, 1, 0, 0, 0, 0), (53, .iaload, 1, 0, 0, 0, 0), (54, .imul, 1, 0, 0, 0, 0), (55, .isub, 1, 0, 0, 0, 0), (56, .aload_n 0, 1, 0, 0, 0, 0), (57, .getfield 20, 3, 182, 5, 2, 0), (60, .iconst 2, 1, 0, 0, 0, 0), (61, .iaload, 1, 0, 0, 0, 0), (62, .iadd, 1, 0, 0, 0, 0), (63, .istore_n 3, 1, 0, 0, 0, 0), (64, .aload_n 0, 1, 0, 0, 0, 0), (65, .getfield 20, 3, 182, 5, 2, 0), (68, .iconst 2, 1, 0, 0, 0, 0), (69, .aload_n 0, 1, 0, 0, 0, 0), (70, .getfield 20, 3, 182, 5, 2, 0), (73, .iconst 1, 1, 0, 0, 0, 0), (74, .iaload, 1, 0, 0, 0, 0), (75, .iastore, 1, 0, 0, 0, 0), (76, .aload_n 0, 1, 0, 0, 0, 0), (77, .getfield 20, 3, 182, 5, 2, 0), (80, .iconst 1, 1, 0, 0, 0, 0), (81, .iload_n 2, 1, 0, 0, 0, 0), (82, .iastore, 1, 0, 0, 0, 0), (83, .iload_n 3, 1, 0, 0, 0, 0), (84, .ireturn, 1, 0, 0, 0, 0), (85, .iload_n 2, 1, 0, 0, 0, 0), (86, .iconst 3, 1, 0, 0, 0, 0), (87, .aload_n 0, 1, 0, 0, 0, 0), (88, .getfield 20, 3, 182, 5, 2, 0), (91, .iconst 3, 1, 0, 0, 0, 0), (92, .iaload, 1, 0, 0, 0, 0), (93, .imul, 1, 0, 0, 0, 0), (94, .isub, 1, 0, 0, 0, 0), (95, .iconst 3, 1, 0, 0, 0, 0), (96, .aload_n 0, 1, 0, 0, 0, 0), (97, .getfield 20, 3, 182, 5, 2, 0), (100, .iconst 4, 1, 0, 0, 0, 0), (101, .iaload, 1, 0, 0, 0, 0), (102, .imul, 1, 0, 0, 0, 0), (103, .iadd, 1, 0, 0, 0, 0), (104, .aload_n 0, 1, 0, 0, 0, 0), (105, .getfield 20, 3, 182, 5, 2, 0), (108, .iconst 5, 1, 0, 0, 0, 0), (109, .iaload, 1, 0, 0, 0, 0), (110, .isub, 1, 0, 0, 0, 0), (111, .istore_n 3, 1, 0, 0, 0, 0), (112, .aload_n 0, 1, 0, 0, 0, 0), (113, .getfield 20, 3, 182, 5, 2, 0), (116, .iconst 5, 1, 0, 0, 0, 0), (117, .aload_n 0, 1, 0, 0, 0, 0), (118, .getfield 20, 3, 182, 5, 2, 0), (121, .iconst 4, 1, 0, 0, 0, 0), (122, .iaload, 1, 0, 0, 0, 0), (123, .iastore, 1, 0, 0, 0, 0), (124, .aload_n 0, 1, 0, 0, 0, 0), (125, .getfield 20, 3, 182, 5, 2, 0), (128, .iconst 4, 1, 0, 0, 0, 0), (129, .aload_n 0, 1, 0, 0, 0, 0), (130, .getfield 20, 3, 182, 5, 2, 0), (133, .iconst 3, 1, 0, 0, 0, 0), (134, .iaload, 1, 0, 0, 0, 0), (135, .iastore, 1, 0, 0, 0, 0), (136, .aload_n 0, 1, 0, 0, 0, 0), (137, .getfield 20, 3, 182, 5, 2, 0), (140, .iconst 3, 1, 0, 0, 0, 0), (141, .iload_n 2, 1, 0, 0, 0, 0), (142, .iastore, 1, 0, 0, 0, 0), (143, .iload_n 3, 1, 0, 0, 0, 0), (144, .ireturn, 1, 0, 0, 0, 0), (145, .iload_n 2, 1, 0, 0, 0, 0), (146, .ireturn, 1, 0, 0, 0, 0)]
set_option maxRecDepth 100000 in
set_option maxHeartbeats 4000000 in
theorem c_X5_differenceOf (l : Launch) (G : vg_G) (hp : vg_Hp G) : vg_Ct l G vg_sh r_X5_differenceOf := by
  refine vg_meth hp vg_sh_ok r_X5_differenceOf k_X5_differenceOf rfl (fun h => by cases h) o_X5_differenceOf [] false (by decide +kernel) (by decide +kernel) ⟨_, _, rfl, rfl⟩ (fun _ h => absurd h List.not_mem_nil) (fun h => by cases h) 600 ?_
  intro as s0 hpre
  obtain ⟨r, a1, a2, rfl, hr, i0⟩ := hpre
  simp only [List.mem_cons, List.not_mem_nil, or_false] at hr
  rcases hr with rfl | rfl
  ·
    have z0 : (Int32.ofInt 0).toInt = 0 := by decide
    have z1 : (Int32.ofInt 1).toInt = 1 := by decide
    have z2 : (Int32.ofInt 2).toInt = 2 := by decide
    have z3 : (Int32.ofInt 3).toInt = 3 := by decide
    have z4 : (Int32.ofInt 4).toInt = 4 := by decide
    have z5 : (Int32.ofInt 5).toInt = 5 := by decide
    refine ⟨Nat.le_of_ble_eq_true rfl, [], ?_, fun _ h => absurd h List.not_mem_nil⟩
    ·
      refine And.intro (fun c1 => ?_) ?_
      · have c1 : a1.toInt < (1) ∨ (3) < a1.toInt := c1
        show Iv s0 ∧ Kp s0 s0 ∧ (q_dd s0 s0 3 a1 a2 a2)
        exact ⟨i0, Kx.rf, (by first | exact q_dd0 (by omega) | exact q_dd1 (by omega) y0 y1  | exact q_dd2 (by omega) y0 y1 y2 y3 y4  | exact q_dd3 (by omega) y0 y1 y2 y3 y4 y5 y6 y7 y8 )⟩
      refine And.intro (fun c2 => ?_) ?_
      · have c2 : a1.toInt = (1) := c2
        refine And.intro ⟨by omega, by omega⟩ ?_
        intro v3 e4
        have y0 := e4
        intro v5 e6
        have y1 := e6
        refine And.intro ⟨by omega, by omega⟩ ?_
        intro s7 e8
        have i9 : Iv s7 := Iv.a1 i0 e8 rfl
        have k10 : Kp s0 s7 := Kx.u1 Kx.rf e8 rfl
        show Iv s7 ∧ Kp s0 s7 ∧ (q_dd s0 s7 3 a1 a2 v5)
        exact ⟨i9, k10, (by first | exact q_dd0 (by omega) | exact q_dd1 (by omega) y0 y1 e8 | exact q_dd2 (by omega) y0 y1 y2 y3 y4 e8 | exact q_dd3 (by omega) y0 y1 y2 y3 y4 y5 y6 y7 y8 e8)⟩
      refine And.intro (fun c11 => ?_) ?_
      · have c11 : a1.toInt = (2) := c11
        refine And.intro ⟨by omega, by omega⟩ ?_
        intro v12 e13
        have y0 := e13
        intro v14 e15
        have y1 := e15
        intro v16 e17
        have y2 := e17
        refine And.intro ⟨by omega, by omega⟩ ?_
        intro v18 e19
        have y3 := e19
        intro v20 e21
        have y4 := e21
        refine And.intro ⟨by omega, by omega⟩ ?_
        intro v22 e23
        have w24 : v12 = v22 := by rw [e23, e13]
        subst w24
        refine And.intro ⟨by omega, by omega⟩ ?_
        intro s25 e26
        have i27 : Iv s25 := Iv.a1 i0 e26 rfl
        have k28 : Kp s0 s25 := Kx.u1 Kx.rf e26 rfl
        refine And.intro ⟨by omega, by omega⟩ ?_
        intro s29 e30
        have i31 : Iv s29 := Iv.a1 i27 e30 rfl
        have k32 : Kp s0 s29 := Kx.u1 k28 e30 rfl
        show Iv s29 ∧ Kp s0 s29 ∧ (q_dd s0 s29 3 a1 a2 v20)
        exact ⟨i31, k32, (by first | exact q_dd0 (by omega) | exact q_dd1 (by omega) y0 y1 e26 e30 | exact q_dd2 (by omega) y0 y1 y2 y3 y4 e26 e30 | exact q_dd3 (by omega) y0 y1 y2 y3 y4 y5 y6 y7 y8 e26 e30)⟩
      refine And.intro (fun c33 => ?_) ?_
      · have c33 : a1.toInt = (3) := c33
        refine And.intro ⟨by omega, by omega⟩ ?_
        intro v34 e35
        have y0 := e35
        intro v36 e37
        have y1 := e37
        intro v38 e39
        have y2 := e39
        refine And.intro ⟨by omega, by omega⟩ ?_
        intro v40 e41
        have y3 := e41
        intro v42 e43
        have y4 := e43
        intro v44 e45
        have y5 := e45
        refine And.intro ⟨by omega, by omega⟩ ?_
        intro v46 e47
        have y6 := e47
        intro v48 e49
        have y7 := e49
        refine And.intro ⟨by omega, by omega⟩ ?_
        intro v50 e51
        have w52 : v40 = v50 := by rw [e51, e41]
        subst w52
        refine And.intro ⟨by omega, by omega⟩ ?_
        intro s53 e54
        have i55 : Iv s53 := Iv.a1 i0 e54 rfl
        have k56 : Kp s0 s53 := Kx.u1 Kx.rf e54 rfl
        refine And.intro ⟨by omega, by omega⟩ ?_
        intro v57 e58
        have y8 := e58
        refine And.intro ⟨by omega, by omega⟩ ?_
        intro s59 e60
        have i61 : Iv s59 := Iv.a1 i55 e60 rfl
        have k62 : Kp s0 s59 := Kx.u1 k56 e60 rfl
        refine And.intro ⟨by omega, by omega⟩ ?_
        intro s63 e64
        have i65 : Iv s63 := Iv.a1 i61 e64 rfl
        have k66 : Kp s0 s63 := Kx.u1 k62 e64 rfl
        show Iv s63 ∧ Kp s0 s63 ∧ (q_dd s0 s63 3 a1 a2 v48)
        exact ⟨i65, k66, (by first | exact q_dd0 (by omega) | exact q_dd1 (by omega) y0 y1 e54 e60 e64 | exact q_dd2 (by omega) y0 y1 y2 y3 y4 e54 e60 e64 | exact q_dd3 (by omega) y0 y1 y2 y3 y4 y5 y6 y7 y8 e54 e60 e64)⟩
      exact trivial
  ·
    have z0 : (Int32.ofInt 0).toInt = 0 := by decide
    have z1 : (Int32.ofInt 1).toInt = 1 := by decide
    have z2 : (Int32.ofInt 2).toInt = 2 := by decide
    have z3 : (Int32.ofInt 3).toInt = 3 := by decide
    have z4 : (Int32.ofInt 4).toInt = 4 := by decide
    have z5 : (Int32.ofInt 5).toInt = 5 := by decide
    refine ⟨Nat.le_of_ble_eq_true rfl, [], ?_, fun _ h => absurd h List.not_mem_nil⟩
    ·
      refine And.intro (fun c1 => ?_) ?_
      · have c1 : a1.toInt < (1) ∨ (3) < a1.toInt := c1
        show Iv s0 ∧ Kp s0 s0 ∧ (q_dd s0 s0 22 a1 a2 a2)
        exact ⟨i0, Kx.rf, (by first | exact q_dd0 (by omega) | exact q_dd1 (by omega) y0 y1  | exact q_dd2 (by omega) y0 y1 y2 y3 y4  | exact q_dd3 (by omega) y0 y1 y2 y3 y4 y5 y6 y7 y8 )⟩
      refine And.intro (fun c2 => ?_) ?_
      · have c2 : a1.toInt = (1) := c2
        refine And.intro ⟨by omega, by omega⟩ ?_
        intro v3 e4
        have y0 := e4
        intro v5 e6
        have y1 := e6
        refine And.intro ⟨by omega, by omega⟩ ?_
        intro s7 e8
        have i9 : Iv s7 := Iv.a1 i0 e8 rfl
        have k10 : Kp s0 s7 := Kx.u1 Kx.rf e8 rfl
        show Iv s7 ∧ Kp s0 s7 ∧ (q_dd s0 s7 22 a1 a2 v5)
        exact ⟨i9, k10, (by first | exact q_dd0 (by omega) | exact q_dd1 (by omega) y0 y1 e8 | exact q_dd2 (by omega) y0 y1 y2 y3 y4 e8 | exact q_dd3 (by omega) y0 y1 y2 y3 y4 y5 y6 y7 y8 e8)⟩
      refine And.intro (fun c11 => ?_) ?_
      · have c11 : a1.toInt = (2) := c11
        refine And.intro ⟨by omega, by omega⟩ ?_
        intro v12 e13
        have y0 := e13
        intro v14 e15
        have y1 := e15
        intro v16 e17
        have y2 := e17
        refine And.intro ⟨by omega, by omega⟩ ?_
        intro v18 e19
        have y3 := e19
        intro v20 e21
        have y4 := e21
        refine And.intro ⟨by omega, by omega⟩ ?_
        intro v22 e23
        have w24 : v12 = v22 := by rw [e23, e13]
        subst w24
        refine And.intro ⟨by omega, by omega⟩ ?_
        intro s25 e26
        have i27 : Iv s25 := Iv.a1 i0 e26 rfl
        have k28 : Kp s0 s25 := Kx.u1 Kx.rf e26 rfl
        refine And.intro ⟨by omega, by omega⟩ ?_
        intro s29 e30
        have i31 : Iv s29 := Iv.a1 i27 e30 rfl
        have k32 : Kp s0 s29 := Kx.u1 k28 e30 rfl
        show Iv s29 ∧ Kp s0 s29 ∧ (q_dd s0 s29 22 a1 a2 v20)
        exact ⟨i31, k32, (by first | exact q_dd0 (by omega) | exact q_dd1 (by omega) y0 y1 e26 e30 | exact q_dd2 (by omega) y0 y1 y2 y3 y4 e26 e30 | exact q_dd3 (by omega) y0 y1 y2 y3 y4 y5 y6 y7 y8 e26 e30)⟩
      refine And.intro (fun c33 => ?_) ?_
      · have c33 : a1.toInt = (3) := c33
        refine And.intro ⟨by omega, by omega⟩ ?_
        intro v34 e35
        have y0 := e35
        intro v36 e37
        have y1 := e37
        intro v38 e39
        have y2 := e39
        refine And.intro ⟨by omega, by omega⟩ ?_
        intro v40 e41
        have y3 := e41
        intro v42 e43
        have y4 := e43
        intro v44 e45
        have y5 := e45
        refine And.intro ⟨by omega, by omega⟩ ?_
        intro v46 e47
        have y6 := e47
        intro v48 e49
        have y7 := e49
        refine And.intro ⟨by omega, by omega⟩ ?_
        intro v50 e51
        have w52 : v40 = v50 := by rw [e51, e41]
        subst w52
        refine And.intro ⟨by omega, by omega⟩ ?_
        intro s53 e54
        have i55 : Iv s53 := Iv.a1 i0 e54 rfl
        have k56 : Kp s0 s53 := Kx.u1 Kx.rf e54 rfl
        refine And.intro ⟨by omega, by omega⟩ ?_
        intro v57 e58
        have y8 := e58
        refine And.intro ⟨by omega, by omega⟩ ?_
        intro s59 e60
        have i61 : Iv s59 := Iv.a1 i55 e60 rfl
        have k62 : Kp s0 s59 := Kx.u1 k56 e60 rfl
        refine And.intro ⟨by omega, by omega⟩ ?_
        intro s63 e64
        have i65 : Iv s63 := Iv.a1 i61 e64 rfl
        have k66 : Kp s0 s63 := Kx.u1 k62 e64 rfl
        show Iv s63 ∧ Kp s0 s63 ∧ (q_dd s0 s63 22 a1 a2 v48)
        exact ⟨i65, k66, (by first | exact q_dd0 (by omega) | exact q_dd1 (by omega) y0 y1 e54 e60 e64 | exact q_dd2 (by omega) y0 y1 y2 y3 y4 e54 e60 e64 | exact q_dd3 (by omega) y0 y1 y2 y3 y4 y5 y6 y7 y8 e54 e60 e64)⟩
      exact trivial
def o_X5_outOfCascade : List vg_I := [(0, .iload_n 1, 1, 0, 0, 0, 0), (1, .istore_n 3, 1, 0, 0, 0, 0), (2, .aload_n 0, 1, 0, 0, 0, 0), (3, .getfield 12, 3, 178, 5, 0, 0), (6, .invokevirtual 137, 3, 0, 6, 0, 685), (9, .istore 4, 2, 0, 0, 0, 0), (11, .iconst 0, 1, 0, 0, 0, 0), (12, .istore 5, 2, 0, 0, 0, 0), (14, .iload 5, 2, 0, 0, 0, 0), (16, .aload_n 0, 1, 0, 0, 0, 0), (17, .getfield 12, 3, 178, 5, 0, 0), (20, .getfield 134, 3, 144, 6, 1, 0), (23, .if_icmp .ge 87, 3, 0, 0, 0, 0), (26, .iload_n 3, 1, 0, 0, 0, 0), (27, .aload_n 0, 1, 0, 0, 0, 0), (28, .getfield 16, 3, 180, 5, 1, 0), (31, .iload 5, 2, 0, 0, 0, 0), (33, .iaload, 1, 0, 0, 0, 0), (34, .iadd, 1, 0, 0, 0, 0), (35, .istore 6, 2, 0, 0, 0, 0), (37, .aload_n 0, 1, 0, 0, 0, 0), (38, .getfield 12, 3, 178, 5, 0, 0), (41, .iload 5, 2, 0, 0, 0, 0), (43, .ifCond .ne 10, 3, 0, 0, 0, 0), (46, .iload 6, 2, 0, 0, 0, 0), (48, .iload_n 2, 1, 0, 0, 0, 0), (49, .iadd, 1, 0, 0, 0, 0), (50, .goto 5, 3, 0, 0, 0, 0), (53, .iload 6, 2, 0, 0, 0, 0), (55, .invokevirtual 128, 3, 1, 6, 1, 672), (58, .istore 7, 2, 0, 0, 0, 0), (60, .aload_n 0, 1, 0, 0, 0, 0), (61, .getfield 16, 3, 180, 5, 1, 0), (64, .iload 5, 2, 0, 0, 0, 0), (66, .aload_n 0, 1, 0, 0, 0, 0), (67, .iload 6, 2, 0, 0, 0, 0), (69, .aload_n 0, 1, 0, 0, 0, 0), (70, .getfield 12, 3, 178, 5, 0, 0), (73, .iload 7, 2, 0, 0, 0, 0), (75, .invokevirtual 140, 3, 2, 6, 1, 689), (78, .isub, 1, 0, 0, 0, 0), (79, .invokevirtual 131, 3, 3, 5, 1, 661), (82, .iastore, 1, 0, 0, 0, 0), (83, .aload_n 0, 1, 0, 0, 0, 0), (84, .getfield 16, 3, 180, 5, 1, 0), (87, .iload 5, 2, 0, 0, 0, 0), (89, .iaload, 1, 0, 0, 0, 0), (90, .istore_n 3, 1, 0, 0, 0, 0), (91, .iload 4, 2, 0, 0, 0, 0), (93, .aload_n 0, 1, 0, 0, 0, 0), (94, .iload 5, 2, 0, 0, 0, 0), (96, .iload 7, 2, 0, 0, 0, 0), (98, .invokevirtual 143, 3, 4, 5, 2, 693), (101, .iadd, 1, 0, 0, 0, 0), (102, .istore 4, 2, 0, 0, 0, 0), (104, .iinc 5 1, 3, 0, 0, 0, 0), (107, .goto (-93), 3, 0, 0, 0, 0), (110, .iload 4, 2, 0, 0, 0, 0), (112, .ireturn, 1, 0, 0, 0, 0)]
set_option maxRecDepth 100000 in
set_option maxHeartbeats 4000000 in
theorem c_X5_outOfCascade (l : Launch) (G : vg_G) (hp : vg_Hp G) : vg_Ct l G vg_sh r_X5_outOfCascade := by
  refine vg_meth hp vg_sh_ok r_X5_outOfCascade k_X5_outOfCascade rfl (fun h => by cases h) o_X5_outOfCascade [r_X6_besides, r_X6_nearest, r_X6_valueOfSmall, r_X5_hold, r_X5_differenceOf] false (by decide +kernel) (by decide +kernel) ⟨_, _, rfl, rfl⟩ (List.forall_mem_cons.mpr ⟨⟨c_X6_besides l G hp, Nat.le_of_ble_eq_true rfl, Nat.le_of_ble_eq_true rfl⟩, List.forall_mem_cons.mpr ⟨⟨c_X6_nearest l G hp, Nat.le_of_ble_eq_true rfl, Nat.le_of_ble_eq_true rfl⟩, List.forall_mem_cons.mpr ⟨⟨c_X6_valueOfSmall l G hp, Nat.le_of_ble_eq_true rfl, Nat.le_of_ble_eq_true rfl⟩, List.forall_mem_cons.mpr ⟨⟨c_X5_hold l G hp, Nat.le_of_ble_eq_true rfl, Nat.le_of_ble_eq_true rfl⟩, List.forall_mem_cons.mpr ⟨⟨c_X5_differenceOf l G hp, Nat.le_of_ble_eq_true rfl, Nat.le_of_ble_eq_true rfl⟩, fun _ h => absurd h List.not_mem_nil⟩⟩⟩⟩⟩) (fun h => by cases h) 600 ?_
  intro as s0 hpre
  obtain ⟨r, a1, a2, rfl, hr, i0, p0⟩ := hpre
  simp only [List.mem_cons, List.not_mem_nil, or_false] at hr
  rcases hr with rfl | rfl
  ·
    have z0 : (Int32.ofInt 0).toInt = 0 := by decide
    have z1 : (Int32.ofInt 1).toInt = 1 := by decide
    refine ⟨Nat.le_of_ble_eq_true rfl, [(14, [true, false, true, true, true, true, false, false], (fun L t => ∃ (x3 : Int32) (x4 : Int32) (x5 : Int32), L = [some (.ref 3), none, some (.int a2), some (.int x3), some (.int x4), some (.int x5), none, none] ∧ (-60000 : Int) ≤ x3.toInt ∧ x3.toInt ≤ (60000 : Int) ∧ (0 : Int) ≤ x5.toInt ∧ x5.toInt ≤ (4 : Int) ∧ (q_ocI s0 t 3 a1 a2 x3 x4 x5) ∧ Iv t ∧ Kp s0 t), (fun L _ => (0 + (4 - (vg_li L 5).toInt) * 1000000000000).toNat))], ?_, List.forall_mem_cons.mpr ⟨?_, fun _ h => absurd h List.not_mem_nil⟩⟩
    ·
      refine And.intro (Nat.le_of_ble_eq_true rfl) (And.intro ⟨4, rfl, by decide, i0⟩ ?_)
      intro v1 s3 h2
      have h2 : s3 = s0 ∧ (v1 = q_bes (s0.1 4 0) (s0.1 4 1) (s0.1 4 3)) := h2
      have q6 := h2.1.symm
      subst q6
      have q7 := h2.2
      have yb := q7
      exact ⟨rfl, ⟨a1, v1, (Int32.ofInt 0), rfl, (by omega), (by omega), (by omega), (by omega), (by first | exact q_oc0 (show 1 ≤ (s0.1 4 1).toInt by have h9 := Iv_4_1 i0; omega) yb | exact q_oc1 None y0 y1 ya y3 y4 y5 y6.1 y6.2.2.2.1 y6.2.2.2.2 y7 y8 y9 None (by omega) (show _ < (s0.1 4 1).toInt by omega) (by omega)), i0, Kx.rf⟩, trivial⟩
    ·
      intro L s16 hL
      obtain ⟨w8, w11, w12, rfl, b9, b10, b13, b14, x15, i17, k18⟩ := hL
      intro v19 e20
      have g21 : s16.1 4 1 = v19 := by rw [e20]
      have b22 : v19.toInt = (s16.1 4 1).toInt := congrArg Int32.toInt e20
      have b23 : (1 : Int) ≤ v19.toInt ∧ v19.toInt ≤ 4 := by rw [e20]; exact Iv_4_1 i17
      have yk : (s16.1 4 1).toInt = (s0.1 4 1).toInt := congrArg Int32.toInt (congrFun x15.2.2.2.2.2.1 1)
      refine And.intro (fun c24 => ?_) (fun c24 => ?_)
      · have c24 : v19.toInt ≤ w12.toInt := c24
        show Iv s16 ∧ Kp s0 s16 ∧ (q_oy s0 s16 3 w11 (q_yC (q_plC s0 4) a1 a2 (s0.1 5) (s0.1 6)))
        exact ⟨i17, k18, (q_oc2 x15 (show (s0.1 4 1).toInt ≤ _ by omega))⟩
      · have c24 : ¬ (v19.toInt ≤ w12.toInt) := c24
        refine And.intro ⟨by omega, by omega⟩ ?_
        intro v25 e26
        have b27 : (-60000 : Int) ≤ v25.toInt ∧ v25.toInt ≤ 60000 := by rw [e26]; exact Iv_r5 i17 (by omega) (by omega)
        have y0 := e26
        intro v28 e29
        have b30 := vg_add e29 (by omega) (by omega)
        have y1 := e29
        refine And.intro (fun c31 => ?_) (fun c31 => ?_)
        · have c31 : ¬ w12.toInt = 0 := c31
          have ya : v28 = if w12.toNatClampNeg = 0 then v28 + a2 else v28 := by first | (rw [if_pos (by (have h9 : w12.toNatClampNeg = w12.toInt.toNat := rfl); omega)]; exact yd) | rw [if_neg (by (have h9 : w12.toNatClampNeg = w12.toInt.toNat := rfl); omega)]
          refine And.intro (Nat.le_of_ble_eq_true rfl) (And.intro ⟨4, v28, rfl, by decide, i17⟩ ?_)
          intro v32 s34 h33
          have h33 : s34 = s16 ∧ (0 ≤ v32.toInt ∧ v32.toInt ≤ 16 ∧ (-10000000 ≤ v28.toInt ∧ v28.toInt ≤ 10000000 → v32 = q_near (s16.1 4 2) (s16.1 4 3) v28)) := h33
          have q37 := h33.1.symm
          subst q37
          have q38 := h33.2
          have y3 := q38.2.2 (by omega)
          refine And.intro (Nat.le_of_ble_eq_true rfl) (And.intro ⟨4, v32, rfl, by decide, i17⟩ ?_)
          intro v39 s41 h40
          have h40 : s41 = s16 ∧ (v39 = q_val (s16.1 4 2) (s16.1 4 3) v32) := h40
          have q44 := h40.1.symm
          subst q44
          have q45 := h40.2
          have y4 := q45
          intro v46 e47
          have y5 := e47
          refine And.intro (Nat.le_of_ble_eq_true rfl) (And.intro ⟨3, v46, rfl, by decide, i17⟩ ?_)
          intro v48 s50 h49
          have h49 : Iv s50 ∧ Kp s16 s50 ∧ (v48 = q_held (s16.1 4 4) v46 ∧ -60000 ≤ v48.toInt ∧ v48.toInt ≤ 60000 ∧ qk s16 s50 3 ∧ s50.1 3 7 = cond (q_ht v46 v48) (Int32.ofInt 1) (s16.1 3 7)) := h49
          have i51 := h49.1
          have k52 : Kp s0 s50 := Kx.tr k18 (h49.2.1)
          have q53 := h49.2.2
          have y6 := q53
          refine And.intro ⟨by omega, by omega⟩ ?_
          intro s54 e55
          have i56 : Iv s54 := Iv.r1 (lo := -60000) (hi := 60000) i51 e55 rfl (by omega) (by omega)
          have k57 : Kp s0 s54 := Kx.u1 k52 e55 rfl
          have y7 := e55
          refine And.intro ⟨by omega, by omega⟩ ?_
          intro v58 e59
          have b60 : (-60000 : Int) ≤ v58.toInt ∧ v58.toInt ≤ 60000 := by rw [e59]; exact Iv_r5 i56 (by omega) (by omega)
          have y8 := e59
          refine And.intro (Nat.le_of_ble_eq_true rfl) (And.intro ⟨3, w12, v32, rfl, by decide, i56⟩ ?_)
          intro v61 s63 h62
          have h62 : Iv s63 ∧ Kp s54 s63 ∧ (q_dd s54 s63 3 w12 v32 v61) := h62
          have i64 := h62.1
          have k65 : Kp s0 s63 := Kx.tr k57 (h62.2.1)
          have q66 := h62.2.2
          have y9 := q66
          intro v67 e68
          intro v69 e70
          have b71 := vg_add e70 (by omega) (by omega)
          exact ⟨rfl, ⟨v58, v67, v69, rfl, (by omega), (by omega), (by omega), (by omega), (by first | exact q_oc0 (show 1 ≤ (s0.1 4 1).toInt by have h9 := Iv_4_1 i0; omega) yb | exact q_oc1 x15 y0 y1 ya y3 y4 y5 y6.1 y6.2.2.2.1 y6.2.2.2.2 y7 y8 y9 e68 (by omega) (show _ < (s0.1 4 1).toInt by omega) (by omega)), i64, k65⟩, (by show (0 + (4 - v69.toInt) * 1000000000000).toNat < (0 + (4 - w12.toInt) * 1000000000000).toNat; omega)⟩
        · have c31 : ¬ (¬ w12.toInt = 0) := c31
          intro v72 e73
          have b74 := vg_add e73 (by omega) (by omega)
          have yd := e73
          have ya : v72 = if w12.toNatClampNeg = 0 then v28 + a2 else v28 := by first | (rw [if_pos (by (have h9 : w12.toNatClampNeg = w12.toInt.toNat := rfl); omega)]; exact yd) | rw [if_neg (by (have h9 : w12.toNatClampNeg = w12.toInt.toNat := rfl); omega)]
          refine And.intro (Nat.le_of_ble_eq_true rfl) (And.intro ⟨4, v72, rfl, by decide, i17⟩ ?_)
          intro v75 s77 h76
          have h76 : s77 = s16 ∧ (0 ≤ v75.toInt ∧ v75.toInt ≤ 16 ∧ (-10000000 ≤ v72.toInt ∧ v72.toInt ≤ 10000000 → v75 = q_near (s16.1 4 2) (s16.1 4 3) v72)) := h76
          have q80 := h76.1.symm
          subst q80
          have q81 := h76.2
          have y3 := q81.2.2 (by omega)
          refine And.intro (Nat.le_of_ble_eq_true rfl) (And.intro ⟨4, v75, rfl, by decide, i17⟩ ?_)
          intro v82 s84 h83
          have h83 : s84 = s16 ∧ (v82 = q_val (s16.1 4 2) (s16.1 4 3) v75) := h83
          have q87 := h83.1.symm
          subst q87
          have q88 := h83.2
          have y4 := q88
          intro v89 e90
          have y5 := e90
          refine And.intro (Nat.le_of_ble_eq_true rfl) (And.intro ⟨3, v89, rfl, by decide, i17⟩ ?_)
          intro v91 s93 h92
          have h92 : Iv s93 ∧ Kp s16 s93 ∧ (v91 = q_held (s16.1 4 4) v89 ∧ -60000 ≤ v91.toInt ∧ v91.toInt ≤ 60000 ∧ qk s16 s93 3 ∧ s93.1 3 7 = cond (q_ht v89 v91) (Int32.ofInt 1) (s16.1 3 7)) := h92
          have i94 := h92.1
          have k95 : Kp s0 s93 := Kx.tr k18 (h92.2.1)
          have q96 := h92.2.2
          have y6 := q96
          refine And.intro ⟨by omega, by omega⟩ ?_
          intro s97 e98
          have i99 : Iv s97 := Iv.r1 (lo := -60000) (hi := 60000) i94 e98 rfl (by omega) (by omega)
          have k100 : Kp s0 s97 := Kx.u1 k95 e98 rfl
          have y7 := e98
          refine And.intro ⟨by omega, by omega⟩ ?_
          intro v101 e102
          have b103 : (-60000 : Int) ≤ v101.toInt ∧ v101.toInt ≤ 60000 := by rw [e102]; exact Iv_r5 i99 (by omega) (by omega)
          have y8 := e102
          refine And.intro (Nat.le_of_ble_eq_true rfl) (And.intro ⟨3, w12, v75, rfl, by decide, i99⟩ ?_)
          intro v104 s106 h105
          have h105 : Iv s106 ∧ Kp s97 s106 ∧ (q_dd s97 s106 3 w12 v75 v104) := h105
          have i107 := h105.1
          have k108 : Kp s0 s106 := Kx.tr k100 (h105.2.1)
          have q109 := h105.2.2
          have y9 := q109
          intro v110 e111
          intro v112 e113
          have b114 := vg_add e113 (by omega) (by omega)
          exact ⟨rfl, ⟨v101, v110, v112, rfl, (by omega), (by omega), (by omega), (by omega), (by first | exact q_oc0 (show 1 ≤ (s0.1 4 1).toInt by have h9 := Iv_4_1 i0; omega) yb | exact q_oc1 x15 y0 y1 ya y3 y4 y5 y6.1 y6.2.2.2.1 y6.2.2.2.2 y7 y8 y9 e111 (by omega) (show _ < (s0.1 4 1).toInt by omega) (by omega)), i107, k108⟩, (by show (0 + (4 - v112.toInt) * 1000000000000).toNat < (0 + (4 - w12.toInt) * 1000000000000).toNat; omega)⟩
  ·
    have z0 : (Int32.ofInt 0).toInt = 0 := by decide
    have z1 : (Int32.ofInt 1).toInt = 1 := by decide
    refine ⟨Nat.le_of_ble_eq_true rfl, [(14, [true, false, true, true, true, true, false, false], (fun L t => ∃ (x3 : Int32) (x4 : Int32) (x5 : Int32), L = [some (.ref 22), none, some (.int a2), some (.int x3), some (.int x4), some (.int x5), none, none] ∧ (-60000 : Int) ≤ x3.toInt ∧ x3.toInt ≤ (60000 : Int) ∧ (0 : Int) ≤ x5.toInt ∧ x5.toInt ≤ (4 : Int) ∧ (q_ocI s0 t 22 a1 a2 x3 x4 x5) ∧ Iv t ∧ Kp s0 t), (fun L _ => (0 + (4 - (vg_li L 5).toInt) * 1000000000000).toNat))], ?_, List.forall_mem_cons.mpr ⟨?_, fun _ h => absurd h List.not_mem_nil⟩⟩
    ·
      refine And.intro (Nat.le_of_ble_eq_true rfl) (And.intro ⟨23, rfl, by decide, i0⟩ ?_)
      intro v1 s3 h2
      have h2 : s3 = s0 ∧ (v1 = q_bes (s0.1 23 0) (s0.1 23 1) (s0.1 23 3)) := h2
      have q6 := h2.1.symm
      subst q6
      have q7 := h2.2
      have yb := q7
      exact ⟨rfl, ⟨a1, v1, (Int32.ofInt 0), rfl, (by omega), (by omega), (by omega), (by omega), (by first | exact q_oc0 (show 1 ≤ (s0.1 23 1).toInt by have h9 := Iv_23_1 i0; omega) yb | exact q_oc1 None y0 y1 ya y3 y4 y5 y6.1 y6.2.2.2.1 y6.2.2.2.2 y7 y8 y9 None (by omega) (show _ < (s0.1 23 1).toInt by omega) (by omega)), i0, Kx.rf⟩, trivial⟩
    ·
      intro L s16 hL
      obtain ⟨w8, w11, w12, rfl, b9, b10, b13, b14, x15, i17, k18⟩ := hL
      intro v19 e20
      have g21 : s16.1 23 1 = v19 := by rw [e20]
      have b22 : v19.toInt = (s16.1 23 1).toInt := congrArg Int32.toInt e20
      have b23 : (1 : Int) ≤ v19.toInt ∧ v19.toInt ≤ 4 := by rw [e20]; exact Iv_23_1 i17
      have yk : (s16.1 23 1).toInt = (s0.1 23 1).toInt := congrArg Int32.toInt (congrFun x15.2.2.2.2.2.1 1)
      refine And.intro (fun c24 => ?_) (fun c24 => ?_)
      · have c24 : v19.toInt ≤ w12.toInt := c24
        show Iv s16 ∧ Kp s0 s16 ∧ (q_oy s0 s16 22 w11 (q_yC (q_plC s0 23) a1 a2 (s0.1 24) (s0.1 25)))
        exact ⟨i17, k18, (q_oc2 x15 (show (s0.1 23 1).toInt ≤ _ by omega))⟩
      · have c24 : ¬ (v19.toInt ≤ w12.toInt) := c24
        refine And.intro ⟨by omega, by omega⟩ ?_
        intro v25 e26
        have b27 : (-60000 : Int) ≤ v25.toInt ∧ v25.toInt ≤ 60000 := by rw [e26]; exact Iv_r24 i17 (by omega) (by omega)
        have y0 := e26
        intro v28 e29
        have b30 := vg_add e29 (by omega) (by omega)
        have y1 := e29
        refine And.intro (fun c31 => ?_) (fun c31 => ?_)
        · have c31 : ¬ w12.toInt = 0 := c31
          have ya : v28 = if w12.toNatClampNeg = 0 then v28 + a2 else v28 := by first | (rw [if_pos (by (have h9 : w12.toNatClampNeg = w12.toInt.toNat := rfl); omega)]; exact yd) | rw [if_neg (by (have h9 : w12.toNatClampNeg = w12.toInt.toNat := rfl); omega)]
          refine And.intro (Nat.le_of_ble_eq_true rfl) (And.intro ⟨23, v28, rfl, by decide, i17⟩ ?_)
          intro v32 s34 h33
          have h33 : s34 = s16 ∧ (0 ≤ v32.toInt ∧ v32.toInt ≤ 16 ∧ (-10000000 ≤ v28.toInt ∧ v28.toInt ≤ 10000000 → v32 = q_near (s16.1 23 2) (s16.1 23 3) v28)) := h33
          have q37 := h33.1.symm
          subst q37
          have q38 := h33.2
          have y3 := q38.2.2 (by omega)
          refine And.intro (Nat.le_of_ble_eq_true rfl) (And.intro ⟨23, v32, rfl, by decide, i17⟩ ?_)
          intro v39 s41 h40
          have h40 : s41 = s16 ∧ (v39 = q_val (s16.1 23 2) (s16.1 23 3) v32) := h40
          have q44 := h40.1.symm
          subst q44
          have q45 := h40.2
          have y4 := q45
          intro v46 e47
          have y5 := e47
          refine And.intro (Nat.le_of_ble_eq_true rfl) (And.intro ⟨22, v46, rfl, by decide, i17⟩ ?_)
          intro v48 s50 h49
          have h49 : Iv s50 ∧ Kp s16 s50 ∧ (v48 = q_held (s16.1 23 4) v46 ∧ -60000 ≤ v48.toInt ∧ v48.toInt ≤ 60000 ∧ qk s16 s50 22 ∧ s50.1 22 7 = cond (q_ht v46 v48) (Int32.ofInt 1) (s16.1 22 7)) := h49
          have i51 := h49.1
          have k52 : Kp s0 s50 := Kx.tr k18 (h49.2.1)
          have q53 := h49.2.2
          have y6 := q53
          refine And.intro ⟨by omega, by omega⟩ ?_
          intro s54 e55
          have i56 : Iv s54 := Iv.r1 (lo := -60000) (hi := 60000) i51 e55 rfl (by omega) (by omega)
          have k57 : Kp s0 s54 := Kx.u1 k52 e55 rfl
          have y7 := e55
          refine And.intro ⟨by omega, by omega⟩ ?_
          intro v58 e59
          have b60 : (-60000 : Int) ≤ v58.toInt ∧ v58.toInt ≤ 60000 := by rw [e59]; exact Iv_r24 i56 (by omega) (by omega)
          have y8 := e59
          refine And.intro (Nat.le_of_ble_eq_true rfl) (And.intro ⟨22, w12, v32, rfl, by decide, i56⟩ ?_)
          intro v61 s63 h62
          have h62 : Iv s63 ∧ Kp s54 s63 ∧ (q_dd s54 s63 22 w12 v32 v61) := h62
          have i64 := h62.1
          have k65 : Kp s0 s63 := Kx.tr k57 (h62.2.1)
          have q66 := h62.2.2
          have y9 := q66
          intro v67 e68
          intro v69 e70
          have b71 := vg_add e70 (by omega) (by omega)
          exact ⟨rfl, ⟨v58, v67, v69, rfl, (by omega), (by omega), (by omega), (by omega), (by first | exact q_oc0 (show 1 ≤ (s0.1 23 1).toInt by have h9 := Iv_23_1 i0; omega) yb | exact q_oc1 x15 y0 y1 ya y3 y4 y5 y6.1 y6.2.2.2.1 y6.2.2.2.2 y7 y8 y9 e68 (by omega) (show _ < (s0.1 23 1).toInt by omega) (by omega)), i64, k65⟩, (by show (0 + (4 - v69.toInt) * 1000000000000).toNat < (0 + (4 - w12.toInt) * 1000000000000).toNat; omega)⟩
        · have c31 : ¬ (¬ w12.toInt = 0) := c31
          intro v72 e73
          have b74 := vg_add e73 (by omega) (by omega)
          have yd := e73
          have ya : v72 = if w12.toNatClampNeg = 0 then v28 + a2 else v28 := by first | (rw [if_pos (by (have h9 : w12.toNatClampNeg = w12.toInt.toNat := rfl); omega)]; exact yd) | rw [if_neg (by (have h9 : w12.toNatClampNeg = w12.toInt.toNat := rfl); omega)]
          refine And.intro (Nat.le_of_ble_eq_true rfl) (And.intro ⟨23, v72, rfl, by decide, i17⟩ ?_)
          intro v75 s77 h76
          have h76 : s77 = s16 ∧ (0 ≤ v75.toInt ∧ v75.toInt ≤ 16 ∧ (-10000000 ≤ v72.toInt ∧ v72.toInt ≤ 10000000 → v75 = q_near (s16.1 23 2) (s16.1 23 3) v72)) := h76
          have q80 := h76.1.symm
          subst q80
          have q81 := h76.2
          have y3 := q81.2.2 (by omega)
          refine And.intro (Nat.le_of_ble_eq_true rfl) (And.intro ⟨23, v75, rfl, by decide, i17⟩ ?_)
          intro v82 s84 h83
          have h83 : s84 = s16 ∧ (v82 = q_val (s16.1 23 2) (s16.1 23 3) v75) := h83
          have q87 := h83.1.symm
          subst q87
          have q88 := h83.2
          have y4 := q88
          intro v89 e90
          have y5 := e90
          refine And.intro (Nat.le_of_ble_eq_true rfl) (And.intro ⟨22, v89, rfl, by decide, i17⟩ ?_)
          intro v91 s93 h92
          have h92 : Iv s93 ∧ Kp s16 s93 ∧ (v91 = q_held (s16.1 23 4) v89 ∧ -60000 ≤ v91.toInt ∧ v91.toInt ≤ 60000 ∧ qk s16 s93 22 ∧ s93.1 22 7 = cond (q_ht v89 v91) (Int32.ofInt 1) (s16.1 22 7)) := h92
          have i94 := h92.1
          have k95 : Kp s0 s93 := Kx.tr k18 (h92.2.1)
          have q96 := h92.2.2
          have y6 := q96
          refine And.intro ⟨by omega, by omega⟩ ?_
          intro s97 e98
          have i99 : Iv s97 := Iv.r1 (lo := -60000) (hi := 60000) i94 e98 rfl (by omega) (by omega)
          have k100 : Kp s0 s97 := Kx.u1 k95 e98 rfl
          have y7 := e98
          refine And.intro ⟨by omega, by omega⟩ ?_
          intro v101 e102
          have b103 : (-60000 : Int) ≤ v101.toInt ∧ v101.toInt ≤ 60000 := by rw [e102]; exact Iv_r24 i99 (by omega) (by omega)
          have y8 := e102
          refine And.intro (Nat.le_of_ble_eq_true rfl) (And.intro ⟨22, w12, v75, rfl, by decide, i99⟩ ?_)
          intro v104 s106 h105
          have h105 : Iv s106 ∧ Kp s97 s106 ∧ (q_dd s97 s106 22 w12 v75 v104) := h105
          have i107 := h105.1
          have k108 : Kp s0 s106 := Kx.tr k100 (h105.2.1)
          have q109 := h105.2.2
          have y9 := q109
          intro v110 e111
          intro v112 e113
          have b114 := vg_add e113 (by omega) (by omega)
          exact ⟨rfl, ⟨v101, v110, v112, rfl, (by omega), (by omega), (by omega), (by omega), (by first | exact q_oc0 (show 1 ≤ (s0.1 23 1).toInt by have h9 := Iv_23_1 i0; omega) yb | exact q_oc1 x15 y0 y1 ya y3 y4 y5 y6.1 y6.2.2.2.1 y6.2.2.2.2 y7 y8 y9 e111 (by omega) (show _ < (s0.1 23 1).toInt by omega) (by omega)), i107, k108⟩, (by show (0 + (4 - v112.toInt) * 1000000000000).toNat < (0 + (4 - w12.toInt) * 1000000000000).toNat; omega)⟩
def o_X5_shapedErrors : List vg_I := [(0, .aload_n 0, 1, 0, 0, 0, 0), (1, .getfield 12, 3, 178, 5, 0, 0), (4, .getfield 134, 3, 144, 6, 1, 0), (7, .tableswitch 73 1 3 #[25, 32, 48], 25, 0, 0, 0, 0), (32, .aload_n 0, 1, 0, 0, 0, 0), (33, .getfield 16, 3, 180, 5, 1, 0), (36, .iconst 0, 1, 0, 0, 0, 0), (37, .iaload, 1, 0, 0, 0, 0), (38, .ireturn, 1, 0, 0, 0, 0), (39, .iconst 2, 1, 0, 0, 0, 0), (40, .aload_n 0, 1, 0, 0, 0, 0), (41, .getfield 16, 3, 180, 5, 1, 0), (44, .iconst 0, 1, 0, 0, 0, 0), (45, .iaload, 1, 0, 0, 0, 0), (46, .imul, 1, 0, 0, 0, 0), (47, .aload_n 0, 1, 0, 0, 0, 0), (48, .getfield 16, 3, 180, 5, 1, 0), (51, .iconst 1, 1, 0, 0, 0, 0), (52, .iaload, 1, 0, 0, 0, 0), (53, .isub, 1, 0, 0, 0, 0), (54, .ireturn, 1, 0, 0, 0, 0), (55, .iconst 3, 1, 0, 0, 0, 0), (56, .aload_n 0, 1, 0, 0, 0, 0), (57, .getfield 16, 3, 180, 5, 1, 0), (60, .iconst 0, 1, 0, 0, 0, 0), (61, .iaload, 1, 0, 0, 0, 0), (62, .imul, 1, 0, 0, 0, 0), (63, .iconst 3, 1, 0, 0, 0, 0), (64, .aload_n 0, 1, 0, 0, 0, 0), (65, .getfield 16, 3, 180, 5, 1, 0), (68, .iconst 1, 1, 0, 0, 0, 0), (69, .iaload, 1, 0, 0, 0, 0), (70, .imul, 1, 0, 0, 0, 0), (71, .isub, 1, 0, 0, 0, 0), (72, .aload_n 0, 1, 0, 0, 0, 0), (73, .getfield 16, 3, 180, 5, 1, 0), (76, .iconst 2, 1, 0, 0, 0, 0), (77, .iaload, 1, 0, 0, 0, 0), (78, .iadd, 1, 0, 0, 0, 0), (79, .ireturn, 1, 0, 0, 0, 0), (80, .iconst 4, 1, 0, 0, 0, 0), (81, .aload_n 0, 1, 0, 0, 0, 0), (82, .getfield 16, 3, 180, 5, 1, 0), (85, .iconst 0, 1, 0, 0, 0, 0), (86, .iaload, 1, 0, 0, 0, 0), (87, .imul, 1, 0, 0, 0, 0), (88, .bipush 6, 2, 0, 0, 0, 0), (90, .aload_n 0, 1, 0, 0, 0, 0), (91, .getfield 16, 3, 180, 5, 1, 0), (94, .iconst 1, 1, 0, 0, 0, 0), (95, .iaload, 1, 0, 0, 0, 0), (96, .imul, 1, 0, 0, 0, 0), (97, .isub, 1, 0, 0, 0, 0), (98, .iconst 4, 1, 0, 0, 0, 0), (99, .aload_n 0, 1, 0, 0, 0, 0), (100, .getfield 16, 3, 180, 5, 1, 0), (103, .iconst 2, 1, 0, 0, 0, 0), (104, .iaload, 1, 0, 0, 0, 0), (105, .imul, 1, 0, 0, 0, 0), (106, .iadd, 1, 0, 0, 0, 0), (107, .aload_n 0, 1, 0, 0, 0, 0), (108, .getfield 16, 3, 180, 5, 1, 0), (111, .iconst 3, 1, 0, 0, 0, 0), (112, .iaload, 1, 0, 0, 0, 0), (113, .isub, 1, 0, 0, 0, 0), (114, .ireturn, 1, 0, 0, 0, 0)]
set_option maxRecDepth 100000 in
set_option maxHeartbeats 4000000 in
theorem c_X5_shapedErrors (l : Launch) (G : vg_G) (hp : vg_Hp G) : vg_Ct l G vg_sh r_X5_shapedErrors := by
  refine vg_meth hp vg_sh_ok r_X5_shapedErrors k_X5_shapedErrors rfl (fun h => by cases h) o_X5_shapedErrors [] false (by decide +kernel) (by decide +kernel) ⟨_, _, rfl, rfl⟩ (fun _ h => absurd h List.not_mem_nil) (fun h => by cases h) 600 ?_
  intro as s0 hpre
  obtain ⟨r, rfl, hr, i0⟩ := hpre
  simp only [List.mem_cons, List.not_mem_nil, or_false] at hr
  rcases hr with rfl | rfl
  ·
    have z0 : (Int32.ofInt 0).toInt = 0 := by decide
    have z1 : (Int32.ofInt 1).toInt = 1 := by decide
    have z2 : (Int32.ofInt 2).toInt = 2 := by decide
    have z3 : (Int32.ofInt 3).toInt = 3 := by decide
    have z4 : (Int32.ofInt 4).toInt = 4 := by decide
    have z6 : (Int32.ofInt 6).toInt = 6 := by decide
    refine ⟨Nat.le_of_ble_eq_true rfl, [], ?_, fun _ h => absurd h List.not_mem_nil⟩
    ·
      intro v1 e2
      have g3 : s0.1 4 1 = v1 := by rw [e2]
      have b4 : v1.toInt = (s0.1 4 1).toInt := congrArg Int32.toInt e2
      have b5 : (1 : Int) ≤ v1.toInt ∧ v1.toInt ≤ 4 := by rw [e2]; exact Iv_4_1 i0
      refine And.intro (fun c6 => ?_) ?_
      · have c6 : v1.toInt < (1) ∨ (3) < v1.toInt := c6
        refine And.intro ⟨by omega, by omega⟩ ?_
        intro v7 e8
        have b9 : (-60000 : Int) ≤ v7.toInt ∧ v7.toInt ≤ 60000 := by rw [e8]; exact Iv_r5 i0 (by omega) (by omega)
        intro v10 e11
        have b12 : v10.toInt = (4) * v7.toInt := vg_mulL e11 (by omega) (by omega) (by omega)
        refine And.intro ⟨by omega, by omega⟩ ?_
        intro v13 e14
        have b15 : (-60000 : Int) ≤ v13.toInt ∧ v13.toInt ≤ 60000 := by rw [e14]; exact Iv_r5 i0 (by omega) (by omega)
        intro v16 e17
        have b18 : v16.toInt = (6) * v13.toInt := vg_mulL e17 (by omega) (by omega) (by omega)
        intro v19 e20
        have b21 := vg_sub e20 (by omega) (by omega)
        refine And.intro ⟨by omega, by omega⟩ ?_
        intro v22 e23
        have b24 : (-60000 : Int) ≤ v22.toInt ∧ v22.toInt ≤ 60000 := by rw [e23]; exact Iv_r5 i0 (by omega) (by omega)
        intro v25 e26
        have b27 : v25.toInt = (4) * v22.toInt := vg_mulL e26 (by omega) (by omega) (by omega)
        intro v28 e29
        have b30 := vg_add e29 (by omega) (by omega)
        refine And.intro ⟨by omega, by omega⟩ ?_
        intro v31 e32
        have b33 : (-60000 : Int) ≤ v31.toInt ∧ v31.toInt ≤ 60000 := by rw [e32]; exact Iv_r5 i0 (by omega) (by omega)
        intro v34 e35
        have b36 := vg_sub e35 (by omega) (by omega)
        show s0 = s0 ∧ (v34 = q_shv (s0.1 4 1) (s0.1 5) ∧ -900000 ≤ v34.toInt ∧ v34.toInt ≤ 900000)
        exact ⟨rfl, (by refine ⟨?_, by omega, by omega⟩; unfold q_shv; first | (rw [if_pos (by omega)]; subst_vars; rfl) | (rw [if_neg (by omega), if_pos (by omega)]; subst_vars; rfl) | (rw [if_neg (by omega), if_neg (by omega), if_pos (by omega)]; subst_vars; rfl) | (rw [if_neg (by omega), if_neg (by omega), if_neg (by omega)]; subst_vars; rfl))⟩
      refine And.intro (fun c37 => ?_) ?_
      · have c37 : v1.toInt = (1) := c37
        refine And.intro ⟨by omega, by omega⟩ ?_
        intro v38 e39
        have b40 : (-60000 : Int) ≤ v38.toInt ∧ v38.toInt ≤ 60000 := by rw [e39]; exact Iv_r5 i0 (by omega) (by omega)
        show s0 = s0 ∧ (v38 = q_shv (s0.1 4 1) (s0.1 5) ∧ -900000 ≤ v38.toInt ∧ v38.toInt ≤ 900000)
        exact ⟨rfl, (by refine ⟨?_, by omega, by omega⟩; unfold q_shv; first | (rw [if_pos (by omega)]; subst_vars; rfl) | (rw [if_neg (by omega), if_pos (by omega)]; subst_vars; rfl) | (rw [if_neg (by omega), if_neg (by omega), if_pos (by omega)]; subst_vars; rfl) | (rw [if_neg (by omega), if_neg (by omega), if_neg (by omega)]; subst_vars; rfl))⟩
      refine And.intro (fun c41 => ?_) ?_
      · have c41 : v1.toInt = (2) := c41
        refine And.intro ⟨by omega, by omega⟩ ?_
        intro v42 e43
        have b44 : (-60000 : Int) ≤ v42.toInt ∧ v42.toInt ≤ 60000 := by rw [e43]; exact Iv_r5 i0 (by omega) (by omega)
        intro v45 e46
        have b47 : v45.toInt = (2) * v42.toInt := vg_mulL e46 (by omega) (by omega) (by omega)
        refine And.intro ⟨by omega, by omega⟩ ?_
        intro v48 e49
        have b50 : (-60000 : Int) ≤ v48.toInt ∧ v48.toInt ≤ 60000 := by rw [e49]; exact Iv_r5 i0 (by omega) (by omega)
        intro v51 e52
        have b53 := vg_sub e52 (by omega) (by omega)
        show s0 = s0 ∧ (v51 = q_shv (s0.1 4 1) (s0.1 5) ∧ -900000 ≤ v51.toInt ∧ v51.toInt ≤ 900000)
        exact ⟨rfl, (by refine ⟨?_, by omega, by omega⟩; unfold q_shv; first | (rw [if_pos (by omega)]; subst_vars; rfl) | (rw [if_neg (by omega), if_pos (by omega)]; subst_vars; rfl) | (rw [if_neg (by omega), if_neg (by omega), if_pos (by omega)]; subst_vars; rfl) | (rw [if_neg (by omega), if_neg (by omega), if_neg (by omega)]; subst_vars; rfl))⟩
      refine And.intro (fun c54 => ?_) ?_
      · have c54 : v1.toInt = (3) := c54
        refine And.intro ⟨by omega, by omega⟩ ?_
        intro v55 e56
        have b57 : (-60000 : Int) ≤ v55.toInt ∧ v55.toInt ≤ 60000 := by rw [e56]; exact Iv_r5 i0 (by omega) (by omega)
        intro v58 e59
        have b60 : v58.toInt = (3) * v55.toInt := vg_mulL e59 (by omega) (by omega) (by omega)
        refine And.intro ⟨by omega, by omega⟩ ?_
        intro v61 e62
        have b63 : (-60000 : Int) ≤ v61.toInt ∧ v61.toInt ≤ 60000 := by rw [e62]; exact Iv_r5 i0 (by omega) (by omega)
        intro v64 e65
        have b66 : v64.toInt = (3) * v61.toInt := vg_mulL e65 (by omega) (by omega) (by omega)
        intro v67 e68
        have b69 := vg_sub e68 (by omega) (by omega)
        refine And.intro ⟨by omega, by omega⟩ ?_
        intro v70 e71
        have b72 : (-60000 : Int) ≤ v70.toInt ∧ v70.toInt ≤ 60000 := by rw [e71]; exact Iv_r5 i0 (by omega) (by omega)
        intro v73 e74
        have b75 := vg_add e74 (by omega) (by omega)
        show s0 = s0 ∧ (v73 = q_shv (s0.1 4 1) (s0.1 5) ∧ -900000 ≤ v73.toInt ∧ v73.toInt ≤ 900000)
        exact ⟨rfl, (by refine ⟨?_, by omega, by omega⟩; unfold q_shv; first | (rw [if_pos (by omega)]; subst_vars; rfl) | (rw [if_neg (by omega), if_pos (by omega)]; subst_vars; rfl) | (rw [if_neg (by omega), if_neg (by omega), if_pos (by omega)]; subst_vars; rfl) | (rw [if_neg (by omega), if_neg (by omega), if_neg (by omega)]; subst_vars; rfl))⟩
      exact trivial
  ·
    have z0 : (Int32.ofInt 0).toInt = 0 := by decide
    have z1 : (Int32.ofInt 1).toInt = 1 := by decide
    have z2 : (Int32.ofInt 2).toInt = 2 := by decide
    have z3 : (Int32.ofInt 3).toInt = 3 := by decide
    have z4 : (Int32.ofInt 4).toInt = 4 := by decide
    have z6 : (Int32.ofInt 6).toInt = 6 := by decide
    refine ⟨Nat.le_of_ble_eq_true rfl, [], ?_, fun _ h => absurd h List.not_mem_nil⟩
    ·
      intro v1 e2
      have g3 : s0.1 23 1 = v1 := by rw [e2]
      have b4 : v1.toInt = (s0.1 23 1).toInt := congrArg Int32.toInt e2
      have b5 : (1 : Int) ≤ v1.toInt ∧ v1.toInt ≤ 4 := by rw [e2]; exact Iv_23_1 i0
      refine And.intro (fun c6 => ?_) ?_
      · have c6 : v1.toInt < (1) ∨ (3) < v1.toInt := c6
        refine And.intro ⟨by omega, by omega⟩ ?_
        intro v7 e8
        have b9 : (-60000 : Int) ≤ v7.toInt ∧ v7.toInt ≤ 60000 := by rw [e8]; exact Iv_r24 i0 (by omega) (by omega)
        intro v10 e11
        have b12 : v10.toInt = (4) * v7.toInt := vg_mulL e11 (by omega) (by omega) (by omega)
        refine And.intro ⟨by omega, by omega⟩ ?_
        intro v13 e14
        have b15 : (-60000 : Int) ≤ v13.toInt ∧ v13.toInt ≤ 60000 := by rw [e14]; exact Iv_r24 i0 (by omega) (by omega)
        intro v16 e17
        have b18 : v16.toInt = (6) * v13.toInt := vg_mulL e17 (by omega) (by omega) (by omega)
        intro v19 e20
        have b21 := vg_sub e20 (by omega) (by omega)
        refine And.intro ⟨by omega, by omega⟩ ?_
        intro v22 e23
        have b24 : (-60000 : Int) ≤ v22.toInt ∧ v22.toInt ≤ 60000 := by rw [e23]; exact Iv_r24 i0 (by omega) (by omega)
        intro v25 e26
        have b27 : v25.toInt = (4) * v22.toInt := vg_mulL e26 (by omega) (by omega) (by omega)
        intro v28 e29
        have b30 := vg_add e29 (by omega) (by omega)
        refine And.intro ⟨by omega, by omega⟩ ?_
        intro v31 e32
        have b33 : (-60000 : Int) ≤ v31.toInt ∧ v31.toInt ≤ 60000 := by rw [e32]; exact Iv_r24 i0 (by omega) (by omega)
        intro v34 e35
        have b36 := vg_sub e35 (by omega) (by omega)
        show s0 = s0 ∧ (v34 = q_shv (s0.1 23 1) (s0.1 24) ∧ -900000 ≤ v34.toInt ∧ v34.toInt ≤ 900000)
        exact ⟨rfl, (by refine ⟨?_, by omega, by omega⟩; unfold q_shv; first | (rw [if_pos (by omega)]; subst_vars; rfl) | (rw [if_neg (by omega), if_pos (by omega)]; subst_vars; rfl) | (rw [if_neg (by omega), if_neg (by omega), if_pos (by omega)]; subst_vars; rfl) | (rw [if_neg (by omega), if_neg (by omega), if_neg (by omega)]; subst_vars; rfl))⟩
      refine And.intro (fun c37 => ?_) ?_
      · have c37 : v1.toInt = (1) := c37
        refine And.intro ⟨by omega, by omega⟩ ?_
        intro v38 e39
        have b40 : (-60000 : Int) ≤ v38.toInt ∧ v38.toInt ≤ 60000 := by rw [e39]; exact Iv_r24 i0 (by omega) (by omega)
        show s0 = s0 ∧ (v38 = q_shv (s0.1 23 1) (s0.1 24) ∧ -900000 ≤ v38.toInt ∧ v38.toInt ≤ 900000)
        exact ⟨rfl, (by refine ⟨?_, by omega, by omega⟩; unfold q_shv; first | (rw [if_pos (by omega)]; subst_vars; rfl) | (rw [if_neg (by omega), if_pos (by omega)]; subst_vars; rfl) | (rw [if_neg (by omega), if_neg (by omega), if_pos (by omega)]; subst_vars; rfl) | (rw [if_neg (by omega), if_neg (by omega), if_neg (by omega)]; subst_vars; rfl))⟩
      refine And.intro (fun c41 => ?_) ?_
      · have c41 : v1.toInt = (2) := c41
        refine And.intro ⟨by omega, by omega⟩ ?_
        intro v42 e43
        have b44 : (-60000 : Int) ≤ v42.toInt ∧ v42.toInt ≤ 60000 := by rw [e43]; exact Iv_r24 i0 (by omega) (by omega)
        intro v45 e46
        have b47 : v45.toInt = (2) * v42.toInt := vg_mulL e46 (by omega) (by omega) (by omega)
        refine And.intro ⟨by omega, by omega⟩ ?_
        intro v48 e49
        have b50 : (-60000 : Int) ≤ v48.toInt ∧ v48.toInt ≤ 60000 := by rw [e49]; exact Iv_r24 i0 (by omega) (by omega)
        intro v51 e52
        have b53 := vg_sub e52 (by omega) (by omega)
        show s0 = s0 ∧ (v51 = q_shv (s0.1 23 1) (s0.1 24) ∧ -900000 ≤ v51.toInt ∧ v51.toInt ≤ 900000)
        exact ⟨rfl, (by refine ⟨?_, by omega, by omega⟩; unfold q_shv; first | (rw [if_pos (by omega)]; subst_vars; rfl) | (rw [if_neg (by omega), if_pos (by omega)]; subst_vars; rfl) | (rw [if_neg (by omega), if_neg (by omega), if_pos (by omega)]; subst_vars; rfl) | (rw [if_neg (by omega), if_neg (by omega), if_neg (by omega)]; subst_vars; rfl))⟩
      refine And.intro (fun c54 => ?_) ?_
      · have c54 : v1.toInt = (3) := c54
        refine And.intro ⟨by omega, by omega⟩ ?_
        intro v55 e56
        have b57 : (-60000 : Int) ≤ v55.toInt ∧ v55.toInt ≤ 60000 := by rw [e56]; exact Iv_r24 i0 (by omega) (by omega)
        intro v58 e59
        have b60 : v58.toInt = (3) * v55.toInt := vg_mulL e59 (by omega) (by omega) (by omega)
        refine And.intro ⟨by omega, by omega⟩ ?_
        intro v61 e62
        have b63 : (-60000 : Int) ≤ v61.toInt ∧ v61.toInt ≤ 60000 := by rw [e62]; exact Iv_r24 i0 (by omega) (by omega)
        intro v64 e65
        have b66 : v64.toInt = (3) * v61.toInt := vg_mulL e65 (by omega) (by omega) (by omega)
        intro v67 e68
        have b69 := vg_sub e68 (by omega) (by omega)
        refine And.intro ⟨by omega, by omega⟩ ?_
        intro v70 e71
        have b72 : (-60000 : Int) ≤ v70.toInt ∧ v70.toInt ≤ 60000 := by rw [e71]; exact Iv_r24 i0 (by omega) (by omega)
        intro v73 e74
        have b75 := vg_add e74 (by omega) (by omega)
        show s0 = s0 ∧ (v73 = q_shv (s0.1 23 1) (s0.1 24) ∧ -900000 ≤ v73.toInt ∧ v73.toInt ≤ 900000)
        exact ⟨rfl, (by refine ⟨?_, by omega, by omega⟩; unfold q_shv; first | (rw [if_pos (by omega)]; subst_vars; rfl) | (rw [if_neg (by omega), if_pos (by omega)]; subst_vars; rfl) | (rw [if_neg (by omega), if_neg (by omega), if_pos (by omega)]; subst_vars; rfl) | (rw [if_neg (by omega), if_neg (by omega), if_neg (by omega)]; subst_vars; rfl))⟩
      exact trivial
def o_X5_outOfErrors : List vg_I := [(0, .iload_n 1, 1, 0, 0, 0, 0), (1, .aload_n 0, 1, 0, 0, 0, 0), (2, .invokevirtual 125, 3, 0, 5, 0, 701), (5, .iadd, 1, 0, 0, 0, 0), (6, .istore_n 3, 1, 0, 0, 0, 0), (7, .aload_n 0, 1, 0, 0, 0, 0), (8, .getfield 12, 3, 178, 5, 0, 0), (11, .iload_n 3, 1, 0, 0, 0, 0), (12, .iload_n 2, 1, 0, 0, 0, 0), (13, .iadd, 1, 0, 0, 0, 0), (14, .invokevirtual 128, 3, 1, 6, 1, 672), (17, .istore 4, 2, 0, 0, 0, 0), (19, .aload_n 0, 1, 0, 0, 0, 0), (20, .iload_n 3, 1, 0, 0, 0, 0), (21, .aload_n 0, 1, 0, 0, 0, 0), (22, .getfield 12, 3, 178, 5, 0, 0), (25, .iload 4, 2, 0, 0, 0, 0), (27, .invokevirtual 88, 3, 2, 6, 1, 705), (30, .isub, 1, 0, 0, 0, 0), (31, .invokevirtual 131, 3, 3, 5, 1, 661), (34, .istore 5, 2, 0, 0, 0, 0), (36, .aload_n 0, 1, 0, 0, 0, 0), (37, .getfield 12, 3, 178, 5, 0, 0), (40, .getfield 134, 3, 144, 6, 1, 0), (43, .iconst 1, 1, 0, 0, 0, 0), (44, .isub, 1, 0, 0, 0, 0), (45, .istore 6, 2, 0, 0, 0, 0), (47, .iload 6, 2, 0, 0, 0, 0), (49, .ifCond .le 25, 3, 0, 0, 0, 0), (52, .aload_n 0, 1, 0, 0, 0, 0), (53, .getfield 16, 3, 180, 5, 1, 0), (56, .iload 6, 2, 0, 0, 0, 0), (58, .aload_n 0, 1, 0, 0, 0, 0), (59, .getfield 16, 3, 180, 5, 1, 0), (62, .iload 6, 2, 0, 0, 0, 0), (64, .iconst 1, 1, 0, 0, 0, 0), (65, .isub, 1, 0, 0, 0, 0), (66, .iaload, 1, 0, 0, 0, 0), (67, .iastore, 1, 0, 0, 0, 0), (68, .iinc 6 (-1), 3, 0, 0, 0, 0), (71, .goto (-24), 3, 0, 0, 0, 0), (74, .aload_n 0, 1, 0, 0, 0, 0), (75, .getfield 16, 3, 180, 5, 1, 0), (78, .iconst 0, 1, 0, 0, 0, 0), (79, .iload 5, 2, 0, 0, 0, 0), (81, .iastore, 1, 0, 0, 0, 0), (82, .iload 4, 2, 0, 0, 0, 0), (84, .ireturn, 1, 0, 0, 0, 0)]
set_option maxRecDepth 100000 in
set_option maxHeartbeats 4000000 in
theorem c_X5_outOfErrors (l : Launch) (G : vg_G) (hp : vg_Hp G) : vg_Ct l G vg_sh r_X5_outOfErrors := by
  refine vg_meth hp vg_sh_ok r_X5_outOfErrors k_X5_outOfErrors rfl (fun h => by cases h) o_X5_outOfErrors [r_X5_shapedErrors, r_X6_nearest, r_X6_valueOf, r_X5_hold] false (by decide +kernel) (by decide +kernel) ⟨_, _, rfl, rfl⟩ (List.forall_mem_cons.mpr ⟨⟨c_X5_shapedErrors l G hp, Nat.le_of_ble_eq_true rfl, Nat.le_of_ble_eq_true rfl⟩, List.forall_mem_cons.mpr ⟨⟨c_X6_nearest l G hp, Nat.le_of_ble_eq_true rfl, Nat.le_of_ble_eq_true rfl⟩, List.forall_mem_cons.mpr ⟨⟨c_X6_valueOf l G hp, Nat.le_of_ble_eq_true rfl, Nat.le_of_ble_eq_true rfl⟩, List.forall_mem_cons.mpr ⟨⟨c_X5_hold l G hp, Nat.le_of_ble_eq_true rfl, Nat.le_of_ble_eq_true rfl⟩, fun _ h => absurd h List.not_mem_nil⟩⟩⟩⟩) (fun h => by cases h) 600 ?_
  intro as s0 hpre
  obtain ⟨r, a1, a2, rfl, hr, i0, p0⟩ := hpre
  simp only [List.mem_cons, List.not_mem_nil, or_false] at hr
  rcases hr with rfl | rfl
  ·
    have zm1 : (Int32.ofInt (-1)).toInt = -1 := by decide
    have z0 : (Int32.ofInt 0).toInt = 0 := by decide
    have z1 : (Int32.ofInt 1).toInt = 1 := by decide
    refine ⟨Nat.le_of_ble_eq_true rfl, [(47, [true, false, false, false, true, true, true], (fun L t => ∃ (x4 : Int32) (x5 : Int32) (x6 : Int32), L = [some (.ref 3), none, none, none, some (.int x4), some (.int x5), some (.int x6)] ∧ (0 : Int) ≤ x4.toInt ∧ x4.toInt ≤ (16 : Int) ∧ (-60000 : Int) ≤ x5.toInt ∧ x5.toInt ≤ (60000 : Int) ∧ (0 : Int) ≤ x6.toInt ∧ x6.toInt ≤ (3 : Int) ∧ (q_oeI s0 t 3 a1 a2 x4 x5 x6) ∧ Iv t ∧ Kp s0 t), (fun L _ => (0 + ((vg_li L 6).toInt - (0)) * 1000000000000).toNat))], ?_, List.forall_mem_cons.mpr ⟨?_, fun _ h => absurd h List.not_mem_nil⟩⟩
    ·
      refine And.intro (Nat.le_of_ble_eq_true rfl) (And.intro ⟨3, rfl, by decide, i0⟩ ?_)
      intro v1 s3 h2
      have h2 : s3 = s0 ∧ (v1 = q_shv (s0.1 4 1) (s0.1 5) ∧ -900000 ≤ v1.toInt ∧ v1.toInt ≤ 900000) := h2
      have q6 := h2.1.symm
      subst q6
      have q7 := h2.2
      have y0 := q7.1
      intro v8 e9
      have b10 := vg_add e9 (by omega) (by omega)
      have y1 := e9
      intro v11 e12
      have b13 := vg_add e12 (by omega) (by omega)
      have y2 := e12
      refine And.intro (Nat.le_of_ble_eq_true rfl) (And.intro ⟨4, v11, rfl, by decide, i0⟩ ?_)
      intro v14 s16 h15
      have h15 : s16 = s0 ∧ (0 ≤ v14.toInt ∧ v14.toInt ≤ 16 ∧ (-10000000 ≤ v11.toInt ∧ v11.toInt ≤ 10000000 → v14 = q_near (s0.1 4 2) (s0.1 4 3) v11)) := h15
      have q19 := h15.1.symm
      subst q19
      have q20 := h15.2
      have y3 := q20.2.2 (by omega)
      refine And.intro (Nat.le_of_ble_eq_true rfl) (And.intro ⟨4, v14, rfl, by decide, i0⟩ ?_)
      intro v21 s23 h22
      have h22 : s23 = s0 ∧ (v21 = q_val (s0.1 4 2) (s0.1 4 3) (v14 - q_bes (s0.1 4 0) (s0.1 4 1) (s0.1 4 3))) := h22
      have q26 := h22.1.symm
      subst q26
      have q27 := h22.2
      have y4 := q27
      intro v28 e29
      have y5 := e29
      refine And.intro (Nat.le_of_ble_eq_true rfl) (And.intro ⟨3, v28, rfl, by decide, i0⟩ ?_)
      intro v30 s32 h31
      have h31 : Iv s32 ∧ Kp s0 s32 ∧ (v30 = q_held (s0.1 4 4) v28 ∧ -60000 ≤ v30.toInt ∧ v30.toInt ≤ 60000 ∧ qk s0 s32 3 ∧ s32.1 3 7 = cond (q_ht v28 v30) (Int32.ofInt 1) (s0.1 3 7)) := h31
      have i33 := h31.1
      have k34 : Kp s0 s32 := Kx.tr Kx.rf (h31.2.1)
      have q35 := h31.2.2
      have y6 := q35
      intro v36 e37
      have g38 : s32.1 4 1 = v36 := by rw [e37]
      have b39 : (1 : Int) ≤ v36.toInt ∧ v36.toInt ≤ 4 := by rw [e37]; exact Iv_4_1 i33
      have y7 := e37
      intro v40 e41
      have b42 := vg_sub e41 (by omega) (by omega)
      exact ⟨rfl, ⟨v14, v30, v40, rfl, (by omega), (by omega), (by omega), (by omega), (by omega), (by omega), (by first | exact q_oe0 y0 y1 y2 y3 y4 y5 y6.1 y6.2.2.2.1 y6.2.2.2.2 y7 (by omega) | exact q_oe1 None None rfl (by omega) (by omega) (by omega)), i33, k34⟩, trivial⟩
    ·
      intro L s53 hL
      obtain ⟨w43, w46, w49, rfl, b44, b45, b47, b48, b50, b51, x52, i54, k55⟩ := hL
      refine And.intro (fun c56 => ?_) (fun c56 => ?_)
      · have c56 : w49.toInt ≤ 0 := c56
        refine And.intro ⟨by omega, by omega⟩ ?_
        intro s57 e58
        have i59 : Iv s57 := Iv.r1 (lo := -60000) (hi := 60000) i54 e58 rfl (by omega) (by omega)
        have k60 : Kp s0 s57 := Kx.u1 k55 e58 rfl
        show Iv s57 ∧ Kp s0 s57 ∧ (q_oy s0 s57 3 w43 (q_yE (q_plC s0 4) a1 a2 (s0.1 5) (s0.1 6)))
        exact ⟨i59, k60, (q_oe2 x52 e58 (by omega))⟩
      · have c56 : ¬ (w49.toInt ≤ 0) := c56
        intro v61 e62
        have b63 := vg_sub e62 (by omega) (by omega)
        refine And.intro ⟨by omega, by omega⟩ ?_
        intro v64 e65
        have b66 : (-60000 : Int) ≤ v64.toInt ∧ v64.toInt ≤ 60000 := by rw [e65]; exact Iv_r5 i54 (by omega) (by omega)
        refine And.intro ⟨by omega, by omega⟩ ?_
        intro s67 e68
        have i69 : Iv s67 := Iv.r1 (lo := -60000) (hi := 60000) i54 e68 rfl (by omega) (by omega)
        have k70 : Kp s0 s67 := Kx.u1 k55 e68 rfl
        intro v71 e72
        have b73 := vg_add e72 (by omega) (by omega)
        exact ⟨rfl, ⟨w43, w46, v71, rfl, (by omega), (by omega), (by omega), (by omega), (by omega), (by omega), (by first | exact q_oe0 y0 y1 y2 y3 y4 y5 y6.1 y6.2.2.2.1 y6.2.2.2.2 y7 (by omega) | exact q_oe1 x52 e65 e68 (by omega) (by omega) (by omega)), i69, k70⟩, (by show (0 + (v71.toInt - (0)) * 1000000000000).toNat < (0 + (w49.toInt - (0)) * 1000000000000).toNat; omega)⟩
  ·
    have zm1 : (Int32.ofInt (-1)).toInt = -1 := by decide
    have z0 : (Int32.ofInt 0).toInt = 0 := by decide
    have z1 : (Int32.ofInt 1).toInt = 1 := by decide
    refine ⟨Nat.le_of_ble_eq_true rfl, [(47, [true, false, false, false, true, true, true], (fun L t => ∃ (x4 : Int32) (x5 : Int32) (x6 : Int32), L = [some (.ref 22), none, none, none, some (.int x4), some (.int x5), some (.int x6)] ∧ (0 : Int) ≤ x4.toInt ∧ x4.toInt ≤ (16 : Int) ∧ (-60000 : Int) ≤ x5.toInt ∧ x5.toInt ≤ (60000 : Int) ∧ (0 : Int) ≤ x6.toInt ∧ x6.toInt ≤ (3 : Int) ∧ (q_oeI s0 t 22 a1 a2 x4 x5 x6) ∧ Iv t ∧ Kp s0 t), (fun L _ => (0 + ((vg_li L 6).toInt - (0)) * 1000000000000).toNat))], ?_, List.forall_mem_cons.mpr ⟨?_, fun _ h => absurd h List.not_mem_nil⟩⟩
    ·
      refine And.intro (Nat.le_of_ble_eq_true rfl) (And.intro ⟨22, rfl, by decide, i0⟩ ?_)
      intro v1 s3 h2
      have h2 : s3 = s0 ∧ (v1 = q_shv (s0.1 23 1) (s0.1 24) ∧ -900000 ≤ v1.toInt ∧ v1.toInt ≤ 900000) := h2
      have q6 := h2.1.symm
      subst q6
      have q7 := h2.2
      have y0 := q7.1
      intro v8 e9
      have b10 := vg_add e9 (by omega) (by omega)
      have y1 := e9
      intro v11 e12
      have b13 := vg_add e12 (by omega) (by omega)
      have y2 := e12
      refine And.intro (Nat.le_of_ble_eq_true rfl) (And.intro ⟨23, v11, rfl, by decide, i0⟩ ?_)
      intro v14 s16 h15
      have h15 : s16 = s0 ∧ (0 ≤ v14.toInt ∧ v14.toInt ≤ 16 ∧ (-10000000 ≤ v11.toInt ∧ v11.toInt ≤ 10000000 → v14 = q_near (s0.1 23 2) (s0.1 23 3) v11)) := h15
      have q19 := h15.1.symm
      subst q19
      have q20 := h15.2
      have y3 := q20.2.2 (by omega)
      refine And.intro (Nat.le_of_ble_eq_true rfl) (And.intro ⟨23, v14, rfl, by decide, i0⟩ ?_)
      intro v21 s23 h22
      have h22 : s23 = s0 ∧ (v21 = q_val (s0.1 23 2) (s0.1 23 3) (v14 - q_bes (s0.1 23 0) (s0.1 23 1) (s0.1 23 3))) := h22
      have q26 := h22.1.symm
      subst q26
      have q27 := h22.2
      have y4 := q27
      intro v28 e29
      have y5 := e29
      refine And.intro (Nat.le_of_ble_eq_true rfl) (And.intro ⟨22, v28, rfl, by decide, i0⟩ ?_)
      intro v30 s32 h31
      have h31 : Iv s32 ∧ Kp s0 s32 ∧ (v30 = q_held (s0.1 23 4) v28 ∧ -60000 ≤ v30.toInt ∧ v30.toInt ≤ 60000 ∧ qk s0 s32 22 ∧ s32.1 22 7 = cond (q_ht v28 v30) (Int32.ofInt 1) (s0.1 22 7)) := h31
      have i33 := h31.1
      have k34 : Kp s0 s32 := Kx.tr Kx.rf (h31.2.1)
      have q35 := h31.2.2
      have y6 := q35
      intro v36 e37
      have g38 : s32.1 23 1 = v36 := by rw [e37]
      have b39 : (1 : Int) ≤ v36.toInt ∧ v36.toInt ≤ 4 := by rw [e37]; exact Iv_23_1 i33
      have y7 := e37
      intro v40 e41
      have b42 := vg_sub e41 (by omega) (by omega)
      exact ⟨rfl, ⟨v14, v30, v40, rfl, (by omega), (by omega), (by omega), (by omega), (by omega), (by omega), (by first | exact q_oe0 y0 y1 y2 y3 y4 y5 y6.1 y6.2.2.2.1 y6.2.2.2.2 y7 (by omega) | exact q_oe1 None None rfl (by omega) (by omega) (by omega)), i33, k34⟩, trivial⟩
    ·
      intro L s53 hL
      obtain ⟨w43, w46, w49, rfl, b44, b45, b47, b48, b50, b51, x52, i54, k55⟩ := hL
      refine And.intro (fun c56 => ?_) (fun c56 => ?_)
      · have c56 : w49.toInt ≤ 0 := c56
        refine And.intro ⟨by omega, by omega⟩ ?_
        intro s57 e58
        have i59 : Iv s57 := Iv.r1 (lo := -60000) (hi := 60000) i54 e58 rfl (by omega) (by omega)
        have k60 : Kp s0 s57 := Kx.u1 k55 e58 rfl
        show Iv s57 ∧ Kp s0 s57 ∧ (q_oy s0 s57 22 w43 (q_yE (q_plC s0 23) a1 a2 (s0.1 24) (s0.1 25)))
        exact ⟨i59, k60, (q_oe2 x52 e58 (by omega))⟩
      · have c56 : ¬ (w49.toInt ≤ 0) := c56
        intro v61 e62
        have b63 := vg_sub e62 (by omega) (by omega)
        refine And.intro ⟨by omega, by omega⟩ ?_
        intro v64 e65
        have b66 : (-60000 : Int) ≤ v64.toInt ∧ v64.toInt ≤ 60000 := by rw [e65]; exact Iv_r24 i54 (by omega) (by omega)
        refine And.intro ⟨by omega, by omega⟩ ?_
        intro s67 e68
        have i69 : Iv s67 := Iv.r1 (lo := -60000) (hi := 60000) i54 e68 rfl (by omega) (by omega)
        have k70 : Kp s0 s67 := Kx.u1 k55 e68 rfl
        intro v71 e72
        have b73 := vg_add e72 (by omega) (by omega)
        exact ⟨rfl, ⟨w43, w46, v71, rfl, (by omega), (by omega), (by omega), (by omega), (by omega), (by omega), (by first | exact q_oe0 y0 y1 y2 y3 y4 y5 y6.1 y6.2.2.2.1 y6.2.2.2.2 y7 (by omega) | exact q_oe1 x52 e65 e68 (by omega) (by omega) (by omega)), i69, k70⟩, (by show (0 + (v71.toInt - (0)) * 1000000000000).toNat < (0 + (w49.toInt - (0)) * 1000000000000).toNat; omega)⟩
def o_X5_outOf : List vg_I := [(0, .aload_n 0, 1, 0, 0, 0, 0), (1, .invokevirtual 111, 3, 0, 5, 0, 649), (4, .istore_n 2, 1, 0, 0, 0, 0), (5, .aload_n 0, 1, 0, 0, 0, 0), (6, .getfield 12, 3, 178, 5, 0, 0), (9, .getfield 108, 3, 141, 6, 0, 0), (12, .lookupswitch 42 #[(1, 28), (2, 35)], 28, 0, 0, 0, 0), (40, .aload_n 0, 1, 0, 0, 0, 0), (41, .iload_n 1, 1, 0, 0, 0, 0), (42, .iload_n 2, 1, 0, 0, 0, 0), (43, .invokevirtual 115, 3, 1, 5, 2, 657), (46, .ireturn, 1, 0, 0, 0, 0), (47, .aload_n 0, 1, 0, 0, 0, 0), (48, .iload_n 1, 1, 0, 0, 0, 0), (49, .iload_n 2, 1, 0, 0, 0, 0), (50, .invokevirtual 119, 3, 2, 5, 2, 681), (53, .ireturn, 1, 0, 0, 0, 0), (54, .aload_n 0, 1, 0, 0, 0, 0), (55, .iload_n 1, 1, 0, 0, 0, 0), (56, .iload_n 2, 1, 0, 0, 0, 0), (57, .invokevirtual 122, 3, 3, 5, 2, 697), (60, .ireturn, 1, 0, 0, 0, 0)]
set_option maxRecDepth 100000 in
set_option maxHeartbeats 4000000 in
theorem c_X5_outOf (l : Launch) (G : vg_G) (hp : vg_Hp G) : vg_Ct l G vg_sh r_X5_outOf := by
  refine vg_meth hp vg_sh_ok r_X5_outOf k_X5_outOf rfl (fun h => by cases h) o_X5_outOf [r_X5_drawDither, r_X5_outOfSums, r_X5_outOfCascade, r_X5_outOfErrors] false (by decide +kernel) (by decide +kernel) ⟨_, _, rfl, rfl⟩ (List.forall_mem_cons.mpr ⟨⟨c_X5_drawDither l G hp, Nat.le_of_ble_eq_true rfl, Nat.le_of_ble_eq_true rfl⟩, List.forall_mem_cons.mpr ⟨⟨c_X5_outOfSums l G hp, Nat.le_of_ble_eq_true rfl, Nat.le_of_ble_eq_true rfl⟩, List.forall_mem_cons.mpr ⟨⟨c_X5_outOfCascade l G hp, Nat.le_of_ble_eq_true rfl, Nat.le_of_ble_eq_true rfl⟩, List.forall_mem_cons.mpr ⟨⟨c_X5_outOfErrors l G hp, Nat.le_of_ble_eq_true rfl, Nat.le_of_ble_eq_true rfl⟩, fun _ h => absurd h List.not_mem_nil⟩⟩⟩⟩) (fun h => by cases h) 600 ?_
  intro as s0 hpre
  obtain ⟨r, a1, rfl, hr, i0, p0⟩ := hpre
  simp only [List.mem_cons, List.not_mem_nil, or_false] at hr
  rcases hr with rfl | rfl
  ·
    refine ⟨Nat.le_of_ble_eq_true rfl, [], ?_, fun _ h => absurd h List.not_mem_nil⟩
    ·
      refine And.intro (Nat.le_of_ble_eq_true rfl) (And.intro ⟨3, rfl, by decide, i0⟩ ?_)
      intro v1 s3 h2
      have h2 : Iv s3 ∧ Kp s0 s3 ∧ (((s0.1 4 6).toInt = 0 → v1 = Int32.ofInt 0) ∧ -15000 ≤ v1.toInt ∧ v1.toInt ≤ 15000 ∧ qk s0 s3 3 ∧ s3.1 3 7 = s0.1 3 7) := h2
      have i4 := h2.1
      have k5 : Kp s0 s3 := Kx.tr Kx.rf (h2.2.1)
      have q6 := h2.2.2
      have y0 := q6
      intro v7 e8
      have g9 : s3.1 4 0 = v7 := by rw [e8]
      have b10 : v7.toInt = (s3.1 4 0).toInt := congrArg Int32.toInt e8
      refine And.intro (fun c11 => ?_) (fun c11 => ?_)
      · have c11 : v7.toInt = (1) := c11
        have yK : (q_plC s3 4).1.toInt = 1 := (show (s3.1 4 0).toInt = 1 by omega)
        refine And.intro (Nat.le_of_ble_eq_true rfl) (And.intro ⟨3, a1, v1, rfl, by decide, i4, by omega⟩ ?_)
        intro v12 s14 h13
        have h13 : Iv s14 ∧ Kp s3 s14 ∧ (q_oy s3 s14 3 v12 (q_yS (q_plC s3 4) a1 v1 (s3.1 5) (s3.1 6) (s3.1 3 3))) := h13
        have i15 := h13.1
        have k16 : Kp s0 s14 := Kx.tr k5 (h13.2.1)
        have q17 := h13.2.2
        show Iv s14 ∧ Kp s0 s14 ∧ (s14.1 4 = s0.1 4 ∧ ((s0.1 4 6).toInt = 0 → q_oy s0 s14 3 v12 (q_yy (q_plC s0 4) a1 (Int32.ofInt 0) (s0.1 5) (s0.1 6) (s0.1 3 3))))
        exact ⟨i15, k16, (by first | exact q_of y0.1 y0.2.2.2.1 y0.2.2.2.2 q17 (q_yy1 yK) | exact q_of y0.1 y0.2.2.2.1 y0.2.2.2.2 q17 (q_yy2 yK) | exact q_of y0.1 y0.2.2.2.1 y0.2.2.2.2 q17 (q_yy0 yK yL))⟩
      have c11 : ¬ (v7.toInt = (1)) := c11
      refine And.intro (fun c18 => ?_) (fun c18 => ?_)
      · have c18 : v7.toInt = (2) := c18
        have yK : (q_plC s3 4).1.toInt = 2 := (show (s3.1 4 0).toInt = 2 by omega)
        refine And.intro (Nat.le_of_ble_eq_true rfl) (And.intro ⟨3, a1, v1, rfl, by decide, i4, by omega⟩ ?_)
        intro v19 s21 h20
        have h20 : Iv s21 ∧ Kp s3 s21 ∧ (q_oy s3 s21 3 v19 (q_yC (q_plC s3 4) a1 v1 (s3.1 5) (s3.1 6))) := h20
        have i22 := h20.1
        have k23 : Kp s0 s21 := Kx.tr k5 (h20.2.1)
        have q24 := h20.2.2
        show Iv s21 ∧ Kp s0 s21 ∧ (s21.1 4 = s0.1 4 ∧ ((s0.1 4 6).toInt = 0 → q_oy s0 s21 3 v19 (q_yy (q_plC s0 4) a1 (Int32.ofInt 0) (s0.1 5) (s0.1 6) (s0.1 3 3))))
        exact ⟨i22, k23, (by first | exact q_of y0.1 y0.2.2.2.1 y0.2.2.2.2 q24 (q_yy1 yK) | exact q_of y0.1 y0.2.2.2.1 y0.2.2.2.2 q24 (q_yy2 yK) | exact q_of y0.1 y0.2.2.2.1 y0.2.2.2.2 q24 (q_yy0 yK yL))⟩
      have c18 : ¬ (v7.toInt = (2)) := c18
      have yK : ¬ (q_plC s3 4).1.toInt = 1 := (show ¬ (s3.1 4 0).toInt = 1 by omega)
      have yL : ¬ (q_plC s3 4).1.toInt = 2 := (show ¬ (s3.1 4 0).toInt = 2 by omega)
      refine And.intro (Nat.le_of_ble_eq_true rfl) (And.intro ⟨3, a1, v1, rfl, by decide, i4, by omega⟩ ?_)
      intro v25 s27 h26
      have h26 : Iv s27 ∧ Kp s3 s27 ∧ (q_oy s3 s27 3 v25 (q_yE (q_plC s3 4) a1 v1 (s3.1 5) (s3.1 6))) := h26
      have i28 := h26.1
      have k29 : Kp s0 s27 := Kx.tr k5 (h26.2.1)
      have q30 := h26.2.2
      show Iv s27 ∧ Kp s0 s27 ∧ (s27.1 4 = s0.1 4 ∧ ((s0.1 4 6).toInt = 0 → q_oy s0 s27 3 v25 (q_yy (q_plC s0 4) a1 (Int32.ofInt 0) (s0.1 5) (s0.1 6) (s0.1 3 3))))
      exact ⟨i28, k29, (by first | exact q_of y0.1 y0.2.2.2.1 y0.2.2.2.2 q30 (q_yy1 yK) | exact q_of y0.1 y0.2.2.2.1 y0.2.2.2.2 q30 (q_yy2 yK) | exact q_of y0.1 y0.2.2.2.1 y0.2.2.2.2 q30 (q_yy0 yK yL))⟩
  ·
    refine ⟨Nat.le_of_ble_eq_true rfl, [], ?_, fun _ h => absurd h List.not_mem_nil⟩
    ·
      refine And.intro (Nat.le_of_ble_eq_true rfl) (And.intro ⟨22, rfl, by decide, i0⟩ ?_)
      intro v1 s3 h2
      have h2 : Iv s3 ∧ Kp s0 s3 ∧ (((s0.1 23 6).toInt = 0 → v1 = Int32.ofInt 0) ∧ -15000 ≤ v1.toInt ∧ v1.toInt ≤ 15000 ∧ qk s0 s3 22 ∧ s3.1 22 7 = s0.1 22 7) := h2
      have i4 := h2.1
      have k5 : Kp s0 s3 := Kx.tr Kx.rf (h2.2.1)
      have q6 := h2.2.2
      have y0 := q6
      intro v7 e8
      have g9 : s3.1 23 0 = v7 := by rw [e8]
      have b10 : v7.toInt = (s3.1 23 0).toInt := congrArg Int32.toInt e8
      refine And.intro (fun c11 => ?_) (fun c11 => ?_)
      · have c11 : v7.toInt = (1) := c11
        have yK : (q_plC s3 23).1.toInt = 1 := (show (s3.1 23 0).toInt = 1 by omega)
        refine And.intro (Nat.le_of_ble_eq_true rfl) (And.intro ⟨22, a1, v1, rfl, by decide, i4, by omega⟩ ?_)
        intro v12 s14 h13
        have h13 : Iv s14 ∧ Kp s3 s14 ∧ (q_oy s3 s14 22 v12 (q_yS (q_plC s3 23) a1 v1 (s3.1 24) (s3.1 25) (s3.1 22 3))) := h13
        have i15 := h13.1
        have k16 : Kp s0 s14 := Kx.tr k5 (h13.2.1)
        have q17 := h13.2.2
        show Iv s14 ∧ Kp s0 s14 ∧ (s14.1 23 = s0.1 23 ∧ ((s0.1 23 6).toInt = 0 → q_oy s0 s14 22 v12 (q_yy (q_plC s0 23) a1 (Int32.ofInt 0) (s0.1 24) (s0.1 25) (s0.1 22 3))))
        exact ⟨i15, k16, (by first | exact q_of y0.1 y0.2.2.2.1 y0.2.2.2.2 q17 (q_yy1 yK) | exact q_of y0.1 y0.2.2.2.1 y0.2.2.2.2 q17 (q_yy2 yK) | exact q_of y0.1 y0.2.2.2.1 y0.2.2.2.2 q17 (q_yy0 yK yL))⟩
      have c11 : ¬ (v7.toInt = (1)) := c11
      refine And.intro (fun c18 => ?_) (fun c18 => ?_)
      · have c18 : v7.toInt = (2) := c18
        have yK : (q_plC s3 23).1.toInt = 2 := (show (s3.1 23 0).toInt = 2 by omega)
        refine And.intro (Nat.le_of_ble_eq_true rfl) (And.intro ⟨22, a1, v1, rfl, by decide, i4, by omega⟩ ?_)
        intro v19 s21 h20
        have h20 : Iv s21 ∧ Kp s3 s21 ∧ (q_oy s3 s21 22 v19 (q_yC (q_plC s3 23) a1 v1 (s3.1 24) (s3.1 25))) := h20
        have i22 := h20.1
        have k23 : Kp s0 s21 := Kx.tr k5 (h20.2.1)
        have q24 := h20.2.2
        show Iv s21 ∧ Kp s0 s21 ∧ (s21.1 23 = s0.1 23 ∧ ((s0.1 23 6).toInt = 0 → q_oy s0 s21 22 v19 (q_yy (q_plC s0 23) a1 (Int32.ofInt 0) (s0.1 24) (s0.1 25) (s0.1 22 3))))
        exact ⟨i22, k23, (by first | exact q_of y0.1 y0.2.2.2.1 y0.2.2.2.2 q24 (q_yy1 yK) | exact q_of y0.1 y0.2.2.2.1 y0.2.2.2.2 q24 (q_yy2 yK) | exact q_of y0.1 y0.2.2.2.1 y0.2.2.2.2 q24 (q_yy0 yK yL))⟩
      have c18 : ¬ (v7.toInt = (2)) := c18
      have yK : ¬ (q_plC s3 23).1.toInt = 1 := (show ¬ (s3.1 23 0).toInt = 1 by omega)
      have yL : ¬ (q_plC s3 23).1.toInt = 2 := (show ¬ (s3.1 23 0).toInt = 2 by omega)
      refine And.intro (Nat.le_of_ble_eq_true rfl) (And.intro ⟨22, a1, v1, rfl, by decide, i4, by omega⟩ ?_)
      intro v25 s27 h26
      have h26 : Iv s27 ∧ Kp s3 s27 ∧ (q_oy s3 s27 22 v25 (q_yE (q_plC s3 23) a1 v1 (s3.1 24) (s3.1 25))) := h26
      have i28 := h26.1
      have k29 : Kp s0 s27 := Kx.tr k5 (h26.2.1)
      have q30 := h26.2.2
      show Iv s27 ∧ Kp s0 s27 ∧ (s27.1 23 = s0.1 23 ∧ ((s0.1 23 6).toInt = 0 → q_oy s0 s27 22 v25 (q_yy (q_plC s0 23) a1 (Int32.ofInt 0) (s0.1 24) (s0.1 25) (s0.1 22 3))))
      exact ⟨i28, k29, (by first | exact q_of y0.1 y0.2.2.2.1 y0.2.2.2.2 q30 (q_yy1 yK) | exact q_of y0.1 y0.2.2.2.1 y0.2.2.2.2 q30 (q_yy2 yK) | exact q_of y0.1 y0.2.2.2.1 y0.2.2.2.2 q30 (q_yy0 yK yL))⟩
def o_X5_advance : List vg_I := [(0, .aload_n 0, 1, 0, 0, 0, 0), (1, .iconst 0, 1, 0, 0, 0, 0), (2, .putfield 80, 3, 191, 5, 7, 1), (5, .aload_n 0, 1, 0, 0, 0, 0), (6, .iload_n 1, 1, 0, 0, 0, 0), (7, .invokevirtual 84, 3, 0, 5, 1, 645), (10, .istore_n 2, 1, 0, 0, 0, 0), (11, .aload_n 0, 1, 0, 0, 0, 0), (12, .aload_n 0, 1, 0, 0, 0, 0), (13, .getfield 12, 3, 178, 5, 0, 0), (16, .iload_n 2, 1, 0, 0, 0, 0), (17, .invokevirtual 88, 3, 1, 6, 1, 705), (20, .putfield 29, 3, 183, 5, 3, 0), (23, .aload_n 0, 1, 0, 0, 0, 0), (24, .getfield 80, 3, 191, 5, 7, 0), (27, .ifCond .eq 31, 3, 0, 0, 0, 0), (30, .aload_n 0, 1, 0, 0, 0, 0), (31, .dup, 1, 0, 0, 0, 0), (32, .getfield 42, 3, 189, 5, 6, 0), (35, .iconst 1, 1, 0, 0, 0, 0), (36, .iadd, 1, 0, 0, 0, 0), (37, .putfield 42, 3, 189, 5, 6, 0), (40, .aload_n 0, 1, 0, 0, 0, 0), (41, .getfield 12, 3, 178, 5, 0, 0), (44, .getfield 91, 3, 154, 6, 5, 0), (47, .ifCond .eq 11, 3, 0, 0, 0, 0), (50, .aload_n 0, 1, 0, 0, 0, 0), (51, .getfield 16, 3, 180, 5, 1, 0), (54, .iconst 0, 1, 0, 0, 0, 0), (55, .invokestatic 23, 3, 2, 1, 2, 500), (58, .aload_n 0, 1, 0, 0, 0, 0), (59, .dup, 1, 0, 0, 0, 0), (60, .getfield 48, 3, 194, 5, 9, 0), (63, .iload_n 1, 1, 0, 0, 0, 0), (64, .i2l, 1, 0, 0, 0, 0), (65, .ladd, 1, 0, 0, 0, 0), (66, .putfield 48, 3, 194, 5, 9, 2), (69, .aload_n 0, 1, 0, 0, 0, 0), (70, .dup, 1, 0, 0, 0, 0), (71, .getfield 52, 3, 196, 5, 10, 0), (74, .aload_n 0, 1, 0, 0, 0, 0), (75, .getfield 29, 3, 183, 5, 3, 0), (78, .i2l, 1, 0, 0, 0, 0), (79, .ladd, 1, 0, 0, 0, 0), (80, .putfield 52, 3, 196, 5, 10, 2), (83, .aload_n 0, 1, 0, 0, 0, 0), (84, .dup, 1, 0, 0, 0, 0), (85, .getfield 55, 3, 198, 5, 11, 0), (88, .iload_n 2, 1, 0, 0, 0, 0), (89, .i2l, 1, 0, 0, 0, 0), (90, .ladd, 1, 0, 0, 0, 0), (91, .putfield 55, 3, 198, 5, 11, 2), (94, .aload_n 0, 1, 0, 0, 0, 0), (95, .aload_n 0, 1, 0, 0, 0, 0), (96, .getfield 61, 3, 202, 5, 13, 0), (99, .aload_n 0, 1, 0, 0, 0, 0), (100, .invokevirtual 94, 3, 3, 5, 0, 711), (103, .invokestatic 98, 3, 4, 1, 1, 715), (106, .invokestatic 104, 3, 5, 1, 2, 718), (109, .putfield 61, 3, 202, 5, 13, 2), (112, .iload_n 2, 1, 0, 0, 0, 0), (113, .ireturn, 1, 0, 0, 0, 0)]
set_option maxRecDepth 100000 in
set_option maxHeartbeats 4000000 in
theorem c_X5_advance (l : Launch) (G : vg_G) (hp : vg_Hp G) : vg_Ct l G vg_sh r_X5_advance := by
  refine vg_meth hp vg_sh_ok r_X5_advance k_X5_advance rfl (fun h => by cases h) o_X5_advance [r_X5_outOf, r_X6_valueOf, r_J7_fill_53178_atL, r_X5_gapNow, r_J9_abs_067f4, r_J9_max_f86c9] false (by decide +kernel) (by decide +kernel) ⟨_, _, rfl, rfl⟩ (List.forall_mem_cons.mpr ⟨⟨c_X5_outOf l G hp, Nat.le_of_ble_eq_true rfl, Nat.le_of_ble_eq_true rfl⟩, List.forall_mem_cons.mpr ⟨⟨c_X6_valueOf l G hp, Nat.le_of_ble_eq_true rfl, Nat.le_of_ble_eq_true rfl⟩, List.forall_mem_cons.mpr ⟨⟨c_J7_fill_53178_atL l G hp, Nat.le_of_ble_eq_true rfl, Nat.le_of_ble_eq_true rfl⟩, List.forall_mem_cons.mpr ⟨⟨c_X5_gapNow l G hp, Nat.le_of_ble_eq_true rfl, Nat.le_of_ble_eq_true rfl⟩, List.forall_mem_cons.mpr ⟨⟨c_J9_abs_067f4 l G hp, Nat.le_of_ble_eq_true rfl, Nat.le_of_ble_eq_true rfl⟩, List.forall_mem_cons.mpr ⟨⟨c_J9_max_f86c9 l G hp, Nat.le_of_ble_eq_true rfl, Nat.le_of_ble_eq_true rfl⟩, fun _ h => absurd h List.not_mem_nil⟩⟩⟩⟩⟩⟩) (fun h => by cases h) 600 ?_
  intro as s0 hpre
  obtain ⟨r, a1, rfl, hr, i0, p0⟩ := hpre
  simp only [List.mem_cons, List.not_mem_nil, or_false] at hr
  rcases hr with rfl | rfl
  ·
    have z0 : (Int32.ofInt 0).toInt = 0 := by decide
    have z1 : (Int32.ofInt 1).toInt = 1 := by decide
    refine ⟨Nat.le_of_ble_eq_true rfl, [], ?_, fun _ h => absurd h List.not_mem_nil⟩
    ·
      refine And.intro (by first | exact Or.inl rfl | exact Or.inr rfl | exact vg_01 (by omega) (by omega)) ?_
      intro s1 e2
      have i3 : Iv s1 := Iv.u1 i0 e2 rfl
      have k4 : Kp s0 s1 := Kx.u1 Kx.rf e2 rfl
      have y0 := e2
      refine And.intro (Nat.le_of_ble_eq_true rfl) (And.intro ⟨3, a1, rfl, by decide, i3, by omega⟩ ?_)
      intro v5 s7 h6
      have h6 : Iv s7 ∧ Kp s1 s7 ∧ (s7.1 4 = s1.1 4 ∧ ((s1.1 4 6).toInt = 0 → q_oy s1 s7 3 v5 (q_yy (q_plC s1 4) a1 (Int32.ofInt 0) (s1.1 5) (s1.1 6) (s1.1 3 3)))) := h6
      have i8 := h6.1
      have k9 : Kp s0 s7 := Kx.tr k4 (h6.2.1)
      have q10 := h6.2.2
      have y1 := q10
      refine And.intro (Nat.le_of_ble_eq_true rfl) (And.intro ⟨4, v5, rfl, by decide, i8⟩ ?_)
      intro v11 s13 h12
      have h12 : s13 = s7 ∧ (v11 = q_val (s7.1 4 2) (s7.1 4 3) (v5 - q_bes (s7.1 4 0) (s7.1 4 1) (s7.1 4 3))) := h12
      have q16 := h12.1.symm
      subst q16
      have q17 := h12.2
      have y2 := q17
      intro s18 e19
      have i20 : Iv s18 := Iv.u1 i8 e19 rfl
      have k21 : Kp s0 s18 := Kx.u1 k9 e19 rfl
      have y3 := e19
      intro v22 e23
      have g24 : s7.1 3 7 = v22 := by rw [e23, e19, vg_u1_at (a := 3) (b := 7) (k := 3) (i := 3) (by decide)]
      have yv : q_av s0 s18 3 a1 v5 v22 := q_av0 y0 y1 y2 y3 e23
      refine And.intro (fun c25 => ?_) (fun c25 => ?_)
      · have c25 : v22.toInt = 0 := c25
        have y7 := q17
        intro v26 e27
        intro v28 e29
        have b30 := vg_i2l e29
        intro v31 e32
        intro s33 e34
        have i35 : Iv s33 := Iv.u2 i20 e34
        have k36 : Kp s0 s33 := Kx.u2 k21 e34 (vg_kq_no ⟨rfl, rfl, rfl⟩ rfl).1
        intro v37 e38
        intro v39 e40
        have w41 : v11 = v39 := by rw [e40, e34, vg_u2_1, e19]; exact vg_u1_self.symm
        subst w41
        intro v42 e43
        intro v44 e45
        intro s46 e47
        have i48 : Iv s46 := Iv.u2 i35 e47
        have k49 : Kp s0 s46 := Kx.u2 k36 e47 (vg_kq_no ⟨rfl, rfl, rfl⟩ rfl).1
        intro v50 e51
        intro v52 e53
        intro v54 e55
        intro s56 e57
        have i58 : Iv s56 := Iv.u2 i48 e57
        have k59 : Kp s0 s56 := Kx.u2 k49 e57 (vg_kq_no ⟨rfl, rfl, rfl⟩ rfl).1
        intro v60 e61
        refine And.intro (Nat.le_of_ble_eq_true rfl) (And.intro ⟨3, rfl, by decide, i58⟩ ?_)
        intro v62 s64 h63
        have h63 : s64 = s56 ∧ (True) := h63
        have q67 := h63.1.symm
        subst q67
        refine And.intro (Nat.le_of_ble_eq_true rfl) (And.intro ⟨v62, rfl, trivial⟩ ?_)
        intro v68 s70 h69
        have h69 : s70 = s56 ∧ (True) := h69
        have q73 := h69.1.symm
        subst q73
        refine And.intro (Nat.le_of_ble_eq_true rfl) (And.intro ⟨v60, v68, rfl, trivial⟩ ?_)
        intro v74 s76 h75
        have h75 : s76 = s56 ∧ (True) := h75
        have q79 := h75.1.symm
        subst q79
        intro s80 e81
        have i82 : Iv s80 := Iv.u2 i58 e81
        have k83 : Kp s0 s80 := Kx.u2 k59 e81 (vg_kq_no ⟨rfl, rfl, rfl⟩ rfl).1
        show Iv s80 ∧ Kp s0 s80 ∧ (q_ad s0 s80 3 a1 v5)
        exact ⟨i82, k83, (by first | exact q_ad0 yv (q_u4 e34 e47 e57 e81) (by omega) | exact q_ad1 yv y5 y6 (q_u4 e34 e47 e57 e81) (by omega) | exact q_ad2 yv (by omega) y5 y6 y7 rfl rfl rfl (q_u4 e34 e47 e57 e81) (by omega))⟩
      · have c25 : ¬ (v22.toInt = 0) := c25
        intro v84 e85
        have g86 : s7.1 3 6 = v84 := by rw [e85, e19, vg_u1_at (a := 3) (b := 6) (k := 3) (i := 3) (by decide)]
        intro v87 e88
        intro s89 e90
        have i91 : Iv s89 := Iv.u1 i20 e90 rfl
        have k92 : Kp s0 s89 := Kx.u1 k21 e90 rfl
        have y5 := e90
        intro v93 e94
        have g95 : s7.1 4 5 = v93 := by rw [e94, e90, vg_u1_ne (a := 4) (k := 3) (by decide), e19, vg_u1_ne (a := 4) (k := 3) (by decide)]
        have b96 : (0 : Int) ≤ v93.toInt ∧ v93.toInt ≤ 1 := by rw [e94]; exact Iv_4_5 i91
        have y6 := e94
        refine And.intro (fun c97 => ?_) (fun c97 => ?_)
        · have c97 : v93.toInt = 0 := c97
          have y7 := q17
          intro v98 e99
          intro v100 e101
          have b102 := vg_i2l e101
          intro v103 e104
          intro s105 e106
          have i107 : Iv s105 := Iv.u2 i91 e106
          have k108 : Kp s0 s105 := Kx.u2 k92 e106 (vg_kq_no ⟨rfl, rfl, rfl⟩ rfl).1
          intro v109 e110
          intro v111 e112
          have w113 : v11 = v111 := by rw [e112, e106, vg_u2_1, e90, vg_u1_at (a := 3) (b := 3) (k := 3) (i := 6) (by decide), e19]; exact vg_u1_self.symm
          subst w113
          intro v114 e115
          intro v116 e117
          intro s118 e119
          have i120 : Iv s118 := Iv.u2 i107 e119
          have k121 : Kp s0 s118 := Kx.u2 k108 e119 (vg_kq_no ⟨rfl, rfl, rfl⟩ rfl).1
          intro v122 e123
          intro v124 e125
          intro v126 e127
          intro s128 e129
          have i130 : Iv s128 := Iv.u2 i120 e129
          have k131 : Kp s0 s128 := Kx.u2 k121 e129 (vg_kq_no ⟨rfl, rfl, rfl⟩ rfl).1
          intro v132 e133
          refine And.intro (Nat.le_of_ble_eq_true rfl) (And.intro ⟨3, rfl, by decide, i130⟩ ?_)
          intro v134 s136 h135
          have h135 : s136 = s128 ∧ (True) := h135
          have q139 := h135.1.symm
          subst q139
          refine And.intro (Nat.le_of_ble_eq_true rfl) (And.intro ⟨v134, rfl, trivial⟩ ?_)
          intro v140 s142 h141
          have h141 : s142 = s128 ∧ (True) := h141
          have q145 := h141.1.symm
          subst q145
          refine And.intro (Nat.le_of_ble_eq_true rfl) (And.intro ⟨v132, v140, rfl, trivial⟩ ?_)
          intro v146 s148 h147
          have h147 : s148 = s128 ∧ (True) := h147
          have q151 := h147.1.symm
          subst q151
          intro s152 e153
          have i154 : Iv s152 := Iv.u2 i130 e153
          have k155 : Kp s0 s152 := Kx.u2 k131 e153 (vg_kq_no ⟨rfl, rfl, rfl⟩ rfl).1
          show Iv s152 ∧ Kp s0 s152 ∧ (q_ad s0 s152 3 a1 v5)
          exact ⟨i154, k155, (by first | exact q_ad0 yv (q_u4 e106 e119 e129 e153) (by omega) | exact q_ad1 yv y5 y6 (q_u4 e106 e119 e129 e153) (by omega) | exact q_ad2 yv (by omega) y5 y6 y7 rfl rfl rfl (q_u4 e106 e119 e129 e153) (by omega))⟩
        · have c97 : ¬ (v93.toInt = 0) := c97
          refine And.intro (Nat.le_of_ble_eq_true rfl) (And.intro ⟨5, (Int32.ofInt 0), rfl, by decide, i91, by omega⟩ ?_)
          intro s157 h156
          have h156 : Iv s157 ∧ Kp s89 s157 ∧ ((∀ j : Nat, s157.1 5 j = if j < q_len 5 then (Int32.ofInt 0) else s89.1 5 j) ∧ ∀ m, m ≠ 5 → s157.1 m = s89.1 m) := h156
          have i158 := h156.1
          have k159 : Kp s0 s157 := Kx.tr k92 (h156.2.1)
          have q160 := h156.2.2
          have y7 := q160
          intro v161 e162
          intro v163 e164
          have b165 := vg_i2l e164
          intro v166 e167
          intro s168 e169
          have i170 : Iv s168 := Iv.u2 i158 e169
          have k171 : Kp s0 s168 := Kx.u2 k159 e169 (vg_kq_no ⟨rfl, rfl, rfl⟩ rfl).1
          intro v172 e173
          intro v174 e175
          have g176 : s157.1 3 3 = v174 := by rw [e175, e169, vg_u2_1]
          intro v177 e178
          intro v179 e180
          intro s181 e182
          have i183 : Iv s181 := Iv.u2 i170 e182
          have k184 : Kp s0 s181 := Kx.u2 k171 e182 (vg_kq_no ⟨rfl, rfl, rfl⟩ rfl).1
          intro v185 e186
          intro v187 e188
          intro v189 e190
          intro s191 e192
          have i193 : Iv s191 := Iv.u2 i183 e192
          have k194 : Kp s0 s191 := Kx.u2 k184 e192 (vg_kq_no ⟨rfl, rfl, rfl⟩ rfl).1
          intro v195 e196
          refine And.intro (Nat.le_of_ble_eq_true rfl) (And.intro ⟨3, rfl, by decide, i193⟩ ?_)
          intro v197 s199 h198
          have h198 : s199 = s191 ∧ (True) := h198
          have q202 := h198.1.symm
          subst q202
          refine And.intro (Nat.le_of_ble_eq_true rfl) (And.intro ⟨v197, rfl, trivial⟩ ?_)
          intro v203 s205 h204
          have h204 : s205 = s191 ∧ (True) := h204
          have q208 := h204.1.symm
          subst q208
          refine And.intro (Nat.le_of_ble_eq_true rfl) (And.intro ⟨v195, v203, rfl, trivial⟩ ?_)
          intro v209 s211 h210
          have h210 : s211 = s191 ∧ (True) := h210
          have q214 := h210.1.symm
          subst q214
          intro s215 e216
          have i217 : Iv s215 := Iv.u2 i193 e216
          have k218 : Kp s0 s215 := Kx.u2 k194 e216 (vg_kq_no ⟨rfl, rfl, rfl⟩ rfl).1
          show Iv s215 ∧ Kp s0 s215 ∧ (q_ad s0 s215 3 a1 v5)
          exact ⟨i217, k218, (by first | exact q_ad0 yv (q_u4 e169 e182 e192 e216) (by omega) | exact q_ad1 yv y5 y6 (q_u4 e169 e182 e192 e216) (by omega) | exact q_ad2 yv (by omega) y5 y6 y7 rfl rfl rfl (q_u4 e169 e182 e192 e216) (by omega))⟩
  ·
    have z0 : (Int32.ofInt 0).toInt = 0 := by decide
    have z1 : (Int32.ofInt 1).toInt = 1 := by decide
    refine ⟨Nat.le_of_ble_eq_true rfl, [], ?_, fun _ h => absurd h List.not_mem_nil⟩
    ·
      refine And.intro (by first | exact Or.inl rfl | exact Or.inr rfl | exact vg_01 (by omega) (by omega)) ?_
      intro s1 e2
      have i3 : Iv s1 := Iv.u1 i0 e2 rfl
      have k4 : Kp s0 s1 := Kx.u1 Kx.rf e2 rfl
      have y0 := e2
      refine And.intro (Nat.le_of_ble_eq_true rfl) (And.intro ⟨22, a1, rfl, by decide, i3, by omega⟩ ?_)
      intro v5 s7 h6
      have h6 : Iv s7 ∧ Kp s1 s7 ∧ (s7.1 23 = s1.1 23 ∧ ((s1.1 23 6).toInt = 0 → q_oy s1 s7 22 v5 (q_yy (q_plC s1 23) a1 (Int32.ofInt 0) (s1.1 24) (s1.1 25) (s1.1 22 3)))) := h6
      have i8 := h6.1
      have k9 : Kp s0 s7 := Kx.tr k4 (h6.2.1)
      have q10 := h6.2.2
      have y1 := q10
      refine And.intro (Nat.le_of_ble_eq_true rfl) (And.intro ⟨23, v5, rfl, by decide, i8⟩ ?_)
      intro v11 s13 h12
      have h12 : s13 = s7 ∧ (v11 = q_val (s7.1 23 2) (s7.1 23 3) (v5 - q_bes (s7.1 23 0) (s7.1 23 1) (s7.1 23 3))) := h12
      have q16 := h12.1.symm
      subst q16
      have q17 := h12.2
      have y2 := q17
      intro s18 e19
      have i20 : Iv s18 := Iv.u1 i8 e19 rfl
      have k21 : Kp s0 s18 := Kx.u1 k9 e19 rfl
      have y3 := e19
      intro v22 e23
      have g24 : s7.1 22 7 = v22 := by rw [e23, e19, vg_u1_at (a := 22) (b := 7) (k := 22) (i := 3) (by decide)]
      have yv : q_av s0 s18 22 a1 v5 v22 := q_av0 y0 y1 y2 y3 e23
      refine And.intro (fun c25 => ?_) (fun c25 => ?_)
      · have c25 : v22.toInt = 0 := c25
        have y7 := q17
        intro v26 e27
        intro v28 e29
        have b30 := vg_i2l e29
        intro v31 e32
        intro s33 e34
        have i35 : Iv s33 := Iv.u2 i20 e34
        have k36 : Kp s0 s33 := Kx.u2 k21 e34 (vg_kq_no ⟨rfl, rfl, rfl⟩ rfl).1
        intro v37 e38
        intro v39 e40
        have w41 : v11 = v39 := by rw [e40, e34, vg_u2_1, e19]; exact vg_u1_self.symm
        subst w41
        intro v42 e43
        intro v44 e45
        intro s46 e47
        have i48 : Iv s46 := Iv.u2 i35 e47
        have k49 : Kp s0 s46 := Kx.u2 k36 e47 (vg_kq_no ⟨rfl, rfl, rfl⟩ rfl).1
        intro v50 e51
        intro v52 e53
        intro v54 e55
        intro s56 e57
        have i58 : Iv s56 := Iv.u2 i48 e57
        have k59 : Kp s0 s56 := Kx.u2 k49 e57 (vg_kq_no ⟨rfl, rfl, rfl⟩ rfl).1
        intro v60 e61
        refine And.intro (Nat.le_of_ble_eq_true rfl) (And.intro ⟨22, rfl, by decide, i58⟩ ?_)
        intro v62 s64 h63
        have h63 : s64 = s56 ∧ (True) := h63
        have q67 := h63.1.symm
        subst q67
        refine And.intro (Nat.le_of_ble_eq_true rfl) (And.intro ⟨v62, rfl, trivial⟩ ?_)
        intro v68 s70 h69
        have h69 : s70 = s56 ∧ (True) := h69
        have q73 := h69.1.symm
        subst q73
        refine And.intro (Nat.le_of_ble_eq_true rfl) (And.intro ⟨v60, v68, rfl, trivial⟩ ?_)
        intro v74 s76 h75
        have h75 : s76 = s56 ∧ (True) := h75
        have q79 := h75.1.symm
        subst q79
        intro s80 e81
        have i82 : Iv s80 := Iv.u2 i58 e81
        have k83 : Kp s0 s80 := Kx.u2 k59 e81 (vg_kq_no ⟨rfl, rfl, rfl⟩ rfl).1
        show Iv s80 ∧ Kp s0 s80 ∧ (q_ad s0 s80 22 a1 v5)
        exact ⟨i82, k83, (by first | exact q_ad0 yv (q_u4 e34 e47 e57 e81) (by omega) | exact q_ad1 yv y5 y6 (q_u4 e34 e47 e57 e81) (by omega) | exact q_ad2 yv (by omega) y5 y6 y7 rfl rfl rfl (q_u4 e34 e47 e57 e81) (by omega))⟩
      · have c25 : ¬ (v22.toInt = 0) := c25
        intro v84 e85
        have g86 : s7.1 22 6 = v84 := by rw [e85, e19, vg_u1_at (a := 22) (b := 6) (k := 22) (i := 3) (by decide)]
        intro v87 e88
        intro s89 e90
        have i91 : Iv s89 := Iv.u1 i20 e90 rfl
        have k92 : Kp s0 s89 := Kx.u1 k21 e90 rfl
        have y5 := e90
        intro v93 e94
        have g95 : s7.1 23 5 = v93 := by rw [e94, e90, vg_u1_ne (a := 23) (k := 22) (by decide), e19, vg_u1_ne (a := 23) (k := 22) (by decide)]
        have b96 : (0 : Int) ≤ v93.toInt ∧ v93.toInt ≤ 1 := by rw [e94]; exact Iv_23_5 i91
        have y6 := e94
        refine And.intro (fun c97 => ?_) (fun c97 => ?_)
        · have c97 : v93.toInt = 0 := c97
          have y7 := q17
          intro v98 e99
          intro v100 e101
          have b102 := vg_i2l e101
          intro v103 e104
          intro s105 e106
          have i107 : Iv s105 := Iv.u2 i91 e106
          have k108 : Kp s0 s105 := Kx.u2 k92 e106 (vg_kq_no ⟨rfl, rfl, rfl⟩ rfl).1
          intro v109 e110
          intro v111 e112
          have w113 : v11 = v111 := by rw [e112, e106, vg_u2_1, e90, vg_u1_at (a := 22) (b := 3) (k := 22) (i := 6) (by decide), e19]; exact vg_u1_self.symm
          subst w113
          intro v114 e115
          intro v116 e117
          intro s118 e119
          have i120 : Iv s118 := Iv.u2 i107 e119
          have k121 : Kp s0 s118 := Kx.u2 k108 e119 (vg_kq_no ⟨rfl, rfl, rfl⟩ rfl).1
          intro v122 e123
          intro v124 e125
          intro v126 e127
          intro s128 e129
          have i130 : Iv s128 := Iv.u2 i120 e129
          have k131 : Kp s0 s128 := Kx.u2 k121 e129 (vg_kq_no ⟨rfl, rfl, rfl⟩ rfl).1
          intro v132 e133
          refine And.intro (Nat.le_of_ble_eq_true rfl) (And.intro ⟨22, rfl, by decide, i130⟩ ?_)
          intro v134 s136 h135
          have h135 : s136 = s128 ∧ (True) := h135
          have q139 := h135.1.symm
          subst q139
          refine And.intro (Nat.le_of_ble_eq_true rfl) (And.intro ⟨v134, rfl, trivial⟩ ?_)
          intro v140 s142 h141
          have h141 : s142 = s128 ∧ (True) := h141
          have q145 := h141.1.symm
          subst q145
          refine And.intro (Nat.le_of_ble_eq_true rfl) (And.intro ⟨v132, v140, rfl, trivial⟩ ?_)
          intro v146 s148 h147
          have h147 : s148 = s128 ∧ (True) := h147
          have q151 := h147.1.symm
          subst q151
          intro s152 e153
          have i154 : Iv s152 := Iv.u2 i130 e153
          have k155 : Kp s0 s152 := Kx.u2 k131 e153 (vg_kq_no ⟨rfl, rfl, rfl⟩ rfl).1
          show Iv s152 ∧ Kp s0 s152 ∧ (q_ad s0 s152 22 a1 v5)
          exact ⟨i154, k155, (by first | exact q_ad0 yv (q_u4 e106 e119 e129 e153) (by omega) | exact q_ad1 yv y5 y6 (q_u4 e106 e119 e129 e153) (by omega) | exact q_ad2 yv (by omega) y5 y6 y7 rfl rfl rfl (q_u4 e106 e119 e129 e153) (by omega))⟩
        · have c97 : ¬ (v93.toInt = 0) := c97
          refine And.intro (Nat.le_of_ble_eq_true rfl) (And.intro ⟨24, (Int32.ofInt 0), rfl, by decide, i91, by omega⟩ ?_)
          intro s157 h156
          have h156 : Iv s157 ∧ Kp s89 s157 ∧ ((∀ j : Nat, s157.1 24 j = if j < q_len 24 then (Int32.ofInt 0) else s89.1 24 j) ∧ ∀ m, m ≠ 24 → s157.1 m = s89.1 m) := h156
          have i158 := h156.1
          have k159 : Kp s0 s157 := Kx.tr k92 (h156.2.1)
          have q160 := h156.2.2
          have y7 := q160
          intro v161 e162
          intro v163 e164
          have b165 := vg_i2l e164
          intro v166 e167
          intro s168 e169
          have i170 : Iv s168 := Iv.u2 i158 e169
          have k171 : Kp s0 s168 := Kx.u2 k159 e169 (vg_kq_no ⟨rfl, rfl, rfl⟩ rfl).1
          intro v172 e173
          intro v174 e175
          have g176 : s157.1 22 3 = v174 := by rw [e175, e169, vg_u2_1]
          intro v177 e178
          intro v179 e180
          intro s181 e182
          have i183 : Iv s181 := Iv.u2 i170 e182
          have k184 : Kp s0 s181 := Kx.u2 k171 e182 (vg_kq_no ⟨rfl, rfl, rfl⟩ rfl).1
          intro v185 e186
          intro v187 e188
          intro v189 e190
          intro s191 e192
          have i193 : Iv s191 := Iv.u2 i183 e192
          have k194 : Kp s0 s191 := Kx.u2 k184 e192 (vg_kq_no ⟨rfl, rfl, rfl⟩ rfl).1
          intro v195 e196
          refine And.intro (Nat.le_of_ble_eq_true rfl) (And.intro ⟨22, rfl, by decide, i193⟩ ?_)
          intro v197 s199 h198
          have h198 : s199 = s191 ∧ (True) := h198
          have q202 := h198.1.symm
          subst q202
          refine And.intro (Nat.le_of_ble_eq_true rfl) (And.intro ⟨v197, rfl, trivial⟩ ?_)
          intro v203 s205 h204
          have h204 : s205 = s191 ∧ (True) := h204
          have q208 := h204.1.symm
          subst q208
          refine And.intro (Nat.le_of_ble_eq_true rfl) (And.intro ⟨v195, v203, rfl, trivial⟩ ?_)
          intro v209 s211 h210
          have h210 : s211 = s191 ∧ (True) := h210
          have q214 := h210.1.symm
          subst q214
          intro s215 e216
          have i217 : Iv s215 := Iv.u2 i193 e216
          have k218 : Kp s0 s215 := Kx.u2 k194 e216 (vg_kq_no ⟨rfl, rfl, rfl⟩ rfl).1
          show Iv s215 ∧ Kp s0 s215 ∧ (q_ad s0 s215 22 a1 v5)
          exact ⟨i217, k218, (by first | exact q_ad0 yv (q_u4 e169 e182 e192 e216) (by omega) | exact q_ad1 yv y5 y6 (q_u4 e169 e182 e192 e216) (by omega) | exact q_ad2 yv (by omega) y5 y6 y7 rfl rfl rfl (q_u4 e169 e182 e192 e216) (by omega))⟩
def o_X5_writeWords : List vg_I := [(0, .iload_n 2, 1, 0, 0, 0, 0), (1, .ifCond .lt 12, 3, 0, 0, 0, 0), (4, .iload_n 2, 1, 0, 0, 0, 0), (5, .bipush 10, 2, 0, 0, 0, 0), (7, .iadd, 1, 0, 0, 0, 0), (8, .aload_n 1, 1, 0, 0, 0, 0), (9, .arraylength, 1, 0, 0, 0, 0), (10, .if_icmp .le 4, 3, 0, 0, 0, 0), (13, .return_, 1, 0, 0, 0, 0), (14, .aload_n 0, 1, 0, 0, 0, 0), (15, .getfield 16, 3, 180, 5, 1, 0), (18, .iconst 0, 1, 0, 0, 0, 0), (19, .aload_n 1, 1, 0, 0, 0, 0), (20, .iload_n 2, 1, 0, 0, 0, 0), (21, .iconst 4, 1, 0, 0, 0, 0), (22, .invokestatic 74, 3, 0, 3, 0, 966), (25, .aload_n 0, 1, 0, 0, 0, 0), (26, .getfield 20, 3, 182, 5, 2, 0), (29, .iconst 0, 1, 0, 0, 0, 0), (30, .aload_n 1, 1, 0, 0, 0, 0), (31, .iload_n 2, 1, 0, 0, 0, 0), (32, .iconst 4, 1, 0, 0, 0, 0), (33, .iadd, 1, 0, 0, 0, 0), (34, .bipush 6, 2, 0, 0, 0, 0), (36, .invokestatic 74, 3, 0, 3, 0, 966), (39, .aload_n 0, 1, 0, 0, 0, 0), (40, .getfield 12, 3, 178, 5, 0, 0), (43, .getfield 108, 3, 141, 6, 0, 0), (46, .iconst 1, 1, 0, 0, 0, 0), (47, .if_icmp .ne 12, 3, 0, 0, 0, 0), (50, .aload_n 1, 1, 0, 0, 0, 0), (51, .iload_n 2, 1, 0, 0, 0, 0), (52, .iconst 4, 1, 0, 0, 0, 0), (53, .iadd, 1, 0, 0, 0, 0), (54, .aload_n 0, 1, 0, 0, 0, 0), (55, .getfield 29, 3, 183, 5, 3, 0), (58, .iastore, 1, 0, 0, 0, 0), (59, .return_, 1, 0, 0, 0, 0)]
set_option maxRecDepth 100000 in
set_option maxHeartbeats 4000000 in
theorem c_X5_writeWords (l : Launch) (G : vg_G) (hp : vg_Hp G) : vg_Ct l G vg_sh r_X5_writeWords := by
  refine vg_meth hp vg_sh_ok r_X5_writeWords k_X5_writeWords rfl (fun h => by cases h) o_X5_writeWords [] true (by decide +kernel) (by decide +kernel) ⟨_, _, rfl, rfl⟩ (fun _ h => absurd h List.not_mem_nil) (fun _ => ⟨⟨Nat.le_of_ble_eq_true rfl, Nat.le_of_ble_eq_true rfl⟩, vg_cpw_in⟩) 600 ?_
  intro as s0 hpre
  obtain ⟨r, a1, a2, rfl, hr, ha1, i0, p0⟩ := hpre
  simp only [List.mem_cons, List.not_mem_nil, or_false] at hr
  rcases hr with rfl
  ·
    simp only [List.mem_cons, List.not_mem_nil, or_false] at ha1
    rcases ha1 with rfl
    ·
      have z0 : (Int32.ofInt 0).toInt = 0 := by decide
      have z1 : (Int32.ofInt 1).toInt = 1 := by decide
      have z4 : (Int32.ofInt 4).toInt = 4 := by decide
      have z6 : (Int32.ofInt 6).toInt = 6 := by decide
      have z10 : (Int32.ofInt 10).toInt = 10 := by decide
      have n10010 : (Int32.ofNat 10010).toInt = 10010 := by decide
      refine ⟨Nat.le_of_ble_eq_true rfl, [], ?_, fun _ h => absurd h List.not_mem_nil⟩
      ·
        refine And.intro (fun c1 => ?_) (fun c1 => ?_)
        · have c1 : a2.toInt < 0 := c1
          exfalso
          omega
        · have c1 : ¬ (a2.toInt < 0) := c1
          intro v2 e3
          have b4 := vg_add e3 (by omega) (by omega)
          refine And.intro (fun c5 => ?_) (fun c5 => ?_)
          · have c5 : v2.toInt ≤ (Int32.ofNat 10010).toInt := c5
            refine And.intro (Nat.le_of_ble_eq_true rfl) (And.intro (by omega) (And.intro (by omega) (And.intro (by omega) (And.intro (by omega) (And.intro (by omega) ?_)))))
            intro s6 e7
            have i8 : Iv s6 := Iv.w1 i0 e7 rfl
            have k9 : K_X5_writeWords s0 s6 := Kx.w1 Kx.rf e7 (fun _ => rfl)
            intro v10 e11
            have b12 := vg_add e11 (by omega) (by omega)
            refine And.intro (Nat.le_of_ble_eq_true rfl) (And.intro (by omega) (And.intro (by omega) (And.intro (by omega) (And.intro (by omega) (And.intro (by omega) ?_)))))
            intro s13 e14
            have i15 : Iv s13 := Iv.w1 i8 e14 rfl
            have k16 : K_X5_writeWords s0 s13 := Kx.w1 k9 e14 (fun _ => rfl)
            have y0 := q_ww0 e7 e14 (by omega) (by omega)
            intro v17 e18
            have g19 : s0.1 23 0 = v17 := by rw [e18, e14, vg_w1_at (a := 23) (k := 33) (by decide), e7, vg_w1_at (a := 23) (k := 33) (by decide)]
            have b20 : v17.toInt = (s13.1 23 0).toInt := congrArg Int32.toInt e18
            have b21 : v17.toInt = (s0.1 23 0).toInt := congrArg Int32.toInt g19.symm
            refine And.intro (fun c22 => ?_) (fun c22 => ?_)
            · have c22 : ¬ v17.toInt = (Int32.ofInt 1).toInt := c22
              show Iv s13 ∧ K_X5_writeWords s0 s13 ∧ (q_ww s0 s13 a2.toInt)
              exact ⟨i15, k16, (by first | exact q_ww1 y0 (show ¬ (s0.1 23 0).toInt = 1 by omega) | exact q_ww2 y0 (show (s0.1 23 0).toInt = 1 by omega) y1 e14 (by omega) (by omega))⟩
            · have c22 : ¬ (¬ v17.toInt = (Int32.ofInt 1).toInt) := c22
              intro v23 e24
              have b25 := vg_add e24 (by omega) (by omega)
              intro v26 e27
              have g28 : s0.1 22 3 = v26 := by rw [e27, e14, vg_w1_at (a := 22) (k := 33) (by decide), e7, vg_w1_at (a := 22) (k := 33) (by decide)]
              have y1 := e27
              refine And.intro ⟨by omega, by omega⟩ ?_
              intro s29 e30
              have i31 : Iv s29 := Iv.a1 i15 e30 rfl
              have k32 : K_X5_writeWords s0 s29 := Kx.u1 k16 e30 rfl
              show Iv s29 ∧ K_X5_writeWords s0 s29 ∧ (q_ww s0 s29 a2.toInt)
              exact ⟨i31, k32, (by first | exact q_ww1 y0 (show ¬ (s0.1 23 0).toInt = 1 by omega) | exact q_ww2 y0 (show (s0.1 23 0).toInt = 1 by omega) y1 e30 (by omega) (by omega))⟩
          · have c5 : ¬ (v2.toInt ≤ (Int32.ofNat 10010).toInt) := c5
            exfalso
            omega
def o_X7_numberUnbound : List vg_I := [(0, .aload_n 0, 1, 0, 0, 0, 0), (1, .getfield 27, 3, 104, 7, 0, 0), (4, .tableswitch 88 1 3 #[28, 47, 76], 28, 0, 0, 0, 0), (32, .aload_n 0, 1, 0, 0, 0, 0), (33, .getfield 30, 3, 106, 7, 1, 0), (36, .aload_n 0, 1, 0, 0, 0, 0), (37, .getfield 33, 3, 108, 7, 2, 0), (40, .iload_n 1, 1, 0, 0, 0, 0), (41, .aload_n 0, 1, 0, 0, 0, 0), (42, .getfield 9, 3, 110, 7, 3, 0), (45, .invokestatic 36, 3, 0, 1, 2, 628), (48, .imul, 1, 0, 0, 0, 0), (49, .iadd, 1, 0, 0, 0, 0), (50, .ireturn, 1, 0, 0, 0, 0), (51, .iload_n 1, 1, 0, 0, 0, 0), (52, .iconst 2, 1, 0, 0, 0, 0), (53, .aload_n 0, 1, 0, 0, 0, 0), (54, .getfield 9, 3, 110, 7, 3, 0), (57, .imul, 1, 0, 0, 0, 0), (58, .invokestatic 36, 3, 0, 1, 2, 628), (61, .aload_n 0, 1, 0, 0, 0, 0), (62, .getfield 9, 3, 110, 7, 3, 0), (65, .if_icmp .ge 10, 3, 0, 0, 0, 0), (68, .aload_n 0, 1, 0, 0, 0, 0), (69, .getfield 30, 3, 106, 7, 1, 0), (72, .goto 7, 3, 0, 0, 0, 0), (75, .aload_n 0, 1, 0, 0, 0, 0), (76, .getfield 33, 3, 108, 7, 2, 0), (79, .ireturn, 1, 0, 0, 0, 0), (80, .aload_n 0, 1, 0, 0, 0, 0), (81, .getfield 15, 3, 112, 7, 4, 0), (84, .iload_n 1, 1, 0, 0, 0, 0), (85, .bipush 16, 2, 0, 0, 0, 0), (87, .invokestatic 36, 3, 0, 1, 2, 628), (90, .iaload, 1, 0, 0, 0, 0), (91, .ireturn, 1, 0, 0, 0, 0), (92, .aload_n 0, 1, 0, 0, 0, 0), (93, .getfield 30, 3, 106, 7, 1, 0), (96, .ireturn, 1, 0, 0, 0, 0)]
set_option maxRecDepth 100000 in
set_option maxHeartbeats 4000000 in
theorem c_X7_numberUnbound (l : Launch) (G : vg_G) (hp : vg_Hp G) : vg_Ct l G vg_sh r_X7_numberUnbound := by
  refine vg_meth hp vg_sh_ok r_X7_numberUnbound k_X7_numberUnbound rfl (fun h => by cases h) o_X7_numberUnbound [r_J9_floorMod_7cf53] false (by decide +kernel) (by decide +kernel) ⟨_, _, rfl, rfl⟩ (List.forall_mem_cons.mpr ⟨⟨c_J9_floorMod_7cf53 l G hp, Nat.le_of_ble_eq_true rfl, Nat.le_of_ble_eq_true rfl⟩, fun _ h => absurd h List.not_mem_nil⟩) (fun h => by cases h) 600 ?_
  intro as s0 hpre
  obtain ⟨r, a1, rfl, hr, i0⟩ := hpre
  simp only [List.mem_cons, List.not_mem_nil, or_false] at hr
  rcases hr with rfl
  ·
    have z2 : (Int32.ofInt 2).toInt = 2 := by decide
    have z16 : (Int32.ofInt 16).toInt = 16 := by decide
    refine ⟨Nat.le_of_ble_eq_true rfl, [], ?_, fun _ h => absurd h List.not_mem_nil⟩
    ·
      intro v1 e2
      have g3 : s0.1 1 0 = v1 := by rw [e2]
      refine And.intro (fun c4 => ?_) ?_
      · have c4 : v1.toInt < (1) ∨ (3) < v1.toInt := c4
        intro v5 e6
        have g7 : s0.1 1 1 = v5 := by rw [e6]
        show s0 = s0 ∧ (True)
        exact ⟨rfl, (trivial)⟩
      refine And.intro (fun c8 => ?_) ?_
      · have c8 : v1.toInt = (1) := c8
        intro v9 e10
        have g11 : s0.1 1 1 = v9 := by rw [e10]
        intro v12 e13
        have g14 : s0.1 1 2 = v12 := by rw [e13]
        intro v15 e16
        have g17 : s0.1 1 3 = v15 := by rw [e16]
        have b18 : (1 : Int) ≤ v15.toInt ∧ v15.toInt ≤ 1000 := by rw [e16]; exact Iv_1_3 i0
        refine And.intro (Nat.le_of_ble_eq_true rfl) (And.intro ⟨a1, v15, rfl, by omega⟩ ?_)
        intro v19 s21 h20
        have h20 : s21 = s0 ∧ (0 ≤ v19.toInt ∧ v19.toInt < v15.toInt) := h20
        have q24 := h20.1.symm
        subst q24
        have q25 := h20.2
        intro v26 e27
        intro v28 e29
        show s0 = s0 ∧ (True)
        exact ⟨rfl, (trivial)⟩
      refine And.intro (fun c30 => ?_) ?_
      · have c30 : v1.toInt = (2) := c30
        intro v31 e32
        have g33 : s0.1 1 3 = v31 := by rw [e32]
        have b34 : (1 : Int) ≤ v31.toInt ∧ v31.toInt ≤ 1000 := by rw [e32]; exact Iv_1_3 i0
        intro v35 e36
        have b37 : v35.toInt = (2) * v31.toInt := vg_mulL e36 (by omega) (by omega) (by omega)
        refine And.intro (Nat.le_of_ble_eq_true rfl) (And.intro ⟨a1, v35, rfl, by omega⟩ ?_)
        intro v38 s40 h39
        have h39 : s40 = s0 ∧ (0 ≤ v38.toInt ∧ v38.toInt < v35.toInt) := h39
        have q43 := h39.1.symm
        subst q43
        have q44 := h39.2
        intro v45 e46
        have w47 : v31 = v45 := by rw [e46, g33]
        subst w47
        refine And.intro (fun c48 => ?_) (fun c48 => ?_)
        · have c48 : v31.toInt ≤ v38.toInt := c48
          intro v49 e50
          have g51 : s0.1 1 2 = v49 := by rw [e50]
          show s0 = s0 ∧ (True)
          exact ⟨rfl, (trivial)⟩
        · have c48 : ¬ (v31.toInt ≤ v38.toInt) := c48
          intro v52 e53
          have g54 : s0.1 1 1 = v52 := by rw [e53]
          show s0 = s0 ∧ (True)
          exact ⟨rfl, (trivial)⟩
      refine And.intro (fun c55 => ?_) ?_
      · have c55 : v1.toInt = (3) := c55
        refine And.intro (Nat.le_of_ble_eq_true rfl) (And.intro ⟨a1, (Int32.ofInt 16), rfl, by omega⟩ ?_)
        intro v56 s58 h57
        have h57 : s58 = s0 ∧ (0 ≤ v56.toInt ∧ v56.toInt < (Int32.ofInt 16).toInt) := h57
        have q61 := h57.1.symm
        subst q61
        have q62 := h57.2
        refine And.intro ⟨by omega, by omega⟩ ?_
        intro v63 e64
        show s0 = s0 ∧ (True)
        exact ⟨rfl, (trivial)⟩
      exact trivial
def o_X7_numberAt : List vg_I := [(0, .aload_n 0, 1, 0, 0, 0, 0), (1, .iload_n 1, 1, 0, 0, 0, 0), (2, .invokevirtual 19, 3, 0, 7, 1, 624), (5, .sipush 30000, 3, 0, 0, 0, 0), (8, .invokestatic 23, 3, 1, 2, 2, 1), (11, .ireturn, 1, 0, 0, 0, 0)]
set_option maxRecDepth 100000 in
set_option maxHeartbeats 4000000 in
theorem c_X7_numberAt (l : Launch) (G : vg_G) (hp : vg_Hp G) : vg_Ct l G vg_sh r_X7_numberAt := by
  refine vg_meth hp vg_sh_ok r_X7_numberAt k_X7_numberAt rfl (fun h => by cases h) o_X7_numberAt [r_X7_numberUnbound, r_X10_putTo] false (by decide +kernel) (by decide +kernel) ⟨_, _, rfl, rfl⟩ (List.forall_mem_cons.mpr ⟨⟨c_X7_numberUnbound l G hp, Nat.le_of_ble_eq_true rfl, Nat.le_of_ble_eq_true rfl⟩, List.forall_mem_cons.mpr ⟨⟨c_X10_putTo l G hp, Nat.le_of_ble_eq_true rfl, Nat.le_of_ble_eq_true rfl⟩, fun _ h => absurd h List.not_mem_nil⟩⟩) (fun h => by cases h) 600 ?_
  intro as s0 hpre
  obtain ⟨r, a1, rfl, hr, i0⟩ := hpre
  simp only [List.mem_cons, List.not_mem_nil, or_false] at hr
  rcases hr with rfl
  ·
    have z30000 : (Int32.ofInt 30000).toInt = 30000 := by decide
    refine ⟨Nat.le_of_ble_eq_true rfl, [], ?_, fun _ h => absurd h List.not_mem_nil⟩
    ·
      refine And.intro (Nat.le_of_ble_eq_true rfl) (And.intro ⟨1, a1, rfl, by decide, i0⟩ ?_)
      intro v1 s3 h2
      have h2 : s3 = s0 ∧ (True) := h2
      have q6 := h2.1.symm
      subst q6
      refine And.intro (Nat.le_of_ble_eq_true rfl) (And.intro ⟨v1, (Int32.ofInt 30000), rfl, trivial⟩ ?_)
      intro v7 s9 h8
      have h8 : s9 = s0 ∧ (v7 = q_held (Int32.ofInt 30000) v1 ∧ (0 ≤ (Int32.ofInt 30000).toInt → -(Int32.ofInt 30000).toInt ≤ v7.toInt ∧ v7.toInt ≤ (Int32.ofInt 30000).toInt)) := h8
      have q12 := h8.1.symm
      subst q12
      have q13 := h8.2
      show s0 = s0 ∧ (-30000 ≤ v7.toInt ∧ v7.toInt ≤ 30000)
      exact ⟨rfl, (by have h9 := q13.2 (by omega); omega)⟩
