def o_X6_copyFrom : List vg_I := [(0, .aload_n 0, 1, 0, 0, 0, 0), (1, .aload_n 1, 1, 0, 0, 0, 0), (2, .getfield 11, 3, 139, 6, 0, 0), (5, .putfield 11, 3, 139, 6, 0, 0), (8, .aload_n 0, 1, 0, 0, 0, 0), (9, .aload_n 1, 1, 0, 0, 0, 0), (10, .getfield 15, 3, 142, 6, 1, 0), (13, .putfield 15, 3, 142, 6, 1, 0), (16, .aload_n 0, 1, 0, 0, 0, 0), (17, .aload_n 1, 1, 0, 0, 0, 0), (18, .getfield 18, 3, 145, 6, 2, 0), (21, .putfield 18, 3, 145, 6, 2, 0), (24, .aload_n 0, 1, 0, 0, 0, 0), (25, .aload_n 1, 1, 0, 0, 0, 0), (26, .getfield 21, 3, 147, 6, 3, 0), (29, .putfield 21, 3, 147, 6, 3, 0), (32, .aload_n 0, 1, 0, 0, 0, 0), (33, .aload_n 1, 1, 0, 0, 0, 0), (34, .getfield 25, 3, 149, 6, 4, 0), (37, .putfield 25, 3, 149, 6, 4, 0), (40, .aload_n 0, 1, 0, 0, 0, 0), (41, .aload_n 1, 1, 0, 0, 0, 0), (42, .getfield 28, 3, 152, 6, 5, 0), (45, .putfield 28, 3, 152, 6, 5, 1), (48, .aload_n 0, 1, 0, 0, 0, 0), (49, .aload_n 1, 1, 0, 0, 0, 0), (50, .getfield 32, 3, 155, 6, 6, 0), (53, .putfield 32, 3, 155, 6, 6, 0), (56, .aload_n 0, 1, 0, 0, 0, 0), (57, .aload_n 1, 1, 0, 0, 0, 0), (58, .getfield 35, 3, 159, 6, 7, 0), (61, .putfield 35, 3, 159, 6, 7, 0), (64, .return_, 1, 0, 0, 0, 0)]
set_option maxRecDepth 100000 in
set_option maxHeartbeats 4000000 in
theorem c_X6_copyFrom (l : Launch) (G : vg_G) (hp : vg_Hp G) : vg_Ct l G vg_sh r_X6_copyFrom := by
  refine vg_meth hp vg_sh_ok r_X6_copyFrom k_X6_copyFrom rfl (fun h => by cases h) o_X6_copyFrom [] false (by decide +kernel) (by decide +kernel) ⟨_, _, rfl, rfl⟩ (fun _ h => absurd h List.not_mem_nil) (fun h => by cases h) 600 ?_
  intro as s0 hpre
  obtain ⟨r, a1, rfl, hr, ha1, i0⟩ := hpre
  simp only [List.mem_cons, List.not_mem_nil, or_false] at hr
  rcases hr with rfl
  ·
    simp only [List.mem_cons, List.not_mem_nil, or_false] at ha1
    rcases ha1 with rfl
    ·
      refine ⟨Nat.le_of_ble_eq_true rfl, [], ?_, fun _ h => absurd h List.not_mem_nil⟩
      ·
        intro v1 e2
        have g3 : s0.1 4 0 = v1 := by rw [e2]
        intro s4 e5
        have i6 : Iv s4 := Iv.u1 i0 e5 rfl
        have k7 : Kp s0 s4 := Kx.u1 Kx.rf e5 rfl
        intro v8 e9
        have g10 : s0.1 4 1 = v8 := by rw [e9, e5, vg_u1_ne (a := 4) (k := 23) (by decide)]
        have b11 : (1 : Int) ≤ v8.toInt ∧ v8.toInt ≤ 4 := by rw [e9]; exact Iv_4_1 i6
        intro s12 e13
        have i14 : Iv s12 := Iv.c1 (lo := 1) (hi := 4) i6 e13 rfl (by omega) (by omega)
        have k15 : Kp s0 s12 := Kx.u1 k7 e13 rfl
        intro v16 e17
        have g18 : s0.1 4 2 = v16 := by rw [e17, e13, vg_u1_ne (a := 4) (k := 23) (by decide), e5, vg_u1_ne (a := 4) (k := 23) (by decide)]
        have b19 : (1 : Int) ≤ v16.toInt ∧ v16.toInt ≤ 5000 := by rw [e17]; exact Iv_4_2 i14
        intro s20 e21
        have i22 : Iv s20 := Iv.c1 (lo := 1) (hi := 5000) i14 e21 rfl (by omega) (by omega)
        have k23 : Kp s0 s20 := Kx.u1 k15 e21 rfl
        intro v24 e25
        have g26 : s0.1 4 3 = v24 := by rw [e25, e21, vg_u1_ne (a := 4) (k := 23) (by decide), e13, vg_u1_ne (a := 4) (k := 23) (by decide), e5, vg_u1_ne (a := 4) (k := 23) (by decide)]
        have b27 : (2 : Int) ≤ v24.toInt ∧ v24.toInt ≤ 17 := by rw [e25]; exact Iv_4_3 i22
        intro s28 e29
        have i30 : Iv s28 := Iv.c1 (lo := 2) (hi := 17) i22 e29 rfl (by omega) (by omega)
        have k31 : Kp s0 s28 := Kx.u1 k23 e29 rfl
        intro v32 e33
        have g34 : s0.1 4 4 = v32 := by rw [e33, e29, vg_u1_ne (a := 4) (k := 23) (by decide), e21, vg_u1_ne (a := 4) (k := 23) (by decide), e13, vg_u1_ne (a := 4) (k := 23) (by decide), e5, vg_u1_ne (a := 4) (k := 23) (by decide)]
        have b35 : (1 : Int) ≤ v32.toInt ∧ v32.toInt ≤ 60000 := by rw [e33]; exact Iv_4_4 i30
        intro s36 e37
        have i38 : Iv s36 := Iv.c1 (lo := 1) (hi := 60000) i30 e37 rfl (by omega) (by omega)
        have k39 : Kp s0 s36 := Kx.u1 k31 e37 rfl
        intro v40 e41
        have g42 : s0.1 4 5 = v40 := by rw [e41, e37, vg_u1_ne (a := 4) (k := 23) (by decide), e29, vg_u1_ne (a := 4) (k := 23) (by decide), e21, vg_u1_ne (a := 4) (k := 23) (by decide), e13, vg_u1_ne (a := 4) (k := 23) (by decide), e5, vg_u1_ne (a := 4) (k := 23) (by decide)]
        have b43 : (0 : Int) ≤ v40.toInt ∧ v40.toInt ≤ 1 := by rw [e41]; exact Iv_4_5 i38
        refine And.intro (by first | exact Or.inl rfl | exact Or.inr rfl | exact vg_01 (by omega) (by omega)) ?_
        intro s44 e45
        have i46 : Iv s44 := Iv.c1 (lo := 0) (hi := 1) i38 e45 rfl (by omega) (by omega)
        have k47 : Kp s0 s44 := Kx.u1 k39 e45 rfl
        intro v48 e49
        have g50 : s0.1 4 6 = v48 := by rw [e49, e45, vg_u1_ne (a := 4) (k := 23) (by decide), e37, vg_u1_ne (a := 4) (k := 23) (by decide), e29, vg_u1_ne (a := 4) (k := 23) (by decide), e21, vg_u1_ne (a := 4) (k := 23) (by decide), e13, vg_u1_ne (a := 4) (k := 23) (by decide), e5, vg_u1_ne (a := 4) (k := 23) (by decide)]
        have b51 : (0 : Int) ≤ v48.toInt ∧ v48.toInt ≤ 5000 := by rw [e49]; exact Iv_4_6 i46
        intro s52 e53
        have i54 : Iv s52 := Iv.c1 (lo := 0) (hi := 5000) i46 e53 rfl (by omega) (by omega)
        have k55 : Kp s0 s52 := Kx.u1 k47 e53 rfl
        intro v56 e57
        have g58 : s0.1 4 7 = v56 := by rw [e57, e53, vg_u1_ne (a := 4) (k := 23) (by decide), e45, vg_u1_ne (a := 4) (k := 23) (by decide), e37, vg_u1_ne (a := 4) (k := 23) (by decide), e29, vg_u1_ne (a := 4) (k := 23) (by decide), e21, vg_u1_ne (a := 4) (k := 23) (by decide), e13, vg_u1_ne (a := 4) (k := 23) (by decide), e5, vg_u1_ne (a := 4) (k := 23) (by decide)]
        intro s59 e60
        have i61 : Iv s59 := Iv.u1 i54 e60 rfl
        have k62 : Kp s0 s59 := Kx.u1 k55 e60 rfl
        show Iv s59 ∧ Kp s0 s59 ∧ (True)
        exact ⟨i61, k62, (trivial)⟩
def o_X6_besides : List vg_I := [(0, .aload_n 0, 1, 0, 0, 0, 0), (1, .getfield 11, 3, 139, 6, 0, 0), (4, .iconst 2, 1, 0, 0, 0, 0), (5, .if_icmp .ne 23, 3, 0, 0, 0, 0), (8, .aload_n 0, 1, 0, 0, 0, 0), (9, .getfield 21, 3, 147, 6, 3, 0), (12, .iconst 1, 1, 0, 0, 0, 0), (13, .isub, 1, 0, 0, 0, 0), (14, .iconst 1, 1, 0, 0, 0, 0), (15, .aload_n 0, 1, 0, 0, 0, 0), (16, .getfield 15, 3, 142, 6, 1, 0), (19, .iconst 1, 1, 0, 0, 0, 0), (20, .isub, 1, 0, 0, 0, 0), (21, .ishl, 1, 0, 0, 0, 0), (22, .iconst 1, 1, 0, 0, 0, 0), (23, .isub, 1, 0, 0, 0, 0), (24, .imul, 1, 0, 0, 0, 0), (25, .goto 4, 3, 0, 0, 0, 0), (28, .iconst 0, 1, 0, 0, 0, 0), (29, .ireturn, 1, 0, 0, 0, 0)]
set_option maxRecDepth 100000 in
set_option maxHeartbeats 4000000 in
theorem c_X6_besides (l : Launch) (G : vg_G) (hp : vg_Hp G) : vg_Ct l G vg_sh r_X6_besides := by
  refine vg_meth hp vg_sh_ok r_X6_besides k_X6_besides rfl (fun h => by cases h) o_X6_besides [] false (by decide +kernel) (by decide +kernel) ⟨_, _, rfl, rfl⟩ (fun _ h => absurd h List.not_mem_nil) (fun h => by cases h) 600 ?_
  intro as s0 hpre
  obtain ⟨r, rfl, hr, i0⟩ := hpre
  simp only [List.mem_cons, List.not_mem_nil, or_false] at hr
  rcases hr with rfl | rfl
  ·
    have z0 : (Int32.ofInt 0).toInt = 0 := by decide
    have z1 : (Int32.ofInt 1).toInt = 1 := by decide
    have z2 : (Int32.ofInt 2).toInt = 2 := by decide
    refine ⟨Nat.le_of_ble_eq_true rfl, [], ?_, fun _ h => absurd h List.not_mem_nil⟩
    ·
      intro v1 e2
      have g3 : s0.1 4 0 = v1 := by rw [e2]
      refine And.intro (fun c4 => ?_) (fun c4 => ?_)
      · have c4 : ¬ v1.toInt = (Int32.ofInt 2).toInt := c4
        show s0 = s0 ∧ (True)
        exact ⟨rfl, (trivial)⟩
      · have c4 : ¬ (¬ v1.toInt = (Int32.ofInt 2).toInt) := c4
        intro v5 e6
        have g7 : s0.1 4 3 = v5 := by rw [e6]
        have b8 : (2 : Int) ≤ v5.toInt ∧ v5.toInt ≤ 17 := by rw [e6]; exact Iv_4_3 i0
        intro v9 e10
        have b11 := vg_sub e10 (by omega) (by omega)
        intro v12 e13
        have g14 : s0.1 4 1 = v12 := by rw [e13]
        have b15 : (1 : Int) ≤ v12.toInt ∧ v12.toInt ≤ 4 := by rw [e13]; exact Iv_4_1 i0
        intro v16 e17
        have b18 := vg_sub e17 (by omega) (by omega)
        intro v19 e20
        intro v21 e22
        intro v23 e24
        show s0 = s0 ∧ (True)
        exact ⟨rfl, (trivial)⟩
  ·
    have z0 : (Int32.ofInt 0).toInt = 0 := by decide
    have z1 : (Int32.ofInt 1).toInt = 1 := by decide
    have z2 : (Int32.ofInt 2).toInt = 2 := by decide
    refine ⟨Nat.le_of_ble_eq_true rfl, [], ?_, fun _ h => absurd h List.not_mem_nil⟩
    ·
      intro v1 e2
      have g3 : s0.1 23 0 = v1 := by rw [e2]
      refine And.intro (fun c4 => ?_) (fun c4 => ?_)
      · have c4 : ¬ v1.toInt = (Int32.ofInt 2).toInt := c4
        show s0 = s0 ∧ (True)
        exact ⟨rfl, (trivial)⟩
      · have c4 : ¬ (¬ v1.toInt = (Int32.ofInt 2).toInt) := c4
        intro v5 e6
        have g7 : s0.1 23 3 = v5 := by rw [e6]
        have b8 : (2 : Int) ≤ v5.toInt ∧ v5.toInt ≤ 17 := by rw [e6]; exact Iv_23_3 i0
        intro v9 e10
        have b11 := vg_sub e10 (by omega) (by omega)
        intro v12 e13
        have g14 : s0.1 23 1 = v12 := by rw [e13]
        have b15 : (1 : Int) ≤ v12.toInt ∧ v12.toInt ≤ 4 := by rw [e13]; exact Iv_23_1 i0
        intro v16 e17
        have b18 := vg_sub e17 (by omega) (by omega)
        intro v19 e20
        intro v21 e22
        intro v23 e24
        show s0 = s0 ∧ (True)
        exact ⟨rfl, (trivial)⟩
def o_X6_valueOfSmall : List vg_I := [(0, .aload_n 0, 1, 0, 0, 0, 0), (1, .getfield 18, 3, 145, 6, 2, 0), (4, .iconst 2, 1, 0, 0, 0, 0), (5, .iload_n 1, 1, 0, 0, 0, 0), (6, .imul, 1, 0, 0, 0, 0), (7, .iconst 1, 1, 0, 0, 0, 0), (8, .iadd, 1, 0, 0, 0, 0), (9, .aload_n 0, 1, 0, 0, 0, 0), (10, .getfield 21, 3, 147, 6, 3, 0), (13, .isub, 1, 0, 0, 0, 0), (14, .imul, 1, 0, 0, 0, 0), (15, .ireturn, 1, 0, 0, 0, 0)]
set_option maxRecDepth 100000 in
set_option maxHeartbeats 4000000 in
theorem c_X6_valueOfSmall (l : Launch) (G : vg_G) (hp : vg_Hp G) : vg_Ct l G vg_sh r_X6_valueOfSmall := by
  refine vg_meth hp vg_sh_ok r_X6_valueOfSmall k_X6_valueOfSmall rfl (fun h => by cases h) o_X6_valueOfSmall [] false (by decide +kernel) (by decide +kernel) ⟨_, _, rfl, rfl⟩ (fun _ h => absurd h List.not_mem_nil) (fun h => by cases h) 600 ?_
  intro as s0 hpre
  obtain ⟨r, a1, rfl, hr, i0⟩ := hpre
  simp only [List.mem_cons, List.not_mem_nil, or_false] at hr
  rcases hr with rfl | rfl
  ·
    have z1 : (Int32.ofInt 1).toInt = 1 := by decide
    have z2 : (Int32.ofInt 2).toInt = 2 := by decide
    refine ⟨Nat.le_of_ble_eq_true rfl, [], ?_, fun _ h => absurd h List.not_mem_nil⟩
    ·
      intro v1 e2
      have g3 : s0.1 4 2 = v1 := by rw [e2]
      have b4 : (1 : Int) ≤ v1.toInt ∧ v1.toInt ≤ 5000 := by rw [e2]; exact Iv_4_2 i0
      intro v5 e6
      intro v7 e8
      intro v9 e10
      have g11 : s0.1 4 3 = v9 := by rw [e10]
      have b12 : (2 : Int) ≤ v9.toInt ∧ v9.toInt ≤ 17 := by rw [e10]; exact Iv_4_3 i0
      intro v13 e14
      intro v15 e16
      show s0 = s0 ∧ (True)
      exact ⟨rfl, (trivial)⟩
  ·
    have z1 : (Int32.ofInt 1).toInt = 1 := by decide
    have z2 : (Int32.ofInt 2).toInt = 2 := by decide
    refine ⟨Nat.le_of_ble_eq_true rfl, [], ?_, fun _ h => absurd h List.not_mem_nil⟩
    ·
      intro v1 e2
      have g3 : s0.1 23 2 = v1 := by rw [e2]
      have b4 : (1 : Int) ≤ v1.toInt ∧ v1.toInt ≤ 5000 := by rw [e2]; exact Iv_23_2 i0
      intro v5 e6
      intro v7 e8
      intro v9 e10
      have g11 : s0.1 23 3 = v9 := by rw [e10]
      have b12 : (2 : Int) ≤ v9.toInt ∧ v9.toInt ≤ 17 := by rw [e10]; exact Iv_23_3 i0
      intro v13 e14
      intro v15 e16
      show s0 = s0 ∧ (True)
      exact ⟨rfl, (trivial)⟩
def o_X6_valueOf : List vg_I := [(0, .aload_n 0, 1, 0, 0, 0, 0), (1, .iload_n 1, 1, 0, 0, 0, 0), (2, .aload_n 0, 1, 0, 0, 0, 0), (3, .invokevirtual 38, 3, 0, 6, 0, 709), (6, .isub, 1, 0, 0, 0, 0), (7, .invokevirtual 42, 3, 1, 6, 1, 710), (10, .ireturn, 1, 0, 0, 0, 0)]
set_option maxRecDepth 100000 in
set_option maxHeartbeats 4000000 in
theorem c_X6_valueOf (l : Launch) (G : vg_G) (hp : vg_Hp G) : vg_Ct l G vg_sh r_X6_valueOf := by
  refine vg_meth hp vg_sh_ok r_X6_valueOf k_X6_valueOf rfl (fun h => by cases h) o_X6_valueOf [r_X6_besides, r_X6_valueOfSmall] false (by decide +kernel) (by decide +kernel) ⟨_, _, rfl, rfl⟩ (List.forall_mem_cons.mpr ⟨⟨c_X6_besides l G hp, Nat.le_of_ble_eq_true rfl, Nat.le_of_ble_eq_true rfl⟩, List.forall_mem_cons.mpr ⟨⟨c_X6_valueOfSmall l G hp, Nat.le_of_ble_eq_true rfl, Nat.le_of_ble_eq_true rfl⟩, fun _ h => absurd h List.not_mem_nil⟩⟩) (fun h => by cases h) 600 ?_
  intro as s0 hpre
  obtain ⟨r, a1, rfl, hr, i0⟩ := hpre
  simp only [List.mem_cons, List.not_mem_nil, or_false] at hr
  rcases hr with rfl | rfl
  ·
    refine ⟨Nat.le_of_ble_eq_true rfl, [], ?_, fun _ h => absurd h List.not_mem_nil⟩
    ·
      refine And.intro (Nat.le_of_ble_eq_true rfl) (And.intro ⟨4, rfl, by decide, i0⟩ ?_)
      intro v1 s3 h2
      have h2 : s3 = s0 ∧ (True) := h2
      have q6 := h2.1.symm
      subst q6
      intro v7 e8
      refine And.intro (Nat.le_of_ble_eq_true rfl) (And.intro ⟨4, v7, rfl, by decide, i0⟩ ?_)
      intro v9 s11 h10
      have h10 : s11 = s0 ∧ (True) := h10
      have q14 := h10.1.symm
      subst q14
      show s0 = s0 ∧ (True)
      exact ⟨rfl, (trivial)⟩
  ·
    refine ⟨Nat.le_of_ble_eq_true rfl, [], ?_, fun _ h => absurd h List.not_mem_nil⟩
    ·
      refine And.intro (Nat.le_of_ble_eq_true rfl) (And.intro ⟨23, rfl, by decide, i0⟩ ?_)
      intro v1 s3 h2
      have h2 : s3 = s0 ∧ (True) := h2
      have q6 := h2.1.symm
      subst q6
      intro v7 e8
      refine And.intro (Nat.le_of_ble_eq_true rfl) (And.intro ⟨23, v7, rfl, by decide, i0⟩ ?_)
      intro v9 s11 h10
      have h10 : s11 = s0 ∧ (True) := h10
      have q14 := h10.1.symm
      subst q14
      show s0 = s0 ∧ (True)
      exact ⟨rfl, (trivial)⟩
def o_X6_nearest : List vg_I := [(0, .iload_n 1, 1, 0, 0, 0, 0), (1, .aload_n 0, 1, 0, 0, 0, 0), (2, .getfield 18, 3, 145, 6, 2, 0), (5, .aload_n 0, 1, 0, 0, 0, 0), (6, .getfield 21, 3, 147, 6, 3, 0), (9, .iconst 2, 1, 0, 0, 0, 0), (10, .isub, 1, 0, 0, 0, 0), (11, .imul, 1, 0, 0, 0, 0), (12, .iadd, 1, 0, 0, 0, 0), (13, .ineg, 1, 0, 0, 0, 0), (14, .iconst 2, 1, 0, 0, 0, 0), (15, .aload_n 0, 1, 0, 0, 0, 0), (16, .getfield 18, 3, 145, 6, 2, 0), (19, .imul, 1, 0, 0, 0, 0), (20, .invokestatic 46, 3, 0, 1, 2, 676), (23, .ineg, 1, 0, 0, 0, 0), (24, .istore_n 2, 1, 0, 0, 0, 0), (25, .iconst 0, 1, 0, 0, 0, 0), (26, .aload_n 0, 1, 0, 0, 0, 0), (27, .getfield 21, 3, 147, 6, 3, 0), (30, .iconst 1, 1, 0, 0, 0, 0), (31, .isub, 1, 0, 0, 0, 0), (32, .iload_n 2, 1, 0, 0, 0, 0), (33, .invokestatic 52, 3, 1, 1, 2, 679), (36, .invokestatic 55, 3, 2, 1, 2, 680), (39, .ireturn, 1, 0, 0, 0, 0)]
set_option maxRecDepth 100000 in
set_option maxHeartbeats 4000000 in
theorem c_X6_nearest (l : Launch) (G : vg_G) (hp : vg_Hp G) : vg_Ct l G vg_sh r_X6_nearest := by
  refine vg_meth hp vg_sh_ok r_X6_nearest k_X6_nearest rfl (fun h => by cases h) o_X6_nearest [r_J9_floorDiv_7cf53, r_J9_min_7cf53, r_J9_max_7cf53] false (by decide +kernel) (by decide +kernel) ⟨_, _, rfl, rfl⟩ (List.forall_mem_cons.mpr ⟨⟨c_J9_floorDiv_7cf53 l G hp, Nat.le_of_ble_eq_true rfl, Nat.le_of_ble_eq_true rfl⟩, List.forall_mem_cons.mpr ⟨⟨c_J9_min_7cf53 l G hp, Nat.le_of_ble_eq_true rfl, Nat.le_of_ble_eq_true rfl⟩, List.forall_mem_cons.mpr ⟨⟨c_J9_max_7cf53 l G hp, Nat.le_of_ble_eq_true rfl, Nat.le_of_ble_eq_true rfl⟩, fun _ h => absurd h List.not_mem_nil⟩⟩⟩) (fun h => by cases h) 600 ?_
  intro as s0 hpre
  obtain ⟨r, a1, rfl, hr, i0⟩ := hpre
  simp only [List.mem_cons, List.not_mem_nil, or_false] at hr
  rcases hr with rfl | rfl
  ·
    have z0 : (Int32.ofInt 0).toInt = 0 := by decide
    have z1 : (Int32.ofInt 1).toInt = 1 := by decide
    have z2 : (Int32.ofInt 2).toInt = 2 := by decide
    refine ⟨Nat.le_of_ble_eq_true rfl, [], ?_, fun _ h => absurd h List.not_mem_nil⟩
    ·
      intro v1 e2
      have g3 : s0.1 4 2 = v1 := by rw [e2]
      have b4 : (1 : Int) ≤ v1.toInt ∧ v1.toInt ≤ 5000 := by rw [e2]; exact Iv_4_2 i0
      intro v5 e6
      have g7 : s0.1 4 3 = v5 := by rw [e6]
      have b8 : (2 : Int) ≤ v5.toInt ∧ v5.toInt ≤ 17 := by rw [e6]; exact Iv_4_3 i0
      intro v9 e10
      have b11 := vg_sub e10 (by omega) (by omega)
      intro v12 e13
      intro v14 e15
      intro v16 e17
      intro v18 e19
      have w20 : v1 = v18 := by rw [e19, g3]
      subst w20
      intro v21 e22
      have b23 : v21.toInt = (2) * v1.toInt := vg_mulL e22 (by omega) (by omega) (by omega)
      refine And.intro (Nat.le_of_ble_eq_true rfl) (And.intro ⟨v16, v21, rfl, by omega⟩ ?_)
      intro v24 s26 h25
      have h25 : s26 = s0 ∧ (True) := h25
      have q29 := h25.1.symm
      subst q29
      intro v30 e31
      intro v32 e33
      have w34 : v5 = v32 := by rw [e33, g7]
      subst w34
      intro v35 e36
      have b37 := vg_sub e36 (by omega) (by omega)
      refine And.intro (Nat.le_of_ble_eq_true rfl) (And.intro ⟨v35, v30, rfl, trivial⟩ ?_)
      intro v38 s40 h39
      have h39 : s40 = s0 ∧ (v38.toInt ≤ v35.toInt ∧ v38.toInt ≤ v30.toInt ∧ (v38.toInt = v35.toInt ∨ v38.toInt = v30.toInt)) := h39
      have q43 := h39.1.symm
      subst q43
      have q44 := h39.2
      refine And.intro (Nat.le_of_ble_eq_true rfl) (And.intro ⟨(Int32.ofInt 0), v38, rfl, trivial⟩ ?_)
      intro v45 s47 h46
      have h46 : s47 = s0 ∧ ((Int32.ofInt 0).toInt ≤ v45.toInt ∧ v38.toInt ≤ v45.toInt ∧ (v45.toInt = (Int32.ofInt 0).toInt ∨ v45.toInt = v38.toInt)) := h46
      have q50 := h46.1.symm
      subst q50
      have q51 := h46.2
      show s0 = s0 ∧ (True)
      exact ⟨rfl, (trivial)⟩
  ·
    have z0 : (Int32.ofInt 0).toInt = 0 := by decide
    have z1 : (Int32.ofInt 1).toInt = 1 := by decide
    have z2 : (Int32.ofInt 2).toInt = 2 := by decide
    refine ⟨Nat.le_of_ble_eq_true rfl, [], ?_, fun _ h => absurd h List.not_mem_nil⟩
    ·
      intro v1 e2
      have g3 : s0.1 23 2 = v1 := by rw [e2]
      have b4 : (1 : Int) ≤ v1.toInt ∧ v1.toInt ≤ 5000 := by rw [e2]; exact Iv_23_2 i0
      intro v5 e6
      have g7 : s0.1 23 3 = v5 := by rw [e6]
      have b8 : (2 : Int) ≤ v5.toInt ∧ v5.toInt ≤ 17 := by rw [e6]; exact Iv_23_3 i0
      intro v9 e10
      have b11 := vg_sub e10 (by omega) (by omega)
      intro v12 e13
      intro v14 e15
      intro v16 e17
      intro v18 e19
      have w20 : v1 = v18 := by rw [e19, g3]
      subst w20
      intro v21 e22
      have b23 : v21.toInt = (2) * v1.toInt := vg_mulL e22 (by omega) (by omega) (by omega)
      refine And.intro (Nat.le_of_ble_eq_true rfl) (And.intro ⟨v16, v21, rfl, by omega⟩ ?_)
      intro v24 s26 h25
      have h25 : s26 = s0 ∧ (True) := h25
      have q29 := h25.1.symm
      subst q29
      intro v30 e31
      intro v32 e33
      have w34 : v5 = v32 := by rw [e33, g7]
      subst w34
      intro v35 e36
      have b37 := vg_sub e36 (by omega) (by omega)
      refine And.intro (Nat.le_of_ble_eq_true rfl) (And.intro ⟨v35, v30, rfl, trivial⟩ ?_)
      intro v38 s40 h39
      have h39 : s40 = s0 ∧ (v38.toInt ≤ v35.toInt ∧ v38.toInt ≤ v30.toInt ∧ (v38.toInt = v35.toInt ∨ v38.toInt = v30.toInt)) := h39
      have q43 := h39.1.symm
      subst q43
      have q44 := h39.2
      refine And.intro (Nat.le_of_ble_eq_true rfl) (And.intro ⟨(Int32.ofInt 0), v38, rfl, trivial⟩ ?_)
      intro v45 s47 h46
      have h46 : s47 = s0 ∧ ((Int32.ofInt 0).toInt ≤ v45.toInt ∧ v38.toInt ≤ v45.toInt ∧ (v45.toInt = (Int32.ofInt 0).toInt ∨ v45.toInt = v38.toInt)) := h46
      have q50 := h46.1.symm
      subst q50
      have q51 := h46.2
      show s0 = s0 ∧ (True)
      exact ⟨rfl, (trivial)⟩
def o_X6_elementsOf : List vg_I := [(0, .iload_n 0, 1, 0, 0, 0, 0), (1, .iconst 2, 1, 0, 0, 0, 0), (2, .if_icmp .ne 15, 3, 0, 0, 0, 0), (5, .iload_n 2, 1, 0, 0, 0, 0), (6, .iconst 1, 1, 0, 0, 0, 0), (7, .isub, 1, 0, 0, 0, 0), (8, .iconst 1, 1, 0, 0, 0, 0), (9, .iload_n 1, 1, 0, 0, 0, 0), (10, .ishl, 1, 0, 0, 0, 0), (11, .iconst 1, 1, 0, 0, 0, 0), (12, .isub, 1, 0, 0, 0, 0), (13, .imul, 1, 0, 0, 0, 0), (14, .goto 6, 3, 0, 0, 0, 0), (17, .iload_n 2, 1, 0, 0, 0, 0), (18, .iconst 1, 1, 0, 0, 0, 0), (19, .isub, 1, 0, 0, 0, 0), (20, .ireturn, 1, 0, 0, 0, 0)]
set_option maxRecDepth 100000 in
set_option maxHeartbeats 4000000 in
theorem c_X6_elementsOf (l : Launch) (G : vg_G) (hp : vg_Hp G) : vg_Ct l G vg_sh r_X6_elementsOf := by
  refine vg_meth hp vg_sh_ok r_X6_elementsOf k_X6_elementsOf rfl (fun h => by cases h) o_X6_elementsOf [] false (by decide +kernel) (by decide +kernel) ⟨_, _, rfl, rfl⟩ (fun _ h => absurd h List.not_mem_nil) (fun h => by cases h) 600 ?_
  intro as s0 hpre
  obtain ⟨a1, a2, a3, rfl, p0⟩ := hpre
  have z1 : (Int32.ofInt 1).toInt = 1 := by decide
  have z2 : (Int32.ofInt 2).toInt = 2 := by decide
  refine ⟨Nat.le_of_ble_eq_true rfl, [], ?_, fun _ h => absurd h List.not_mem_nil⟩
  ·
    refine And.intro (fun c1 => ?_) (fun c1 => ?_)
    · have c1 : ¬ a1.toInt = (Int32.ofInt 2).toInt := c1
      intro v2 e3
      have b4 := vg_sub e3 (by omega) (by omega)
      show s0 = s0 ∧ (v2.toInt = (vg_eo a1 a2 a3).toInt ∧ 1 ≤ v2.toInt ∧ v2.toInt ≤ 240)
      exact ⟨rfl, (by refine ⟨?_, by omega, by omega⟩; simp only [vg_eo]; (first | rw [if_pos (by omega)] | rw [if_neg (by omega)]); subst_vars; rfl)⟩
    · have c1 : ¬ (¬ a1.toInt = (Int32.ofInt 2).toInt) := c1
      intro v5 e6
      have b7 := vg_sub e6 (by omega) (by omega)
      intro v8 e9
      have b10 := vg_shl1 e9 (by omega) (by omega) (by omega)
      intro v11 e12
      have b13 := vg_sub e12 (by omega) (by omega)
      intro v14 e15
      have b16 := (vg_mulr e15 (by omega) (by omega) (by omega) (by omega)).2
      show s0 = s0 ∧ (v14.toInt = (vg_eo a1 a2 a3).toInt ∧ 1 ≤ v14.toInt ∧ v14.toInt ≤ 240)
      exact ⟨rfl, (by refine ⟨?_, by omega, by omega⟩; simp only [vg_eo]; (first | rw [if_pos (by omega)] | rw [if_neg (by omega)]); subst_vars; rfl)⟩
def o_X5_begin : List vg_I := [(0, .aload_n 0, 1, 0, 0, 0, 0), (1, .getfield 16, 3, 180, 5, 1, 0), (4, .iconst 0, 1, 0, 0, 0, 0), (5, .invokestatic 23, 3, 0, 1, 2, 500), (8, .aload_n 0, 1, 0, 0, 0, 0), (9, .getfield 20, 3, 182, 5, 2, 0), (12, .iconst 0, 1, 0, 0, 0, 0), (13, .invokestatic 23, 3, 0, 1, 2, 500), (16, .aload_n 0, 1, 0, 0, 0, 0), (17, .iconst 0, 1, 0, 0, 0, 0), (18, .putfield 29, 3, 183, 5, 3, 0), (21, .aload_n 0, 1, 0, 0, 0, 0), (22, .aload_n 0, 1, 0, 0, 0, 0), (23, .getfield 12, 3, 178, 5, 0, 0), (26, .getfield 33, 3, 158, 6, 7, 0), (29, .putfield 36, 3, 185, 5, 4, 0), (32, .aload_n 0, 1, 0, 0, 0, 0), (33, .iconst 0, 1, 0, 0, 0, 0), (34, .putfield 39, 3, 187, 5, 5, 0), (37, .aload_n 0, 1, 0, 0, 0, 0), (38, .iconst 0, 1, 0, 0, 0, 0), (39, .putfield 42, 3, 189, 5, 6, 0), (42, .aload_n 0, 1, 0, 0, 0, 0), (43, .iconst 0, 1, 0, 0, 0, 0), (44, .putfield 45, 3, 192, 5, 8, 0), (47, .aload_n 0, 1, 0, 0, 0, 0), (48, .lconst 0, 1, 0, 0, 0, 0), (49, .putfield 48, 3, 194, 5, 9, 2), (52, .aload_n 0, 1, 0, 0, 0, 0), (53, .lconst 0, 1, 0, 0, 0, 0), (54, .putfield 52, 3, 196, 5, 10, 2), (57, .aload_n 0, 1, 0, 0, 0, 0), (58, .lconst 0, 1, 0, 0, 0, 0), (59, .putfield 55, 3, 198, 5, 11, 2), (62, .aload_n 0, 1, 0, 0, 0, 0), (63, .lconst 0, 1, 0, 0, 0, 0), (64, .putfield 58, 3, 200, 5, 12, 2), (67, .aload_n 0, 1, 0, 0, 0, 0), (68, .lconst 0, 1, 0, 0, 0, 0), (69, .putfield 61, 3, 202, 5, 13, 2), (72, .return_, 1, 0, 0, 0, 0)]
set_option maxRecDepth 100000 in
set_option maxHeartbeats 4000000 in
theorem c_X5_begin (l : Launch) (G : vg_G) (hp : vg_Hp G) : vg_Ct l G vg_sh r_X5_begin := by
  refine vg_meth hp vg_sh_ok r_X5_begin k_X5_begin rfl (fun h => by cases h) o_X5_begin [r_J7_fill_53178] false (by decide +kernel) (by decide +kernel) ⟨_, _, rfl, rfl⟩ (List.forall_mem_cons.mpr ⟨⟨c_J7_fill_53178 l G hp, Nat.le_of_ble_eq_true rfl, Nat.le_of_ble_eq_true rfl⟩, fun _ h => absurd h List.not_mem_nil⟩) (fun h => by cases h) 600 ?_
  intro as s0 hpre
  obtain ⟨r, rfl, hr, i0⟩ := hpre
  simp only [List.mem_cons, List.not_mem_nil, or_false] at hr
  rcases hr with rfl | rfl
  ·
    have z0 : (Int32.ofInt 0).toInt = 0 := by decide
    refine ⟨Nat.le_of_ble_eq_true rfl, [], ?_, fun _ h => absurd h List.not_mem_nil⟩
    ·
      refine And.intro (Nat.le_of_ble_eq_true rfl) (And.intro ⟨5, (Int32.ofInt 0), rfl, by decide, i0⟩ ?_)
      intro s2 h1
      have h1 : Iv s2 ∧ Kp s0 s2 ∧ (True) := h1
      have i3 := h1.1
      have k4 : Kp s0 s2 := Kx.tr Kx.rf (h1.2.1)
      refine And.intro (Nat.le_of_ble_eq_true rfl) (And.intro ⟨6, (Int32.ofInt 0), rfl, by decide, i3⟩ ?_)
      intro s6 h5
      have h5 : Iv s6 ∧ Kp s2 s6 ∧ (True) := h5
      have i7 := h5.1
      have k8 : Kp s0 s6 := Kx.tr k4 (h5.2.1)
      intro s9 e10
      have i11 : Iv s9 := Iv.u1 i7 e10 rfl
      have k12 : Kp s0 s9 := Kx.u1 k8 e10 rfl
      intro v13 e14
      have g15 : s6.1 4 7 = v13 := by rw [e14, e10, vg_u1_ne (a := 4) (k := 3) (by decide)]
      intro s16 e17
      have i18 : Iv s16 := Iv.u1 i11 e17 rfl
      have k19 : Kp s0 s16 := Kx.u1 k12 e17 rfl
      intro s20 e21
      have i22 : Iv s20 := Iv.u1 i18 e21 rfl
      have k23 : Kp s0 s20 := Kx.u1 k19 e21 rfl
      intro s24 e25
      have i26 : Iv s24 := Iv.u1 i22 e25 rfl
      have k27 : Kp s0 s24 := Kx.u1 k23 e25 rfl
      intro s28 e29
      have i30 : Iv s28 := Iv.u1 i26 e29 rfl
      have k31 : Kp s0 s28 := Kx.u1 k27 e29 rfl
      intro s32 e33
      have i34 : Iv s32 := Iv.u2 i30 e33
      have k35 : Kp s0 s32 := Kx.u2 k31 e33 (vg_kq_no ⟨rfl, rfl, rfl⟩).1
      intro s36 e37
      have i38 : Iv s36 := Iv.u2 i34 e37
      have k39 : Kp s0 s36 := Kx.u2 k35 e37 (vg_kq_no ⟨rfl, rfl, rfl⟩).1
      intro s40 e41
      have i42 : Iv s40 := Iv.u2 i38 e41
      have k43 : Kp s0 s40 := Kx.u2 k39 e41 (vg_kq_no ⟨rfl, rfl, rfl⟩).1
      intro s44 e45
      have i46 : Iv s44 := Iv.u2 i42 e45
      have k47 : Kp s0 s44 := Kx.u2 k43 e45 (vg_kq_no ⟨rfl, rfl, rfl⟩).1
      intro s48 e49
      have i50 : Iv s48 := Iv.u2 i46 e49
      have k51 : Kp s0 s48 := Kx.u2 k47 e49 (vg_kq_no ⟨rfl, rfl, rfl⟩).1
      show Iv s48 ∧ Kp s0 s48 ∧ (True)
      exact ⟨i50, k51, (trivial)⟩
  ·
    have z0 : (Int32.ofInt 0).toInt = 0 := by decide
    refine ⟨Nat.le_of_ble_eq_true rfl, [], ?_, fun _ h => absurd h List.not_mem_nil⟩
    ·
      refine And.intro (Nat.le_of_ble_eq_true rfl) (And.intro ⟨24, (Int32.ofInt 0), rfl, by decide, i0⟩ ?_)
      intro s2 h1
      have h1 : Iv s2 ∧ Kp s0 s2 ∧ (True) := h1
      have i3 := h1.1
      have k4 : Kp s0 s2 := Kx.tr Kx.rf (h1.2.1)
      refine And.intro (Nat.le_of_ble_eq_true rfl) (And.intro ⟨25, (Int32.ofInt 0), rfl, by decide, i3⟩ ?_)
      intro s6 h5
      have h5 : Iv s6 ∧ Kp s2 s6 ∧ (True) := h5
      have i7 := h5.1
      have k8 : Kp s0 s6 := Kx.tr k4 (h5.2.1)
      intro s9 e10
      have i11 : Iv s9 := Iv.u1 i7 e10 rfl
      have k12 : Kp s0 s9 := Kx.u1 k8 e10 rfl
      intro v13 e14
      have g15 : s6.1 23 7 = v13 := by rw [e14, e10, vg_u1_ne (a := 23) (k := 22) (by decide)]
      intro s16 e17
      have i18 : Iv s16 := Iv.u1 i11 e17 rfl
      have k19 : Kp s0 s16 := Kx.u1 k12 e17 rfl
      intro s20 e21
      have i22 : Iv s20 := Iv.u1 i18 e21 rfl
      have k23 : Kp s0 s20 := Kx.u1 k19 e21 rfl
      intro s24 e25
      have i26 : Iv s24 := Iv.u1 i22 e25 rfl
      have k27 : Kp s0 s24 := Kx.u1 k23 e25 rfl
      intro s28 e29
      have i30 : Iv s28 := Iv.u1 i26 e29 rfl
      have k31 : Kp s0 s28 := Kx.u1 k27 e29 rfl
      intro s32 e33
      have i34 : Iv s32 := Iv.u2 i30 e33
      have k35 : Kp s0 s32 := Kx.u2 k31 e33 (vg_kq_no ⟨rfl, rfl, rfl⟩).1
      intro s36 e37
      have i38 : Iv s36 := Iv.u2 i34 e37
      have k39 : Kp s0 s36 := Kx.u2 k35 e37 (vg_kq_no ⟨rfl, rfl, rfl⟩).1
      intro s40 e41
      have i42 : Iv s40 := Iv.u2 i38 e41
      have k43 : Kp s0 s40 := Kx.u2 k39 e41 (vg_kq_no ⟨rfl, rfl, rfl⟩).1
      intro s44 e45
      have i46 : Iv s44 := Iv.u2 i42 e45
      have k47 : Kp s0 s44 := Kx.u2 k43 e45 (vg_kq_no ⟨rfl, rfl, rfl⟩).1
      intro s48 e49
      have i50 : Iv s48 := Iv.u2 i46 e49
      have k51 : Kp s0 s48 := Kx.u2 k47 e49 (vg_kq_no ⟨rfl, rfl, rfl⟩).1
      show Iv s48 ∧ Kp s0 s48 ∧ (True)
      exact ⟨i50, k51, (trivial)⟩
def o_X5_beginTone : List vg_I := [(0, .aload_n 0, 1, 0, 0, 0, 0), (1, .getfield 12, 3, 178, 5, 0, 0), (4, .aload_n 1, 1, 0, 0, 0, 0), (5, .invokevirtual 64, 3, 0, 6, 1, 956), (8, .aload_n 0, 1, 0, 0, 0, 0), (9, .getfield 12, 3, 178, 5, 0, 0), (12, .iconst 0, 1, 0, 0, 0, 0), (13, .putfield 68, 3, 156, 6, 6, 0), (16, .aload_n 0, 1, 0, 0, 0, 0), (17, .invokevirtual 71, 3, 1, 5, 0, 960), (20, .return_, 1, 0, 0, 0, 0)]
set_option maxRecDepth 100000 in
set_option maxHeartbeats 4000000 in
theorem c_X5_beginTone (l : Launch) (G : vg_G) (hp : vg_Hp G) : vg_Ct l G vg_sh r_X5_beginTone := by
  refine vg_meth hp vg_sh_ok r_X5_beginTone k_X5_beginTone rfl (fun h => by cases h) o_X5_beginTone [r_X6_copyFrom, r_X5_begin] false (by decide +kernel) (by decide +kernel) ⟨_, _, rfl, rfl⟩ (List.forall_mem_cons.mpr ⟨⟨c_X6_copyFrom l G hp, Nat.le_of_ble_eq_true rfl, Nat.le_of_ble_eq_true rfl⟩, List.forall_mem_cons.mpr ⟨⟨c_X5_begin l G hp, Nat.le_of_ble_eq_true rfl, Nat.le_of_ble_eq_true rfl⟩, fun _ h => absurd h List.not_mem_nil⟩⟩) (fun h => by cases h) 600 ?_
  intro as s0 hpre
  obtain ⟨r, a1, rfl, hr, ha1, i0⟩ := hpre
  simp only [List.mem_cons, List.not_mem_nil, or_false] at hr
  rcases hr with rfl
  ·
    simp only [List.mem_cons, List.not_mem_nil, or_false] at ha1
    rcases ha1 with rfl
    ·
      have z0 : (Int32.ofInt 0).toInt = 0 := by decide
      refine ⟨Nat.le_of_ble_eq_true rfl, [], ?_, fun _ h => absurd h List.not_mem_nil⟩
      ·
        refine And.intro (Nat.le_of_ble_eq_true rfl) (And.intro ⟨23, 4, rfl, by decide, by decide, i0⟩ ?_)
        intro s2 h1
        have h1 : Iv s2 ∧ Kp s0 s2 ∧ (True) := h1
        have i3 := h1.1
        have k4 : Kp s0 s2 := Kx.tr Kx.rf (h1.2.1)
        intro s5 e6
        have i7 : Iv s5 := Iv.c1 (lo := 0) (hi := 5000) i3 e6 rfl (by omega) (by omega)
        have k8 : Kp s0 s5 := Kx.u1 k4 e6 rfl
        refine And.intro (Nat.le_of_ble_eq_true rfl) (And.intro ⟨22, rfl, by decide, i7⟩ ?_)
        intro s10 h9
        have h9 : Iv s10 ∧ Kp s5 s10 ∧ (True) := h9
        have i11 := h9.1
        have k12 : Kp s0 s10 := Kx.tr k8 (h9.2.1)
        show Iv s10 ∧ Kp s0 s10 ∧ (True)
        exact ⟨i11, k12, (trivial)⟩
def o_X5_copyFrom : List vg_I := [(0, .aload_n 0, 1, 0, 0, 0, 0), (1, .getfield 12, 3, 178, 5, 0, 0), (4, .aload_n 1, 1, 0, 0, 0, 0), (5, .getfield 12, 3, 178, 5, 0, 0), (8, .invokevirtual 64, 3, 0, 6, 1, 956), (11, .aload_n 0, 1, 0, 0, 0, 0), (12, .invokevirtual 71, 3, 1, 5, 0, 960), (15, .aload_n 1, 1, 0, 0, 0, 0), (16, .getfield 16, 3, 180, 5, 1, 0), (19, .iconst 0, 1, 0, 0, 0, 0), (20, .aload_n 0, 1, 0, 0, 0, 0), (21, .getfield 16, 3, 180, 5, 1, 0), (24, .iconst 0, 1, 0, 0, 0, 0), (25, .iconst 4, 1, 0, 0, 0, 0), (26, .invokestatic 74, 3, 0, 3, 0, 966), (29, .aload_n 1, 1, 0, 0, 0, 0), (30, .getfield 20, 3, 182, 5, 2, 0), (33, .iconst 0, 1, 0, 0, 0, 0), (34, .aload_n 0, 1, 0, 0, 0, 0), (35, .getfield 20, 3, 182, 5, 2, 0), (38, .iconst 0, 1, 0, 0, 0, 0), (39, .bipush 6, 2, 0, 0, 0, 0), (41, .invokestatic 74, 3, 0, 3, 0, 966), (44, .aload_n 0, 1, 0, 0, 0, 0), (45, .aload_n 1, 1, 0, 0, 0, 0), (46, .getfield 29, 3, 183, 5, 3, 0), (49, .putfield 29, 3, 183, 5, 3, 0), (52, .aload_n 0, 1, 0, 0, 0, 0), (53, .aload_n 1, 1, 0, 0, 0, 0), (54, .getfield 36, 3, 185, 5, 4, 0), (57, .putfield 36, 3, 185, 5, 4, 0), (60, .return_, 1, 0, 0, 0, 0)]
set_option maxRecDepth 100000 in
set_option maxHeartbeats 4000000 in
theorem c_X5_copyFrom (l : Launch) (G : vg_G) (hp : vg_Hp G) : vg_Ct l G vg_sh r_X5_copyFrom := by
  refine vg_meth hp vg_sh_ok r_X5_copyFrom k_X5_copyFrom rfl (fun h => by cases h) o_X5_copyFrom [r_X6_copyFrom, r_X5_begin] true (by decide +kernel) (by decide +kernel) ⟨_, _, rfl, rfl⟩ (List.forall_mem_cons.mpr ⟨⟨c_X6_copyFrom l G hp, Nat.le_of_ble_eq_true rfl, Nat.le_of_ble_eq_true rfl⟩, List.forall_mem_cons.mpr ⟨⟨c_X5_begin l G hp, Nat.le_of_ble_eq_true rfl, Nat.le_of_ble_eq_true rfl⟩, fun _ h => absurd h List.not_mem_nil⟩⟩) (fun _ => ⟨⟨Nat.le_of_ble_eq_true rfl, Nat.le_of_ble_eq_true rfl⟩, vg_cpw_in⟩) 600 ?_
  intro as s0 hpre
  obtain ⟨r, a1, rfl, hr, ha1, i0⟩ := hpre
  simp only [List.mem_cons, List.not_mem_nil, or_false] at hr
  rcases hr with rfl
  ·
    simp only [List.mem_cons, List.not_mem_nil, or_false] at ha1
    rcases ha1 with rfl
    ·
      have z0 : (Int32.ofInt 0).toInt = 0 := by decide
      have z4 : (Int32.ofInt 4).toInt = 4 := by decide
      have z6 : (Int32.ofInt 6).toInt = 6 := by decide
      refine ⟨Nat.le_of_ble_eq_true rfl, [], ?_, fun _ h => absurd h List.not_mem_nil⟩
      ·
        refine And.intro (Nat.le_of_ble_eq_true rfl) (And.intro ⟨23, 4, rfl, by decide, by decide, i0⟩ ?_)
        intro s2 h1
        have h1 : Iv s2 ∧ Kp s0 s2 ∧ (True) := h1
        have i3 := h1.1
        have k4 : Kp s0 s2 := Kx.tr Kx.rf (h1.2.1)
        refine And.intro (Nat.le_of_ble_eq_true rfl) (And.intro ⟨22, rfl, by decide, i3⟩ ?_)
        intro s6 h5
        have h5 : Iv s6 ∧ Kp s2 s6 ∧ (True) := h5
        have i7 := h5.1
        have k8 : Kp s0 s6 := Kx.tr k4 (h5.2.1)
        refine And.intro (Nat.le_of_ble_eq_true rfl) (And.intro (by omega) (And.intro (by omega) (And.intro (by omega) (And.intro (by omega) (And.intro (by omega) ?_)))))
        intro s9 e10
        have i11 : Iv s9 := Iv.w1 i7 e10 rfl
        have k12 : Kp s0 s9 := Kx.w1 k8 e10 (fun _ => rfl)
        refine And.intro (Nat.le_of_ble_eq_true rfl) (And.intro (by omega) (And.intro (by omega) (And.intro (by omega) (And.intro (by omega) (And.intro (by omega) ?_)))))
        intro s13 e14
        have i15 : Iv s13 := Iv.w1 i11 e14 rfl
        have k16 : Kp s0 s13 := Kx.w1 k12 e14 (fun _ => rfl)
        intro v17 e18
        have g19 : s6.1 3 3 = v17 := by rw [e18, e14, vg_w1_at (a := 3) (k := 25) (by decide), e10, vg_w1_at (a := 3) (k := 24) (by decide)]
        intro s20 e21
        have i22 : Iv s20 := Iv.u1 i15 e21 rfl
        have k23 : Kp s0 s20 := Kx.u1 k16 e21 rfl
        intro v24 e25
        have g26 : s6.1 3 4 = v24 := by rw [e25, e21, vg_u1_ne (a := 3) (k := 22) (by decide), e14, vg_w1_at (a := 3) (k := 25) (by decide), e10, vg_w1_at (a := 3) (k := 24) (by decide)]
        intro s27 e28
        have i29 : Iv s27 := Iv.u1 i22 e28 rfl
        have k30 : Kp s0 s27 := Kx.u1 k23 e28 rfl
        show Iv s27 ∧ Kp s0 s27 ∧ (True)
        exact ⟨i29, k30, (trivial)⟩
def o_X5_gapNow : List vg_I := [(0, .aload_n 0, 1, 0, 0, 0, 0), (1, .getfield 52, 3, 196, 5, 10, 0), (4, .aload_n 0, 1, 0, 0, 0, 0), (5, .getfield 48, 3, 194, 5, 9, 0), (8, .lsub, 1, 0, 0, 0, 0), (9, .lreturn, 1, 0, 0, 0, 0)]
set_option maxRecDepth 100000 in
set_option maxHeartbeats 4000000 in
theorem c_X5_gapNow (l : Launch) (G : vg_G) (hp : vg_Hp G) : vg_Ct l G vg_sh r_X5_gapNow := by
  refine vg_meth hp vg_sh_ok r_X5_gapNow k_X5_gapNow rfl (fun h => by cases h) o_X5_gapNow [] false (by decide +kernel) (by decide +kernel) ⟨_, _, rfl, rfl⟩ (fun _ h => absurd h List.not_mem_nil) (fun h => by cases h) 600 ?_
  intro as s0 hpre
  obtain ⟨r, rfl, hr, i0⟩ := hpre
  simp only [List.mem_cons, List.not_mem_nil, or_false] at hr
  rcases hr with rfl | rfl
  ·
    refine ⟨Nat.le_of_ble_eq_true rfl, [], ?_, fun _ h => absurd h List.not_mem_nil⟩
    ·
      intro v1 e2
      intro v3 e4
      intro v5 e6
      show s0 = s0 ∧ (True)
      exact ⟨rfl, (trivial)⟩
  ·
    refine ⟨Nat.le_of_ble_eq_true rfl, [], ?_, fun _ h => absurd h List.not_mem_nil⟩
    ·
      intro v1 e2
      intro v3 e4
      intro v5 e6
      show s0 = s0 ∧ (True)
      exact ⟨rfl, (trivial)⟩
def o_X5_drawDither : List vg_I := [(0, .aload_n 0, 1, 0, 0, 0, 0), (1, .getfield 12, 3, 178, 5, 0, 0), (4, .getfield 68, 3, 156, 6, 6, 0), (7, .ifCond .ne 5, 3, 0, 0, 0, 0), (10, .iconst 0, 1, 0, 0, 0, 0), (11, .ireturn, 1, 0, 0, 0, 0), (12, .aload_n 0, 1, 0, 0, 0, 0), (13, .aload_n 0, 1, 0, 0, 0, 0), (14, .getfield 36, 3, 185, 5, 4, 0), (17, .i2l, 1, 0, 0, 0, 0), (18, .ldc2_w 158, 3, 653, 0, 0, 1103515245), (21, .lmul, 1, 0, 0, 0, 0), (22, .ldc2_w 160, 3, 654, 0, 0, 12345), (25, .ladd, 1, 0, 0, 0, 0), (26, .ldc2_w 162, 3, 655, 0, 0, 2147483647), (29, .land, 1, 0, 0, 0, 0), (30, .l2i, 1, 0, 0, 0, 0), (31, .putfield 36, 3, 185, 5, 4, 0), (34, .aload_n 0, 1, 0, 0, 0, 0), (35, .getfield 36, 3, 185, 5, 4, 0), (38, .ldc 164, 2, 656, 0, 0, 65536), (40, .idiv, 1, 0, 0, 0, 0), (41, .iconst 2, 1, 0, 0, 0, 0), (42, .aload_n 0, 1, 0, 0, 0, 0), (43, .getfield 12, 3, 178, 5, 0, 0), (46, .getfield 68, 3, 156, 6, 6, 0), (49, .imul, 1, 0, 0, 0, 0), (50, .iconst 1, 1, 0, 0, 0, 0), (51, .iadd, 1, 0, 0, 0, 0), (52, .irem, 1, 0, 0, 0, 0), (53, .aload_n 0, 1, 0, 0, 0, 0), (54, .getfield 12, 3, 178, 5, 0, 0), (57, .getfield 68, 3, 156, 6, 6, 0), (60, .isub, 1, 0, 0, 0, 0), (61, .ireturn, 1, 0, 0, 0, 0)]
set_option maxRecDepth 100000 in
set_option maxHeartbeats 4000000 in
theorem c_X5_drawDither (l : Launch) (G : vg_G) (hp : vg_Hp G) : vg_Ct l G vg_sh r_X5_drawDither := by
  refine vg_meth hp vg_sh_ok r_X5_drawDither k_X5_drawDither rfl (fun h => by cases h) o_X5_drawDither [] false (by decide +kernel) (by decide +kernel) ⟨_, _, rfl, rfl⟩ (fun _ h => absurd h List.not_mem_nil) (fun h => by cases h) 600 ?_
  intro as s0 hpre
  obtain ⟨r, rfl, hr, i0⟩ := hpre
  simp only [List.mem_cons, List.not_mem_nil, or_false] at hr
  rcases hr with rfl | rfl
  ·
    have z0 : (Int32.ofInt 0).toInt = 0 := by decide
    have z1 : (Int32.ofInt 1).toInt = 1 := by decide
    have z2 : (Int32.ofInt 2).toInt = 2 := by decide
    have z65536 : (Int32.ofInt 65536).toInt = 65536 := by decide
    refine ⟨Nat.le_of_ble_eq_true rfl, [], ?_, fun _ h => absurd h List.not_mem_nil⟩
    ·
      intro v1 e2
      have g3 : s0.1 4 6 = v1 := by rw [e2]
      have b4 : (0 : Int) ≤ v1.toInt ∧ v1.toInt ≤ 5000 := by rw [e2]; exact Iv_4_6 i0
      refine And.intro (fun c5 => ?_) (fun c5 => ?_)
      · have c5 : ¬ v1.toInt = 0 := c5
        intro v6 e7
        have g8 : s0.1 3 4 = v6 := by rw [e7]
        intro v9 e10
        intro v11 e12
        intro v13 e14
        intro v15 e16
        intro v17 e18
        intro s19 e20
        have i21 : Iv s19 := Iv.u1 i0 e20 rfl
        have k22 : Kp s0 s19 := Kx.u1 Kx.rf e20 rfl
        intro v23 e24
        have w25 : v17 = v23 := by rw [e24, e20]; exact vg_u1_self.symm
        subst w25
        refine And.intro (by omega) ?_
        intro v26 e27
        intro v28 e29
        have w30 : v1 = v28 := by rw [e29, e20, vg_u1_ne (a := 4) (k := 3) (by decide), g3]
        subst w30
        intro v31 e32
        have b33 : v31.toInt = (2) * v1.toInt := vg_mulL e32 (by omega) (by omega) (by omega)
        intro v34 e35
        have b36 := vg_add e35 (by omega) (by omega)
        refine And.intro (by omega) ?_
        intro v37 e38
        have b39 := vg_remx e38 (by omega)
        intro v40 e41
        have w42 : v1 = v40 := by rw [e41, e20, vg_u1_ne (a := 4) (k := 3) (by decide), g3]
        subst w42
        intro v43 e44
        show Iv s19 ∧ Kp s0 s19 ∧ (True)
        exact ⟨i21, k22, (trivial)⟩
      · have c5 : ¬ (¬ v1.toInt = 0) := c5
        show Iv s0 ∧ Kp s0 s0 ∧ (True)
        exact ⟨i0, Kx.rf, (trivial)⟩
  ·
    have z0 : (Int32.ofInt 0).toInt = 0 := by decide
    have z1 : (Int32.ofInt 1).toInt = 1 := by decide
    have z2 : (Int32.ofInt 2).toInt = 2 := by decide
    have z65536 : (Int32.ofInt 65536).toInt = 65536 := by decide
    refine ⟨Nat.le_of_ble_eq_true rfl, [], ?_, fun _ h => absurd h List.not_mem_nil⟩
    ·
      intro v1 e2
      have g3 : s0.1 23 6 = v1 := by rw [e2]
      have b4 : (0 : Int) ≤ v1.toInt ∧ v1.toInt ≤ 5000 := by rw [e2]; exact Iv_23_6 i0
      refine And.intro (fun c5 => ?_) (fun c5 => ?_)
      · have c5 : ¬ v1.toInt = 0 := c5
        intro v6 e7
        have g8 : s0.1 22 4 = v6 := by rw [e7]
        intro v9 e10
        intro v11 e12
        intro v13 e14
        intro v15 e16
        intro v17 e18
        intro s19 e20
        have i21 : Iv s19 := Iv.u1 i0 e20 rfl
        have k22 : Kp s0 s19 := Kx.u1 Kx.rf e20 rfl
        intro v23 e24
        have w25 : v17 = v23 := by rw [e24, e20]; exact vg_u1_self.symm
        subst w25
        refine And.intro (by omega) ?_
        intro v26 e27
        intro v28 e29
        have w30 : v1 = v28 := by rw [e29, e20, vg_u1_ne (a := 23) (k := 22) (by decide), g3]
        subst w30
        intro v31 e32
        have b33 : v31.toInt = (2) * v1.toInt := vg_mulL e32 (by omega) (by omega) (by omega)
        intro v34 e35
        have b36 := vg_add e35 (by omega) (by omega)
        refine And.intro (by omega) ?_
        intro v37 e38
        have b39 := vg_remx e38 (by omega)
        intro v40 e41
        have w42 : v1 = v40 := by rw [e41, e20, vg_u1_ne (a := 23) (k := 22) (by decide), g3]
        subst w42
        intro v43 e44
        show Iv s19 ∧ Kp s0 s19 ∧ (True)
        exact ⟨i21, k22, (trivial)⟩
      · have c5 : ¬ (¬ v1.toInt = 0) := c5
        show Iv s0 ∧ Kp s0 s0 ∧ (True)
        exact ⟨i0, Kx.rf, (trivial)⟩
def o_X5_hold : List vg_I := [(0, .iload_n 1, 1, 0, 0, 0, 0), (1, .aload_n 0, 1, 0, 0, 0, 0), (2, .getfield 12, 3, 178, 5, 0, 0), (5, .getfield 146, 3, 151, 6, 4, 0), (8, .invokestatic 149, 3, 0, 2, 2, 2), (11, .istore_n 2, 1, 0, 0, 0, 0), (12, .iload_n 2, 1, 0, 0, 0, 0), (13, .iload_n 1, 1, 0, 0, 0, 0), (14, .if_icmp .eq 31, 3, 0, 0, 0, 0), (17, .aload_n 0, 1, 0, 0, 0, 0), (18, .iconst 1, 1, 0, 0, 0, 0), (19, .putfield 80, 3, 191, 5, 7, 1), (22, .aload_n 0, 1, 0, 0, 0, 0), (23, .dup, 1, 0, 0, 0, 0), (24, .getfield 39, 3, 187, 5, 5, 0), (27, .iconst 1, 1, 0, 0, 0, 0), (28, .iadd, 1, 0, 0, 0, 0), (29, .putfield 39, 3, 187, 5, 5, 0), (32, .aload_n 0, 1, 0, 0, 0, 0), (33, .dup, 1, 0, 0, 0, 0), (34, .getfield 58, 3, 200, 5, 12, 0), (37, .iload_n 1, 1, 0, 0, 0, 0), (38, .iload_n 2, 1, 0, 0, 0, 0), (39, .isub, 1, 0, 0, 0, 0), (40, .i2l, 1, 0, 0, 0, 0), (41, .ladd, 1, 0, 0, 0, 0), (42, .putfield 58, 3, 200, 5, 12, 2), (45, .aload_n 0, 1, 0, 0, 0, 0), (46, .aload_n 0, 1, 0, 0, 0, 0), (47, .getfield 45, 3, 192, 5, 8, 0), (50, .iload_n 2, 1, 0, 0, 0, 0), (51, .invokestatic 154, 3, 1, 1, 1, 666), (54, .invokestatic 156, 3, 2, 1, 2, 669), (57, .putfield 45, 3, 192, 5, 8, 0), (60, .iload_n 2, 1, 0, 0, 0, 0), (61, .ireturn, 1, 0, 0, 0, 0)]
set_option maxRecDepth 100000 in
set_option maxHeartbeats 4000000 in
theorem c_X5_hold (l : Launch) (G : vg_G) (hp : vg_Hp G) : vg_Ct l G vg_sh r_X5_hold := by
  refine vg_meth hp vg_sh_ok r_X5_hold k_X5_hold rfl (fun h => by cases h) o_X5_hold [r_X10_putTo, r_J9_abs_0f7a4, r_J9_max_7cf53] false (by decide +kernel) (by decide +kernel) ⟨_, _, rfl, rfl⟩ (List.forall_mem_cons.mpr ⟨⟨c_X10_putTo l G hp, Nat.le_of_ble_eq_true rfl, Nat.le_of_ble_eq_true rfl⟩, List.forall_mem_cons.mpr ⟨⟨c_J9_abs_0f7a4 l G hp, Nat.le_of_ble_eq_true rfl, Nat.le_of_ble_eq_true rfl⟩, List.forall_mem_cons.mpr ⟨⟨c_J9_max_7cf53 l G hp, Nat.le_of_ble_eq_true rfl, Nat.le_of_ble_eq_true rfl⟩, fun _ h => absurd h List.not_mem_nil⟩⟩⟩) (fun h => by cases h) 600 ?_
  intro as s0 hpre
  obtain ⟨r, a1, rfl, hr, i0⟩ := hpre
  simp only [List.mem_cons, List.not_mem_nil, or_false] at hr
  rcases hr with rfl | rfl
  ·
    have z1 : (Int32.ofInt 1).toInt = 1 := by decide
    refine ⟨Nat.le_of_ble_eq_true rfl, [], ?_, fun _ h => absurd h List.not_mem_nil⟩
    ·
      intro v1 e2
      have g3 : s0.1 4 4 = v1 := by rw [e2]
      have b4 : (1 : Int) ≤ v1.toInt ∧ v1.toInt ≤ 60000 := by rw [e2]; exact Iv_4_4 i0
      refine And.intro (Nat.le_of_ble_eq_true rfl) (And.intro ⟨a1, v1, rfl, trivial⟩ ?_)
      intro v5 s7 h6
      have h6 : s7 = s0 ∧ (True) := h6
      have q10 := h6.1.symm
      subst q10
      refine And.intro (fun c11 => ?_) (fun c11 => ?_)
      · have c11 : v5.toInt = a1.toInt := c11
        intro v12 e13
        have g14 : s0.1 3 8 = v12 := by rw [e13]
        refine And.intro (Nat.le_of_ble_eq_true rfl) (And.intro ⟨v5, rfl, trivial⟩ ?_)
        intro v15 s17 h16
        have h16 : s17 = s0 ∧ (True) := h16
        have q20 := h16.1.symm
        subst q20
        refine And.intro (Nat.le_of_ble_eq_true rfl) (And.intro ⟨v12, v15, rfl, trivial⟩ ?_)
        intro v21 s23 h22
        have h22 : s23 = s0 ∧ (v12.toInt ≤ v21.toInt ∧ v15.toInt ≤ v21.toInt ∧ (v21.toInt = v12.toInt ∨ v21.toInt = v15.toInt)) := h22
        have q26 := h22.1.symm
        subst q26
        have q27 := h22.2
        intro s28 e29
        have i30 : Iv s28 := Iv.u1 i0 e29 rfl
        have k31 : Kp s0 s28 := Kx.u1 Kx.rf e29 rfl
        show Iv s28 ∧ Kp s0 s28 ∧ (True)
        exact ⟨i30, k31, (trivial)⟩
      · have c11 : ¬ (v5.toInt = a1.toInt) := c11
        refine And.intro (by first | exact Or.inl rfl | exact Or.inr rfl | exact vg_01 (by omega) (by omega)) ?_
        intro s32 e33
        have i34 : Iv s32 := Iv.u1 i0 e33 rfl
        have k35 : Kp s0 s32 := Kx.u1 Kx.rf e33 rfl
        intro v36 e37
        have g38 : s0.1 3 5 = v36 := by rw [e37, e33, vg_u1_at (a := 3) (b := 5) (k := 3) (i := 7) (by decide)]
        intro v39 e40
        intro s41 e42
        have i43 : Iv s41 := Iv.u1 i34 e42 rfl
        have k44 : Kp s0 s41 := Kx.u1 k35 e42 rfl
        intro v45 e46
        intro v47 e48
        intro v49 e50
        intro v51 e52
        intro s53 e54
        have i55 : Iv s53 := Iv.u2 i43 e54
        have k56 : Kp s0 s53 := Kx.u2 k44 e54 (vg_kq_no ⟨rfl, rfl, rfl⟩).1
        intro v57 e58
        have g59 : s0.1 3 8 = v57 := by rw [e58, e54, vg_u2_1, e42, vg_u1_at (a := 3) (b := 8) (k := 3) (i := 5) (by decide), e33, vg_u1_at (a := 3) (b := 8) (k := 3) (i := 7) (by decide)]
        refine And.intro (Nat.le_of_ble_eq_true rfl) (And.intro ⟨v5, rfl, trivial⟩ ?_)
        intro v60 s62 h61
        have h61 : s62 = s53 ∧ (True) := h61
        have q65 := h61.1.symm
        subst q65
        refine And.intro (Nat.le_of_ble_eq_true rfl) (And.intro ⟨v57, v60, rfl, trivial⟩ ?_)
        intro v66 s68 h67
        have h67 : s68 = s53 ∧ (v57.toInt ≤ v66.toInt ∧ v60.toInt ≤ v66.toInt ∧ (v66.toInt = v57.toInt ∨ v66.toInt = v60.toInt)) := h67
        have q71 := h67.1.symm
        subst q71
        have q72 := h67.2
        intro s73 e74
        have i75 : Iv s73 := Iv.u1 i55 e74 rfl
        have k76 : Kp s0 s73 := Kx.u1 k56 e74 rfl
        show Iv s73 ∧ Kp s0 s73 ∧ (True)
        exact ⟨i75, k76, (trivial)⟩
  ·
    have z1 : (Int32.ofInt 1).toInt = 1 := by decide
    refine ⟨Nat.le_of_ble_eq_true rfl, [], ?_, fun _ h => absurd h List.not_mem_nil⟩
    ·
      intro v1 e2
      have g3 : s0.1 23 4 = v1 := by rw [e2]
      have b4 : (1 : Int) ≤ v1.toInt ∧ v1.toInt ≤ 60000 := by rw [e2]; exact Iv_23_4 i0
      refine And.intro (Nat.le_of_ble_eq_true rfl) (And.intro ⟨a1, v1, rfl, trivial⟩ ?_)
      intro v5 s7 h6
      have h6 : s7 = s0 ∧ (True) := h6
      have q10 := h6.1.symm
      subst q10
      refine And.intro (fun c11 => ?_) (fun c11 => ?_)
      · have c11 : v5.toInt = a1.toInt := c11
        intro v12 e13
        have g14 : s0.1 22 8 = v12 := by rw [e13]
        refine And.intro (Nat.le_of_ble_eq_true rfl) (And.intro ⟨v5, rfl, trivial⟩ ?_)
        intro v15 s17 h16
        have h16 : s17 = s0 ∧ (True) := h16
        have q20 := h16.1.symm
        subst q20
        refine And.intro (Nat.le_of_ble_eq_true rfl) (And.intro ⟨v12, v15, rfl, trivial⟩ ?_)
        intro v21 s23 h22
        have h22 : s23 = s0 ∧ (v12.toInt ≤ v21.toInt ∧ v15.toInt ≤ v21.toInt ∧ (v21.toInt = v12.toInt ∨ v21.toInt = v15.toInt)) := h22
        have q26 := h22.1.symm
        subst q26
        have q27 := h22.2
        intro s28 e29
        have i30 : Iv s28 := Iv.u1 i0 e29 rfl
        have k31 : Kp s0 s28 := Kx.u1 Kx.rf e29 rfl
        show Iv s28 ∧ Kp s0 s28 ∧ (True)
        exact ⟨i30, k31, (trivial)⟩
      · have c11 : ¬ (v5.toInt = a1.toInt) := c11
        refine And.intro (by first | exact Or.inl rfl | exact Or.inr rfl | exact vg_01 (by omega) (by omega)) ?_
        intro s32 e33
        have i34 : Iv s32 := Iv.u1 i0 e33 rfl
        have k35 : Kp s0 s32 := Kx.u1 Kx.rf e33 rfl
        intro v36 e37
        have g38 : s0.1 22 5 = v36 := by rw [e37, e33, vg_u1_at (a := 22) (b := 5) (k := 22) (i := 7) (by decide)]
        intro v39 e40
        intro s41 e42
        have i43 : Iv s41 := Iv.u1 i34 e42 rfl
        have k44 : Kp s0 s41 := Kx.u1 k35 e42 rfl
        intro v45 e46
        intro v47 e48
        intro v49 e50
        intro v51 e52
        intro s53 e54
        have i55 : Iv s53 := Iv.u2 i43 e54
        have k56 : Kp s0 s53 := Kx.u2 k44 e54 (vg_kq_no ⟨rfl, rfl, rfl⟩).1
        intro v57 e58
        have g59 : s0.1 22 8 = v57 := by rw [e58, e54, vg_u2_1, e42, vg_u1_at (a := 22) (b := 8) (k := 22) (i := 5) (by decide), e33, vg_u1_at (a := 22) (b := 8) (k := 22) (i := 7) (by decide)]
        refine And.intro (Nat.le_of_ble_eq_true rfl) (And.intro ⟨v5, rfl, trivial⟩ ?_)
        intro v60 s62 h61
        have h61 : s62 = s53 ∧ (True) := h61
        have q65 := h61.1.symm
        subst q65
        refine And.intro (Nat.le_of_ble_eq_true rfl) (And.intro ⟨v57, v60, rfl, trivial⟩ ?_)
        intro v66 s68 h67
        have h67 : s68 = s53 ∧ (v57.toInt ≤ v66.toInt ∧ v60.toInt ≤ v66.toInt ∧ (v66.toInt = v57.toInt ∨ v66.toInt = v60.toInt)) := h67
        have q71 := h67.1.symm
        subst q71
        have q72 := h67.2
        intro s73 e74
        have i75 : Iv s73 := Iv.u1 i55 e74 rfl
        have k76 : Kp s0 s73 := Kx.u1 k56 e74 rfl
        show Iv s73 ∧ Kp s0 s73 ∧ (True)
        exact ⟨i75, k76, (trivial)⟩
def o_X5_outOfSums : List vg_I := [(0, .iload_n 1, 1, 0, 0, 0, 0), (1, .istore_n 3, 1, 0, 0, 0, 0), (2, .iconst 0, 1, 0, 0, 0, 0), (3, .istore 4, 2, 0, 0, 0, 0), (5, .iload 4, 2, 0, 0, 0, 0), (7, .aload_n 0, 1, 0, 0, 0, 0), (8, .getfield 12, 3, 178, 5, 0, 0), (11, .getfield 134, 3, 144, 6, 1, 0), (14, .if_icmp .ge 42, 3, 0, 0, 0, 0), (17, .aload_n 0, 1, 0, 0, 0, 0), (18, .getfield 16, 3, 180, 5, 1, 0), (21, .iload 4, 2, 0, 0, 0, 0), (23, .aload_n 0, 1, 0, 0, 0, 0), (24, .aload_n 0, 1, 0, 0, 0, 0), (25, .getfield 16, 3, 180, 5, 1, 0), (28, .iload 4, 2, 0, 0, 0, 0), (30, .iaload, 1, 0, 0, 0, 0), (31, .iload_n 3, 1, 0, 0, 0, 0), (32, .iadd, 1, 0, 0, 0, 0), (33, .aload_n 0, 1, 0, 0, 0, 0), (34, .getfield 29, 3, 183, 5, 3, 0), (37, .isub, 1, 0, 0, 0, 0), (38, .invokevirtual 131, 3, 0, 5, 1, 661), (41, .iastore, 1, 0, 0, 0, 0), (42, .aload_n 0, 1, 0, 0, 0, 0), (43, .getfield 16, 3, 180, 5, 1, 0), (46, .iload 4, 2, 0, 0, 0, 0), (48, .iaload, 1, 0, 0, 0, 0), (49, .istore_n 3, 1, 0, 0, 0, 0), (50, .iinc 4 1, 3, 0, 0, 0, 0), (53, .goto (-48), 3, 0, 0, 0, 0), (56, .aload_n 0, 1, 0, 0, 0, 0), (57, .getfield 12, 3, 178, 5, 0, 0), (60, .iload_n 3, 1, 0, 0, 0, 0), (61, .iload_n 2, 1, 0, 0, 0, 0), (62, .iadd, 1, 0, 0, 0, 0), (63, .invokevirtual 128, 3, 1, 6, 1, 672), (66, .ireturn, 1, 0, 0, 0, 0)]
set_option maxRecDepth 100000 in
set_option maxHeartbeats 4000000 in
theorem c_X5_outOfSums (l : Launch) (G : vg_G) (hp : vg_Hp G) : vg_Ct l G vg_sh r_X5_outOfSums := by
  refine vg_meth hp vg_sh_ok r_X5_outOfSums k_X5_outOfSums rfl (fun h => by cases h) o_X5_outOfSums [r_X5_hold, r_X6_nearest] false (by decide +kernel) (by decide +kernel) ⟨_, _, rfl, rfl⟩ (List.forall_mem_cons.mpr ⟨⟨c_X5_hold l G hp, Nat.le_of_ble_eq_true rfl, Nat.le_of_ble_eq_true rfl⟩, List.forall_mem_cons.mpr ⟨⟨c_X6_nearest l G hp, Nat.le_of_ble_eq_true rfl, Nat.le_of_ble_eq_true rfl⟩, fun _ h => absurd h List.not_mem_nil⟩⟩) (fun h => by cases h) 600 ?_
  intro as s0 hpre
  obtain ⟨r, a1, a2, rfl, hr, i0⟩ := hpre
  simp only [List.mem_cons, List.not_mem_nil, or_false] at hr
  rcases hr with rfl | rfl
  ·
    have z0 : (Int32.ofInt 0).toInt = 0 := by decide
    have z1 : (Int32.ofInt 1).toInt = 1 := by decide
    refine ⟨Nat.le_of_ble_eq_true rfl, [(5, [true, false, true, true, true], (fun L t => ∃ (x3 : Int32) (x4 : Int32), L = [some (.ref 3), none, some (.int a2), some (.int x3), some (.int x4)] ∧ (0 : Int) ≤ x4.toInt ∧ x4.toInt ≤ (4 : Int) ∧ Iv t ∧ Kp s0 t), (fun L _ => (0 + (4 - (vg_li L 4).toInt) * 1000000000000).toNat))], ?_, List.forall_mem_cons.mpr ⟨?_, fun _ h => absurd h List.not_mem_nil⟩⟩
    ·
      exact ⟨rfl, ⟨a1, (Int32.ofInt 0), rfl, (by omega), (by omega), i0, Kx.rf⟩, trivial⟩
    ·
      intro L s5 hL
      obtain ⟨w1, w2, rfl, b3, b4, i6, k7⟩ := hL
      intro v8 e9
      have g10 : s5.1 4 1 = v8 := by rw [e9]
      have b11 : (1 : Int) ≤ v8.toInt ∧ v8.toInt ≤ 4 := by rw [e9]; exact Iv_4_1 i6
      refine And.intro (fun c12 => ?_) (fun c12 => ?_)
      · have c12 : v8.toInt ≤ w2.toInt := c12
        intro v13 e14
        refine And.intro (Nat.le_of_ble_eq_true rfl) (And.intro ⟨4, v13, rfl, by decide, i6⟩ ?_)
        intro v15 s17 h16
        have h16 : s17 = s5 ∧ (True) := h16
        have q20 := h16.1.symm
        subst q20
        show Iv s5 ∧ Kp s0 s5 ∧ (True)
        exact ⟨i6, k7, (trivial)⟩
      · have c12 : ¬ (v8.toInt ≤ w2.toInt) := c12
        refine And.intro ⟨by omega, by omega⟩ ?_
        intro v21 e22
        intro v23 e24
        intro v25 e26
        have g27 : s5.1 3 3 = v25 := by rw [e26]
        intro v28 e29
        refine And.intro (Nat.le_of_ble_eq_true rfl) (And.intro ⟨3, v28, rfl, by decide, i6⟩ ?_)
        intro v30 s32 h31
        have h31 : Iv s32 ∧ Kp s5 s32 ∧ (True) := h31
        have i33 := h31.1
        have k34 : Kp s0 s32 := Kx.tr k7 (h31.2.1)
        refine And.intro ⟨by omega, by omega⟩ ?_
        intro s35 e36
        have i37 : Iv s35 := Iv.a1 i33 e36 rfl
        have k38 : Kp s0 s35 := Kx.u1 k34 e36 rfl
        refine And.intro ⟨by omega, by omega⟩ ?_
        intro v39 e40
        intro v41 e42
        have b43 := vg_add e42 (by omega) (by omega)
        exact ⟨rfl, ⟨v39, v41, rfl, (by omega), (by omega), i37, k38⟩, (by show (0 + (4 - v41.toInt) * 1000000000000).toNat < (0 + (4 - w2.toInt) * 1000000000000).toNat; omega)⟩
  ·
    have z0 : (Int32.ofInt 0).toInt = 0 := by decide
    have z1 : (Int32.ofInt 1).toInt = 1 := by decide
    refine ⟨Nat.le_of_ble_eq_true rfl, [(5, [true, false, true, true, true], (fun L t => ∃ (x3 : Int32) (x4 : Int32), L = [some (.ref 22), none, some (.int a2), some (.int x3), some (.int x4)] ∧ (0 : Int) ≤ x4.toInt ∧ x4.toInt ≤ (4 : Int) ∧ Iv t ∧ Kp s0 t), (fun L _ => (0 + (4 - (vg_li L 4).toInt) * 1000000000000).toNat))], ?_, List.forall_mem_cons.mpr ⟨?_, fun _ h => absurd h List.not_mem_nil⟩⟩
    ·
      exact ⟨rfl, ⟨a1, (Int32.ofInt 0), rfl, (by omega), (by omega), i0, Kx.rf⟩, trivial⟩
    ·
      intro L s5 hL
      obtain ⟨w1, w2, rfl, b3, b4, i6, k7⟩ := hL
      intro v8 e9
      have g10 : s5.1 23 1 = v8 := by rw [e9]
      have b11 : (1 : Int) ≤ v8.toInt ∧ v8.toInt ≤ 4 := by rw [e9]; exact Iv_23_1 i6
      refine And.intro (fun c12 => ?_) (fun c12 => ?_)
      · have c12 : v8.toInt ≤ w2.toInt := c12
        intro v13 e14
        refine And.intro (Nat.le_of_ble_eq_true rfl) (And.intro ⟨23, v13, rfl, by decide, i6⟩ ?_)
        intro v15 s17 h16
        have h16 : s17 = s5 ∧ (True) := h16
        have q20 := h16.1.symm
        subst q20
        show Iv s5 ∧ Kp s0 s5 ∧ (True)
        exact ⟨i6, k7, (trivial)⟩
      · have c12 : ¬ (v8.toInt ≤ w2.toInt) := c12
        refine And.intro ⟨by omega, by omega⟩ ?_
        intro v21 e22
        intro v23 e24
        intro v25 e26
        have g27 : s5.1 22 3 = v25 := by rw [e26]
        intro v28 e29
        refine And.intro (Nat.le_of_ble_eq_true rfl) (And.intro ⟨22, v28, rfl, by decide, i6⟩ ?_)
        intro v30 s32 h31
        have h31 : Iv s32 ∧ Kp s5 s32 ∧ (True) := h31
        have i33 := h31.1
        have k34 : Kp s0 s32 := Kx.tr k7 (h31.2.1)
        refine And.intro ⟨by omega, by omega⟩ ?_
        intro s35 e36
        have i37 : Iv s35 := Iv.a1 i33 e36 rfl
        have k38 : Kp s0 s35 := Kx.u1 k34 e36 rfl
        refine And.intro ⟨by omega, by omega⟩ ?_
        intro v39 e40
        intro v41 e42
        have b43 := vg_add e42 (by omega) (by omega)
        exact ⟨rfl, ⟨v39, v41, rfl, (by omega), (by omega), i37, k38⟩, (by show (0 + (4 - v41.toInt) * 1000000000000).toNat < (0 + (4 - w2.toInt) * 1000000000000).toNat; omega)⟩
def o_X5_differenceOf : List vg_I := [(0, .iload_n 1, 1, 0, 0, 0, 0), (1, .tableswitch 144 1 3 #[27, 45, 84], 27, 0, 0, 0, 0), (28, .iload_n 2, 1, 0, 0, 0, 0), (29, .aload_n 0, 1, 0, 0, 0, 0), (30, .getfield 20, 3, 182, 5, 2, 0), (33, .iconst 0, 1, 0, 0, 0, 0), (34, .iaload, 1, 0, 0, 0, 0), (35, .isub, 1, 0, 0, 0, 0), (36, .istore_n 3, 1, 0, 0, 0, 0), (37, .aload_n 0, 1, 0, 0, 0, 0), (38, .getfield 20, 3, 182, 5, 2, 0), (41, .iconst 0, 1, 0, 0, 0, 0), (42, .iload_n 2, 1, 0, 0, 0, 0), (43, .iastore, 1, 0, 0, 0, 0), (44, .iload_n 3, 1, 0, 0, 0, 0), (45, .ireturn, 1, 0, 0, 0, 0), (46, .iload_n 2, 1, 0, 0, 0, 0), (47, .iconst 2, 1, 0, 0, 0, 0), (48, .aload_n 0, 1, 0, 0, 0, 0), (49, .getfield 20, 3, 182, 5, 2, 0), (52, .iconst 1, 1, 0, 0, 0, 0), (53, .iaload, 1, 0, 0, 0, 0), (54, .imul, 1, 0, 0, 0, 0), (55, .isub, 1, 0, 0, 0, 0), (56, .aload_n 0, 1, 0, 0, 0, 0), (57, .getfield 20, 3, 182, 5, 2, 0), (60, .iconst 2, 1, 0, 0, 0, 0), (61, .iaload, 1, 0, 0, 0, 0), (62, .iadd, 1, 0, 0, 0, 0), (63, .istore_n 3, 1, 0, 0, 0, 0), (64, .aload_n 0, 1, 0, 0, 0, 0), (65, .getfield 20, 3, 182, 5, 2, 0), (68, .iconst 2, 1, 0, 0, 0, 0), (69, .aload_n 0, 1, 0, 0, 0, 0), (70, .getfield 20, 3, 182, 5, 2, 0), (73, .iconst 1, 1, 0, 0, 0, 0), (74, .iaload, 1, 0, 0, 0, 0), (75, .iastore, 1, 0, 0, 0, 0), (76, .aload_n 0, 1, 0, 0, 0, 0), (77, .getfield 20, 3, 182, 5, 2, 0), (80, .iconst 1, 1, 0, 0, 0, 0), (81, .iload_n 2, 1, 0, 0, 0, 0), (82, .iastore, 1, 0, 0, 0, 0), (83, .iload_n 3, 1, 0, 0, 0, 0), (84, .ireturn, 1, 0, 0, 0, 0), (85, .iload_n 2, 1, 0, 0, 0, 0), (86, .iconst 3, 1, 0, 0, 0, 0), (87, .aload_n 0, 1, 0, 0, 0, 0), (88, .getfield 20, 3, 182, 5, 2, 0), (91, .iconst 3, 1, 0, 0, 0, 0), (92, .iaload, 1, 0, 0, 0, 0), (93, .imul, 1, 0, 0, 0, 0), (94, .isub, 1, 0, 0, 0, 0), (95, .iconst 3, 1, 0, 0, 0, 0), (96, .aload_n 0, 1, 0, 0, 0, 0), (97, .getfield 20, 3, 182, 5, 2, 0), (100, .iconst 4, 1, 0, 0, 0, 0), (101, .iaload, 1, 0, 0, 0, 0), (102, .imul, 1, 0, 0, 0, 0), (103, .iadd, 1, 0, 0, 0, 0), (104, .aload_n 0, 1, 0, 0, 0, 0), (105, .getfield 20, 3, 182, 5, 2, 0), (108, .iconst 5, 1, 0, 0, 0, 0), (109, .iaload, 1, 0, 0, 0, 0), (110, .isub, 1, 0, 0, 0, 0), (111, .istore_n 3, 1, 0, 0, 0, 0), (112, .aload_n 0, 1, 0, 0, 0, 0), (113, .getfield 20, 3, 182, 5, 2, 0), (116, .iconst 5, 1, 0, 0, 0, 0), (117, .aload_n 0, 1, 0, 0, 0, 0), (118, .getfield 20, 3, 182, 5, 2, 0), (121, .iconst 4, 1, 0, 0, 0, 0), (122, .iaload, 1, 0, 0, 0, 0), (123, .iastore, 1, 0, 0, 0, 0), (124, .aload_n 0, 1, 0, 0, 0, 0), (125, .getfield 20, 3, 182, 5, 2, 0), (128, .iconst 4, 1, 0, 0, 0, 0), (129, .aload_n 0, 1, 0, 0, 0, 0), (130, .getfield 20, 3, 182, 5, 2, 0), (133, .iconst 3, 1, 0, 0, 0, 0), (134, .iaload, 1, 0, 0, 0, 0), (135, .iastore, 1, 0, 0, 0, 0), (136, .aload_n 0, 1, 0, 0, 0, 0), (137, .getfield 20, 3, 182, 5, 2, 0), (140, .iconst 3, 1, 0, 0, 0, 0), (141, .iload_n 2, 1, 0, 0, 0, 0), (142, .iastore, 1, 0, 0, 0, 0), (143, .iload_n 3, 1, 0, 0, 0, 0), (144, .ireturn, 1, 0, 0, 0, 0), (145, .iload_n 2, 1, 0, 0, 0, 0), (146, .ireturn, 1, 0, 0, 0, 0)]
set_option maxRecDepth 100000 in
set_option maxHeartbeats 4000000 in
theorem c_X5_differenceOf (l : Launch) (G : vg_G) (hp : vg_Hp G) : vg_Ct l G vg_sh r_X5_differenceOf := by
  refine vg_meth hp vg_sh_ok r_X5_differenceOf k_X5_differenceOf rfl (fun h => by cases h) o_X5_differenceOf [] false (by decide +kernel) (by decide +kernel) ⟨_, _, rfl, rfl⟩ (fun _ h => absurd h List.not_mem_nil) (fun h => by cases h) 600 ?_
  intro as s0 hpre
  obtain ⟨r, a1, a2, rfl, hr, i0⟩ := hpre
  simp only [List.mem_cons, List.not_mem_nil, or_false] at hr
  rcases hr with rfl | rfl
  ·
    have z0 : (Int32.ofInt 0).toInt = 0 := by decide
    have z1 : (Int32.ofInt 1).toInt = 1 := by decide
    have z2 : (Int32.ofInt 2).toInt = 2 := by decide
    have z3 : (Int32.ofInt 3).toInt = 3 := by decide
    have z4 : (Int32.ofInt 4).toInt = 4 := by decide
    have z5 : (Int32.ofInt 5).toInt = 5 := by decide
    refine ⟨Nat.le_of_ble_eq_true rfl, [], ?_, fun _ h => absurd h List.not_mem_nil⟩
    ·
      refine And.intro (fun c1 => ?_) ?_
      · have c1 : a1.toInt < (1) ∨ (3) < a1.toInt := c1
        show Iv s0 ∧ Kp s0 s0 ∧ (True)
        exact ⟨i0, Kx.rf, (trivial)⟩
      refine And.intro (fun c2 => ?_) ?_
      · have c2 : a1.toInt = (1) := c2
        refine And.intro ⟨by omega, by omega⟩ ?_
        intro v3 e4
        intro v5 e6
        refine And.intro ⟨by omega, by omega⟩ ?_
        intro s7 e8
        have i9 : Iv s7 := Iv.a1 i0 e8 rfl
        have k10 : Kp s0 s7 := Kx.u1 Kx.rf e8 rfl
        show Iv s7 ∧ Kp s0 s7 ∧ (True)
        exact ⟨i9, k10, (trivial)⟩
      refine And.intro (fun c11 => ?_) ?_
      · have c11 : a1.toInt = (2) := c11
        refine And.intro ⟨by omega, by omega⟩ ?_
        intro v12 e13
        intro v14 e15
        intro v16 e17
        refine And.intro ⟨by omega, by omega⟩ ?_
        intro v18 e19
        intro v20 e21
        refine And.intro ⟨by omega, by omega⟩ ?_
        intro v22 e23
        have w24 : v12 = v22 := by rw [e23, e13]
        subst w24
        refine And.intro ⟨by omega, by omega⟩ ?_
        intro s25 e26
        have i27 : Iv s25 := Iv.a1 i0 e26 rfl
        have k28 : Kp s0 s25 := Kx.u1 Kx.rf e26 rfl
        refine And.intro ⟨by omega, by omega⟩ ?_
        intro s29 e30
        have i31 : Iv s29 := Iv.a1 i27 e30 rfl
        have k32 : Kp s0 s29 := Kx.u1 k28 e30 rfl
        show Iv s29 ∧ Kp s0 s29 ∧ (True)
        exact ⟨i31, k32, (trivial)⟩
      refine And.intro (fun c33 => ?_) ?_
      · have c33 : a1.toInt = (3) := c33
        refine And.intro ⟨by omega, by omega⟩ ?_
        intro v34 e35
        intro v36 e37
        intro v38 e39
        refine And.intro ⟨by omega, by omega⟩ ?_
        intro v40 e41
        intro v42 e43
        intro v44 e45
        refine And.intro ⟨by omega, by omega⟩ ?_
        intro v46 e47
        intro v48 e49
        refine And.intro ⟨by omega, by omega⟩ ?_
        intro v50 e51
        have w52 : v40 = v50 := by rw [e51, e41]
        subst w52
        refine And.intro ⟨by omega, by omega⟩ ?_
        intro s53 e54
        have i55 : Iv s53 := Iv.a1 i0 e54 rfl
        have k56 : Kp s0 s53 := Kx.u1 Kx.rf e54 rfl
        refine And.intro ⟨by omega, by omega⟩ ?_
        intro v57 e58
        refine And.intro ⟨by omega, by omega⟩ ?_
        intro s59 e60
        have i61 : Iv s59 := Iv.a1 i55 e60 rfl
        have k62 : Kp s0 s59 := Kx.u1 k56 e60 rfl
        refine And.intro ⟨by omega, by omega⟩ ?_
        intro s63 e64
        have i65 : Iv s63 := Iv.a1 i61 e64 rfl
        have k66 : Kp s0 s63 := Kx.u1 k62 e64 rfl
        show Iv s63 ∧ Kp s0 s63 ∧ (True)
        exact ⟨i65, k66, (trivial)⟩
      exact trivial
  ·
    have z0 : (Int32.ofInt 0).toInt = 0 := by decide
    have z1 : (Int32.ofInt 1).toInt = 1 := by decide
    have z2 : (Int32.ofInt 2).toInt = 2 := by decide
    have z3 : (Int32.ofInt 3).toInt = 3 := by decide
    have z4 : (Int32.ofInt 4).toInt = 4 := by decide
    have z5 : (Int32.ofInt 5).toInt = 5 := by decide
    refine ⟨Nat.le_of_ble_eq_true rfl, [], ?_, fun _ h => absurd h List.not_mem_nil⟩
    ·
      refine And.intro (fun c1 => ?_) ?_
      · have c1 : a1.toInt < (1) ∨ (3) < a1.toInt := c1
        show Iv s0 ∧ Kp s0 s0 ∧ (True)
        exact ⟨i0, Kx.rf, (trivial)⟩
      refine And.intro (fun c2 => ?_) ?_
      · have c2 : a1.toInt = (1) := c2
        refine And.intro ⟨by omega, by omega⟩ ?_
        intro v3 e4
        intro v5 e6
        refine And.intro ⟨by omega, by omega⟩ ?_
        intro s7 e8
        have i9 : Iv s7 := Iv.a1 i0 e8 rfl
        have k10 : Kp s0 s7 := Kx.u1 Kx.rf e8 rfl
        show Iv s7 ∧ Kp s0 s7 ∧ (True)
        exact ⟨i9, k10, (trivial)⟩
      refine And.intro (fun c11 => ?_) ?_
      · have c11 : a1.toInt = (2) := c11
        refine And.intro ⟨by omega, by omega⟩ ?_
        intro v12 e13
        intro v14 e15
        intro v16 e17
        refine And.intro ⟨by omega, by omega⟩ ?_
        intro v18 e19
        intro v20 e21
        refine And.intro ⟨by omega, by omega⟩ ?_
        intro v22 e23
        have w24 : v12 = v22 := by rw [e23, e13]
        subst w24
        refine And.intro ⟨by omega, by omega⟩ ?_
        intro s25 e26
        have i27 : Iv s25 := Iv.a1 i0 e26 rfl
        have k28 : Kp s0 s25 := Kx.u1 Kx.rf e26 rfl
        refine And.intro ⟨by omega, by omega⟩ ?_
        intro s29 e30
        have i31 : Iv s29 := Iv.a1 i27 e30 rfl
        have k32 : Kp s0 s29 := Kx.u1 k28 e30 rfl
        show Iv s29 ∧ Kp s0 s29 ∧ (True)
        exact ⟨i31, k32, (trivial)⟩
      refine And.intro (fun c33 => ?_) ?_
      · have c33 : a1.toInt = (3) := c33
        refine And.intro ⟨by omega, by omega⟩ ?_
        intro v34 e35
        intro v36 e37
        intro v38 e39
        refine And.intro ⟨by omega, by omega⟩ ?_
        intro v40 e41
        intro v42 e43
        intro v44 e45
        refine And.intro ⟨by omega, by omega⟩ ?_
        intro v46 e47
        intro v48 e49
        refine And.intro ⟨by omega, by omega⟩ ?_
        intro v50 e51
        have w52 : v40 = v50 := by rw [e51, e41]
        subst w52
        refine And.intro ⟨by omega, by omega⟩ ?_
        intro s53 e54
        have i55 : Iv s53 := Iv.a1 i0 e54 rfl
        have k56 : Kp s0 s53 := Kx.u1 Kx.rf e54 rfl
        refine And.intro ⟨by omega, by omega⟩ ?_
        intro v57 e58
        refine And.intro ⟨by omega, by omega⟩ ?_
        intro s59 e60
        have i61 : Iv s59 := Iv.a1 i55 e60 rfl
        have k62 : Kp s0 s59 := Kx.u1 k56 e60 rfl
        refine And.intro ⟨by omega, by omega⟩ ?_
        intro s63 e64
        have i65 : Iv s63 := Iv.a1 i61 e64 rfl
        have k66 : Kp s0 s63 := Kx.u1 k62 e64 rfl
        show Iv s63 ∧ Kp s0 s63 ∧ (True)
        exact ⟨i65, k66, (trivial)⟩
      exact trivial
def o_X5_outOfCascade : List vg_I := [(0, .iload_n 1, 1, 0, 0, 0, 0), (1, .istore_n 3, 1, 0, 0, 0, 0), (2, .aload_n 0, 1, 0, 0, 0, 0), (3, .getfield 12, 3, 178, 5, 0, 0), (6, .invokevirtual 137, 3, 0, 6, 0, 685), (9, .istore 4, 2, 0, 0, 0, 0), (11, .iconst 0, 1, 0, 0, 0, 0), (12, .istore 5, 2, 0, 0, 0, 0), (14, .iload 5, 2, 0, 0, 0, 0), (16, .aload_n 0, 1, 0, 0, 0, 0), (17, .getfield 12, 3, 178, 5, 0, 0), (20, .getfield 134, 3, 144, 6, 1, 0), (23, .if_icmp .ge 87, 3, 0, 0, 0, 0), (26, .iload_n 3, 1, 0, 0, 0, 0), (27, .aload_n 0, 1, 0, 0, 0, 0), (28, .getfield 16, 3, 180, 5, 1, 0), (31, .iload 5, 2, 0, 0, 0, 0), (33, .iaload, 1, 0, 0, 0, 0), (34, .iadd, 1, 0, 0, 0, 0), (35, .istore 6, 2, 0, 0, 0, 0), (37, .aload_n 0, 1, 0, 0, 0, 0), (38, .getfield 12, 3, 178, 5, 0, 0), (41, .iload 5, 2, 0, 0, 0, 0), (43, .ifCond .ne 10, 3, 0, 0, 0, 0), (46, .iload 6, 2, 0, 0, 0, 0), (48, .iload_n 2, 1, 0, 0, 0, 0), (49, .iadd, 1, 0, 0, 0, 0), (50, .goto 5, 3, 0, 0, 0, 0), (53, .iload 6, 2, 0, 0, 0, 0), (55, .invokevirtual 128, 3, 1, 6, 1, 672), (58, .istore 7, 2, 0, 0, 0, 0), (60, .aload_n 0, 1, 0, 0, 0, 0), (61, .getfield 16, 3, 180, 5, 1, 0), (64, .iload 5, 2, 0, 0, 0, 0), (66, .aload_n 0, 1, 0, 0, 0, 0), (67, .iload 6, 2, 0, 0, 0, 0), (69, .aload_n 0, 1, 0, 0, 0, 0), (70, .getfield 12, 3, 178, 5, 0, 0), (73, .iload 7, 2, 0, 0, 0, 0), (75, .invokevirtual 140, 3, 2, 6, 1, 689), (78, .isub, 1, 0, 0, 0, 0), (79, .invokevirtual 131, 3, 3, 5, 1, 661), (82, .iastore, 1, 0, 0, 0, 0), (83, .aload_n 0, 1, 0, 0, 0, 0), (84, .getfield 16, 3, 180, 5, 1, 0), (87, .iload 5, 2, 0, 0, 0, 0), (89, .iaload, 1, 0, 0, 0, 0), (90, .istore_n 3, 1, 0, 0, 0, 0), (91, .iload 4, 2, 0, 0, 0, 0), (93, .aload_n 0, 1, 0, 0, 0, 0), (94, .iload 5, 2, 0, 0, 0, 0), (96, .iload 7, 2, 0, 0, 0, 0), (98, .invokevirtual 143, 3, 4, 5, 2, 693), (101, .iadd, 1, 0, 0, 0, 0), (102, .istore 4, 2, 0, 0, 0, 0), (104, .iinc 5 1, 3, 0, 0, 0, 0), (107, .goto (-93), 3, 0, 0, 0, 0), (110, .iload 4, 2, 0, 0, 0, 0), (112, .ireturn, 1, 0, 0, 0, 0)]
set_option maxRecDepth 100000 in
set_option maxHeartbeats 4000000 in
theorem c_X5_outOfCascade (l : Launch) (G : vg_G) (hp : vg_Hp G) : vg_Ct l G vg_sh r_X5_outOfCascade := by
  refine vg_meth hp vg_sh_ok r_X5_outOfCascade k_X5_outOfCascade rfl (fun h => by cases h) o_X5_outOfCascade [r_X6_besides, r_X6_nearest, r_X6_valueOfSmall, r_X5_hold, r_X5_differenceOf] false (by decide +kernel) (by decide +kernel) ⟨_, _, rfl, rfl⟩ (List.forall_mem_cons.mpr ⟨⟨c_X6_besides l G hp, Nat.le_of_ble_eq_true rfl, Nat.le_of_ble_eq_true rfl⟩, List.forall_mem_cons.mpr ⟨⟨c_X6_nearest l G hp, Nat.le_of_ble_eq_true rfl, Nat.le_of_ble_eq_true rfl⟩, List.forall_mem_cons.mpr ⟨⟨c_X6_valueOfSmall l G hp, Nat.le_of_ble_eq_true rfl, Nat.le_of_ble_eq_true rfl⟩, List.forall_mem_cons.mpr ⟨⟨c_X5_hold l G hp, Nat.le_of_ble_eq_true rfl, Nat.le_of_ble_eq_true rfl⟩, List.forall_mem_cons.mpr ⟨⟨c_X5_differenceOf l G hp, Nat.le_of_ble_eq_true rfl, Nat.le_of_ble_eq_true rfl⟩, fun _ h => absurd h List.not_mem_nil⟩⟩⟩⟩⟩) (fun h => by cases h) 600 ?_
  intro as s0 hpre
  obtain ⟨r, a1, a2, rfl, hr, i0⟩ := hpre
  simp only [List.mem_cons, List.not_mem_nil, or_false] at hr
  rcases hr with rfl | rfl
  ·
    have z0 : (Int32.ofInt 0).toInt = 0 := by decide
    have z1 : (Int32.ofInt 1).toInt = 1 := by decide
    refine ⟨Nat.le_of_ble_eq_true rfl, [(14, [true, false, true, true, true, true, false, false], (fun L t => ∃ (x3 : Int32) (x4 : Int32) (x5 : Int32), L = [some (.ref 3), none, some (.int a2), some (.int x3), some (.int x4), some (.int x5), none, none] ∧ (0 : Int) ≤ x5.toInt ∧ x5.toInt ≤ (4 : Int) ∧ Iv t ∧ Kp s0 t), (fun L _ => (0 + (4 - (vg_li L 5).toInt) * 1000000000000).toNat))], ?_, List.forall_mem_cons.mpr ⟨?_, fun _ h => absurd h List.not_mem_nil⟩⟩
    ·
      refine And.intro (Nat.le_of_ble_eq_true rfl) (And.intro ⟨4, rfl, by decide, i0⟩ ?_)
      intro v1 s3 h2
      have h2 : s3 = s0 ∧ (True) := h2
      have q6 := h2.1.symm
      subst q6
      exact ⟨rfl, ⟨a1, v1, (Int32.ofInt 0), rfl, (by omega), (by omega), i0, Kx.rf⟩, trivial⟩
    ·
      intro L s12 hL
      obtain ⟨w7, w8, w9, rfl, b10, b11, i13, k14⟩ := hL
      intro v15 e16
      have g17 : s12.1 4 1 = v15 := by rw [e16]
      have b18 : (1 : Int) ≤ v15.toInt ∧ v15.toInt ≤ 4 := by rw [e16]; exact Iv_4_1 i13
      refine And.intro (fun c19 => ?_) (fun c19 => ?_)
      · have c19 : v15.toInt ≤ w9.toInt := c19
        show Iv s12 ∧ Kp s0 s12 ∧ (True)
        exact ⟨i13, k14, (trivial)⟩
      · have c19 : ¬ (v15.toInt ≤ w9.toInt) := c19
        refine And.intro ⟨by omega, by omega⟩ ?_
        intro v20 e21
        intro v22 e23
        refine And.intro (fun c24 => ?_) (fun c24 => ?_)
        · have c24 : ¬ w9.toInt = 0 := c24
          refine And.intro (Nat.le_of_ble_eq_true rfl) (And.intro ⟨4, v22, rfl, by decide, i13⟩ ?_)
          intro v25 s27 h26
          have h26 : s27 = s12 ∧ (True) := h26
          have q30 := h26.1.symm
          subst q30
          refine And.intro (Nat.le_of_ble_eq_true rfl) (And.intro ⟨4, v25, rfl, by decide, i13⟩ ?_)
          intro v31 s33 h32
          have h32 : s33 = s12 ∧ (True) := h32
          have q36 := h32.1.symm
          subst q36
          intro v37 e38
          refine And.intro (Nat.le_of_ble_eq_true rfl) (And.intro ⟨3, v37, rfl, by decide, i13⟩ ?_)
          intro v39 s41 h40
          have h40 : Iv s41 ∧ Kp s12 s41 ∧ (True) := h40
          have i42 := h40.1
          have k43 : Kp s0 s41 := Kx.tr k14 (h40.2.1)
          refine And.intro ⟨by omega, by omega⟩ ?_
          intro s44 e45
          have i46 : Iv s44 := Iv.a1 i42 e45 rfl
          have k47 : Kp s0 s44 := Kx.u1 k43 e45 rfl
          refine And.intro ⟨by omega, by omega⟩ ?_
          intro v48 e49
          refine And.intro (Nat.le_of_ble_eq_true rfl) (And.intro ⟨3, w9, v25, rfl, by decide, i46⟩ ?_)
          intro v50 s52 h51
          have h51 : Iv s52 ∧ Kp s44 s52 ∧ (True) := h51
          have i53 := h51.1
          have k54 : Kp s0 s52 := Kx.tr k47 (h51.2.1)
          intro v55 e56
          intro v57 e58
          have b59 := vg_add e58 (by omega) (by omega)
          exact ⟨rfl, ⟨v48, v55, v57, rfl, (by omega), (by omega), i53, k54⟩, (by show (0 + (4 - v57.toInt) * 1000000000000).toNat < (0 + (4 - w9.toInt) * 1000000000000).toNat; omega)⟩
        · have c24 : ¬ (¬ w9.toInt = 0) := c24
          intro v60 e61
          refine And.intro (Nat.le_of_ble_eq_true rfl) (And.intro ⟨4, v60, rfl, by decide, i13⟩ ?_)
          intro v62 s64 h63
          have h63 : s64 = s12 ∧ (True) := h63
          have q67 := h63.1.symm
          subst q67
          refine And.intro (Nat.le_of_ble_eq_true rfl) (And.intro ⟨4, v62, rfl, by decide, i13⟩ ?_)
          intro v68 s70 h69
          have h69 : s70 = s12 ∧ (True) := h69
          have q73 := h69.1.symm
          subst q73
          intro v74 e75
          refine And.intro (Nat.le_of_ble_eq_true rfl) (And.intro ⟨3, v74, rfl, by decide, i13⟩ ?_)
          intro v76 s78 h77
          have h77 : Iv s78 ∧ Kp s12 s78 ∧ (True) := h77
          have i79 := h77.1
          have k80 : Kp s0 s78 := Kx.tr k14 (h77.2.1)
          refine And.intro ⟨by omega, by omega⟩ ?_
          intro s81 e82
          have i83 : Iv s81 := Iv.a1 i79 e82 rfl
          have k84 : Kp s0 s81 := Kx.u1 k80 e82 rfl
          refine And.intro ⟨by omega, by omega⟩ ?_
          intro v85 e86
          refine And.intro (Nat.le_of_ble_eq_true rfl) (And.intro ⟨3, w9, v62, rfl, by decide, i83⟩ ?_)
          intro v87 s89 h88
          have h88 : Iv s89 ∧ Kp s81 s89 ∧ (True) := h88
          have i90 := h88.1
          have k91 : Kp s0 s89 := Kx.tr k84 (h88.2.1)
          intro v92 e93
          intro v94 e95
          have b96 := vg_add e95 (by omega) (by omega)
          exact ⟨rfl, ⟨v85, v92, v94, rfl, (by omega), (by omega), i90, k91⟩, (by show (0 + (4 - v94.toInt) * 1000000000000).toNat < (0 + (4 - w9.toInt) * 1000000000000).toNat; omega)⟩
  ·
    have z0 : (Int32.ofInt 0).toInt = 0 := by decide
    have z1 : (Int32.ofInt 1).toInt = 1 := by decide
    refine ⟨Nat.le_of_ble_eq_true rfl, [(14, [true, false, true, true, true, true, false, false], (fun L t => ∃ (x3 : Int32) (x4 : Int32) (x5 : Int32), L = [some (.ref 22), none, some (.int a2), some (.int x3), some (.int x4), some (.int x5), none, none] ∧ (0 : Int) ≤ x5.toInt ∧ x5.toInt ≤ (4 : Int) ∧ Iv t ∧ Kp s0 t), (fun L _ => (0 + (4 - (vg_li L 5).toInt) * 1000000000000).toNat))], ?_, List.forall_mem_cons.mpr ⟨?_, fun _ h => absurd h List.not_mem_nil⟩⟩
    ·
      refine And.intro (Nat.le_of_ble_eq_true rfl) (And.intro ⟨23, rfl, by decide, i0⟩ ?_)
      intro v1 s3 h2
      have h2 : s3 = s0 ∧ (True) := h2
      have q6 := h2.1.symm
      subst q6
      exact ⟨rfl, ⟨a1, v1, (Int32.ofInt 0), rfl, (by omega), (by omega), i0, Kx.rf⟩, trivial⟩
    ·
      intro L s12 hL
      obtain ⟨w7, w8, w9, rfl, b10, b11, i13, k14⟩ := hL
      intro v15 e16
      have g17 : s12.1 23 1 = v15 := by rw [e16]
      have b18 : (1 : Int) ≤ v15.toInt ∧ v15.toInt ≤ 4 := by rw [e16]; exact Iv_23_1 i13
      refine And.intro (fun c19 => ?_) (fun c19 => ?_)
      · have c19 : v15.toInt ≤ w9.toInt := c19
        show Iv s12 ∧ Kp s0 s12 ∧ (True)
        exact ⟨i13, k14, (trivial)⟩
      · have c19 : ¬ (v15.toInt ≤ w9.toInt) := c19
        refine And.intro ⟨by omega, by omega⟩ ?_
        intro v20 e21
        intro v22 e23
        refine And.intro (fun c24 => ?_) (fun c24 => ?_)
        · have c24 : ¬ w9.toInt = 0 := c24
          refine And.intro (Nat.le_of_ble_eq_true rfl) (And.intro ⟨23, v22, rfl, by decide, i13⟩ ?_)
          intro v25 s27 h26
          have h26 : s27 = s12 ∧ (True) := h26
          have q30 := h26.1.symm
          subst q30
          refine And.intro (Nat.le_of_ble_eq_true rfl) (And.intro ⟨23, v25, rfl, by decide, i13⟩ ?_)
          intro v31 s33 h32
          have h32 : s33 = s12 ∧ (True) := h32
          have q36 := h32.1.symm
          subst q36
          intro v37 e38
          refine And.intro (Nat.le_of_ble_eq_true rfl) (And.intro ⟨22, v37, rfl, by decide, i13⟩ ?_)
          intro v39 s41 h40
          have h40 : Iv s41 ∧ Kp s12 s41 ∧ (True) := h40
          have i42 := h40.1
          have k43 : Kp s0 s41 := Kx.tr k14 (h40.2.1)
          refine And.intro ⟨by omega, by omega⟩ ?_
          intro s44 e45
          have i46 : Iv s44 := Iv.a1 i42 e45 rfl
          have k47 : Kp s0 s44 := Kx.u1 k43 e45 rfl
          refine And.intro ⟨by omega, by omega⟩ ?_
          intro v48 e49
          refine And.intro (Nat.le_of_ble_eq_true rfl) (And.intro ⟨22, w9, v25, rfl, by decide, i46⟩ ?_)
          intro v50 s52 h51
          have h51 : Iv s52 ∧ Kp s44 s52 ∧ (True) := h51
          have i53 := h51.1
          have k54 : Kp s0 s52 := Kx.tr k47 (h51.2.1)
          intro v55 e56
          intro v57 e58
          have b59 := vg_add e58 (by omega) (by omega)
          exact ⟨rfl, ⟨v48, v55, v57, rfl, (by omega), (by omega), i53, k54⟩, (by show (0 + (4 - v57.toInt) * 1000000000000).toNat < (0 + (4 - w9.toInt) * 1000000000000).toNat; omega)⟩
        · have c24 : ¬ (¬ w9.toInt = 0) := c24
          intro v60 e61
          refine And.intro (Nat.le_of_ble_eq_true rfl) (And.intro ⟨23, v60, rfl, by decide, i13⟩ ?_)
          intro v62 s64 h63
          have h63 : s64 = s12 ∧ (True) := h63
          have q67 := h63.1.symm
          subst q67
          refine And.intro (Nat.le_of_ble_eq_true rfl) (And.intro ⟨23, v62, rfl, by decide, i13⟩ ?_)
          intro v68 s70 h69
          have h69 : s70 = s12 ∧ (True) := h69
          have q73 := h69.1.symm
          subst q73
          intro v74 e75
          refine And.intro (Nat.le_of_ble_eq_true rfl) (And.intro ⟨22, v74, rfl, by decide, i13⟩ ?_)
          intro v76 s78 h77
          have h77 : Iv s78 ∧ Kp s12 s78 ∧ (True) := h77
          have i79 := h77.1
          have k80 : Kp s0 s78 := Kx.tr k14 (h77.2.1)
          refine And.intro ⟨by omega, by omega⟩ ?_
          intro s81 e82
          have i83 : Iv s81 := Iv.a1 i79 e82 rfl
          have k84 : Kp s0 s81 := Kx.u1 k80 e82 rfl
          refine And.intro ⟨by omega, by omega⟩ ?_
          intro v85 e86
          refine And.intro (Nat.le_of_ble_eq_true rfl) (And.intro ⟨22, w9, v62, rfl, by decide, i83⟩ ?_)
          intro v87 s89 h88
          have h88 : Iv s89 ∧ Kp s81 s89 ∧ (True) := h88
          have i90 := h88.1
          have k91 : Kp s0 s89 := Kx.tr k84 (h88.2.1)
          intro v92 e93
          intro v94 e95
          have b96 := vg_add e95 (by omega) (by omega)
          exact ⟨rfl, ⟨v85, v92, v94, rfl, (by omega), (by omega), i90, k91⟩, (by show (0 + (4 - v94.toInt) * 1000000000000).toNat < (0 + (4 - w9.toInt) * 1000000000000).toNat; omega)⟩
def o_X5_shapedErrors : List vg_I := [(0, .aload_n 0, 1, 0, 0, 0, 0), (1, .getfield 12, 3, 178, 5, 0, 0), (4, .getfield 134, 3, 144, 6, 1, 0), (7, .tableswitch 73 1 3 #[25, 32, 48], 25, 0, 0, 0, 0), (32, .aload_n 0, 1, 0, 0, 0, 0), (33, .getfield 16, 3, 180, 5, 1, 0), (36, .iconst 0, 1, 0, 0, 0, 0), (37, .iaload, 1, 0, 0, 0, 0), (38, .ireturn, 1, 0, 0, 0, 0), (39, .iconst 2, 1, 0, 0, 0, 0), (40, .aload_n 0, 1, 0, 0, 0, 0), (41, .getfield 16, 3, 180, 5, 1, 0), (44, .iconst 0, 1, 0, 0, 0, 0), (45, .iaload, 1, 0, 0, 0, 0), (46, .imul, 1, 0, 0, 0, 0), (47, .aload_n 0, 1, 0, 0, 0, 0), (48, .getfield 16, 3, 180, 5, 1, 0), (51, .iconst 1, 1, 0, 0, 0, 0), (52, .iaload, 1, 0, 0, 0, 0), (53, .isub, 1, 0, 0, 0, 0), (54, .ireturn, 1, 0, 0, 0, 0), (55, .iconst 3, 1, 0, 0, 0, 0), (56, .aload_n 0, 1, 0, 0, 0, 0), (57, .getfield 16, 3, 180, 5, 1, 0), (60, .iconst 0, 1, 0, 0, 0, 0), (61, .iaload, 1, 0, 0, 0, 0), (62, .imul, 1, 0, 0, 0, 0), (63, .iconst 3, 1, 0, 0, 0, 0), (64, .aload_n 0, 1, 0, 0, 0, 0), (65, .getfield 16, 3, 180, 5, 1, 0), (68, .iconst 1, 1, 0, 0, 0, 0), (69, .iaload, 1, 0, 0, 0, 0), (70, .imul, 1, 0, 0, 0, 0), (71, .isub, 1, 0, 0, 0, 0), (72, .aload_n 0, 1, 0, 0, 0, 0), (73, .getfield 16, 3, 180, 5, 1, 0), (76, .iconst 2, 1, 0, 0, 0, 0), (77, .iaload, 1, 0, 0, 0, 0), (78, .iadd, 1, 0, 0, 0, 0), (79, .ireturn, 1, 0, 0, 0, 0), (80, .iconst 4, 1, 0, 0, 0, 0), (81, .aload_n 0, 1, 0, 0, 0, 0), (82, .getfield 16, 3, 180, 5, 1, 0), (85, .iconst 0, 1, 0, 0, 0, 0), (86, .iaload, 1, 0, 0, 0, 0), (87, .imul, 1, 0, 0, 0, 0), (88, .bipush 6, 2, 0, 0, 0, 0), (90, .aload_n 0, 1, 0, 0, 0, 0), (91, .getfield 16, 3, 180, 5, 1, 0), (94, .iconst 1, 1, 0, 0, 0, 0), (95, .iaload, 1, 0, 0, 0, 0), (96, .imul, 1, 0, 0, 0, 0), (97, .isub, 1, 0, 0, 0, 0), (98, .iconst 4, 1, 0, 0, 0, 0), (99, .aload_n 0, 1, 0, 0, 0, 0), (100, .getfield 16, 3, 180, 5, 1, 0), (103, .iconst 2, 1, 0, 0, 0, 0), (104, .iaload, 1, 0, 0, 0, 0), (105, .imul, 1, 0, 0, 0, 0), (106, .iadd, 1, 0, 0, 0, 0), (107, .aload_n 0, 1, 0, 0, 0, 0), (108, .getfield 16, 3, 180, 5, 1, 0), (111, .iconst 3, 1, 0, 0, 0, 0), (112, .iaload, 1, 0, 0, 0, 0), (113, .isub, 1, 0, 0, 0, 0), (114, .ireturn, 1, 0, 0, 0, 0)]
set_option maxRecDepth 100000 in
set_option maxHeartbeats 4000000 in
theorem c_X5_shapedErrors (l : Launch) (G : vg_G) (hp : vg_Hp G) : vg_Ct l G vg_sh r_X5_shapedErrors := by
  refine vg_meth hp vg_sh_ok r_X5_shapedErrors k_X5_shapedErrors rfl (fun h => by cases h) o_X5_shapedErrors [] false (by decide +kernel) (by decide +kernel) ⟨_, _, rfl, rfl⟩ (fun _ h => absurd h List.not_mem_nil) (fun h => by cases h) 600 ?_
  intro as s0 hpre
  obtain ⟨r, rfl, hr, i0⟩ := hpre
  simp only [List.mem_cons, List.not_mem_nil, or_false] at hr
  rcases hr with rfl | rfl
  ·
    have z0 : (Int32.ofInt 0).toInt = 0 := by decide
    have z1 : (Int32.ofInt 1).toInt = 1 := by decide
    have z2 : (Int32.ofInt 2).toInt = 2 := by decide
    have z3 : (Int32.ofInt 3).toInt = 3 := by decide
    have z4 : (Int32.ofInt 4).toInt = 4 := by decide
    have z6 : (Int32.ofInt 6).toInt = 6 := by decide
    refine ⟨Nat.le_of_ble_eq_true rfl, [], ?_, fun _ h => absurd h List.not_mem_nil⟩
    ·
      intro v1 e2
      have g3 : s0.1 4 1 = v1 := by rw [e2]
      have b4 : (1 : Int) ≤ v1.toInt ∧ v1.toInt ≤ 4 := by rw [e2]; exact Iv_4_1 i0
      refine And.intro (fun c5 => ?_) ?_
      · have c5 : v1.toInt < (1) ∨ (3) < v1.toInt := c5
        refine And.intro ⟨by omega, by omega⟩ ?_
        intro v6 e7
        intro v8 e9
        refine And.intro ⟨by omega, by omega⟩ ?_
        intro v10 e11
        intro v12 e13
        intro v14 e15
        refine And.intro ⟨by omega, by omega⟩ ?_
        intro v16 e17
        intro v18 e19
        intro v20 e21
        refine And.intro ⟨by omega, by omega⟩ ?_
        intro v22 e23
        intro v24 e25
        show s0 = s0 ∧ (True)
        exact ⟨rfl, (trivial)⟩
      refine And.intro (fun c26 => ?_) ?_
      · have c26 : v1.toInt = (1) := c26
        refine And.intro ⟨by omega, by omega⟩ ?_
        intro v27 e28
        show s0 = s0 ∧ (True)
        exact ⟨rfl, (trivial)⟩
      refine And.intro (fun c29 => ?_) ?_
      · have c29 : v1.toInt = (2) := c29
        refine And.intro ⟨by omega, by omega⟩ ?_
        intro v30 e31
        intro v32 e33
        refine And.intro ⟨by omega, by omega⟩ ?_
        intro v34 e35
        intro v36 e37
        show s0 = s0 ∧ (True)
        exact ⟨rfl, (trivial)⟩
      refine And.intro (fun c38 => ?_) ?_
      · have c38 : v1.toInt = (3) := c38
        refine And.intro ⟨by omega, by omega⟩ ?_
        intro v39 e40
        intro v41 e42
        refine And.intro ⟨by omega, by omega⟩ ?_
        intro v43 e44
        intro v45 e46
        intro v47 e48
        refine And.intro ⟨by omega, by omega⟩ ?_
        intro v49 e50
        intro v51 e52
        show s0 = s0 ∧ (True)
        exact ⟨rfl, (trivial)⟩
      exact trivial
  ·
    have z0 : (Int32.ofInt 0).toInt = 0 := by decide
    have z1 : (Int32.ofInt 1).toInt = 1 := by decide
    have z2 : (Int32.ofInt 2).toInt = 2 := by decide
    have z3 : (Int32.ofInt 3).toInt = 3 := by decide
    have z4 : (Int32.ofInt 4).toInt = 4 := by decide
    have z6 : (Int32.ofInt 6).toInt = 6 := by decide
    refine ⟨Nat.le_of_ble_eq_true rfl, [], ?_, fun _ h => absurd h List.not_mem_nil⟩
    ·
      intro v1 e2
      have g3 : s0.1 23 1 = v1 := by rw [e2]
      have b4 : (1 : Int) ≤ v1.toInt ∧ v1.toInt ≤ 4 := by rw [e2]; exact Iv_23_1 i0
      refine And.intro (fun c5 => ?_) ?_
      · have c5 : v1.toInt < (1) ∨ (3) < v1.toInt := c5
        refine And.intro ⟨by omega, by omega⟩ ?_
        intro v6 e7
        intro v8 e9
        refine And.intro ⟨by omega, by omega⟩ ?_
        intro v10 e11
        intro v12 e13
        intro v14 e15
        refine And.intro ⟨by omega, by omega⟩ ?_
        intro v16 e17
        intro v18 e19
        intro v20 e21
        refine And.intro ⟨by omega, by omega⟩ ?_
        intro v22 e23
        intro v24 e25
        show s0 = s0 ∧ (True)
        exact ⟨rfl, (trivial)⟩
      refine And.intro (fun c26 => ?_) ?_
      · have c26 : v1.toInt = (1) := c26
        refine And.intro ⟨by omega, by omega⟩ ?_
        intro v27 e28
        show s0 = s0 ∧ (True)
        exact ⟨rfl, (trivial)⟩
      refine And.intro (fun c29 => ?_) ?_
      · have c29 : v1.toInt = (2) := c29
        refine And.intro ⟨by omega, by omega⟩ ?_
        intro v30 e31
        intro v32 e33
        refine And.intro ⟨by omega, by omega⟩ ?_
        intro v34 e35
        intro v36 e37
        show s0 = s0 ∧ (True)
        exact ⟨rfl, (trivial)⟩
      refine And.intro (fun c38 => ?_) ?_
      · have c38 : v1.toInt = (3) := c38
        refine And.intro ⟨by omega, by omega⟩ ?_
        intro v39 e40
        intro v41 e42
        refine And.intro ⟨by omega, by omega⟩ ?_
        intro v43 e44
        intro v45 e46
        intro v47 e48
        refine And.intro ⟨by omega, by omega⟩ ?_
        intro v49 e50
        intro v51 e52
        show s0 = s0 ∧ (True)
        exact ⟨rfl, (trivial)⟩
      exact trivial
def o_X5_outOfErrors : List vg_I := [(0, .iload_n 1, 1, 0, 0, 0, 0), (1, .aload_n 0, 1, 0, 0, 0, 0), (2, .invokevirtual 125, 3, 0, 5, 0, 701), (5, .iadd, 1, 0, 0, 0, 0), (6, .istore_n 3, 1, 0, 0, 0, 0), (7, .aload_n 0, 1, 0, 0, 0, 0), (8, .getfield 12, 3, 178, 5, 0, 0), (11, .iload_n 3, 1, 0, 0, 0, 0), (12, .iload_n 2, 1, 0, 0, 0, 0), (13, .iadd, 1, 0, 0, 0, 0), (14, .invokevirtual 128, 3, 1, 6, 1, 672), (17, .istore 4, 2, 0, 0, 0, 0), (19, .aload_n 0, 1, 0, 0, 0, 0), (20, .iload_n 3, 1, 0, 0, 0, 0), (21, .aload_n 0, 1, 0, 0, 0, 0), (22, .getfield 12, 3, 178, 5, 0, 0), (25, .iload 4, 2, 0, 0, 0, 0), (27, .invokevirtual 88, 3, 2, 6, 1, 705), (30, .isub, 1, 0, 0, 0, 0), (31, .invokevirtual 131, 3, 3, 5, 1, 661), (34, .istore 5, 2, 0, 0, 0, 0), (36, .aload_n 0, 1, 0, 0, 0, 0), (37, .getfield 12, 3, 178, 5, 0, 0), (40, .getfield 134, 3, 144, 6, 1, 0), (43, .iconst 1, 1, 0, 0, 0, 0), (44, .isub, 1, 0, 0, 0, 0), (45, .istore 6, 2, 0, 0, 0, 0), (47, .iload 6, 2, 0, 0, 0, 0), (49, .ifCond .le 25, 3, 0, 0, 0, 0), (52, .aload_n 0, 1, 0, 0, 0, 0), (53, .getfield 16, 3, 180, 5, 1, 0), (56, .iload 6, 2, 0, 0, 0, 0), (58, .aload_n 0, 1, 0, 0, 0, 0), (59, .getfield 16, 3, 180, 5, 1, 0), (62, .iload 6, 2, 0, 0, 0, 0), (64, .iconst 1, 1, 0, 0, 0, 0), (65, .isub, 1, 0, 0, 0, 0), (66, .iaload, 1, 0, 0, 0, 0), (67, .iastore, 1, 0, 0, 0, 0), (68, .iinc 6 (-1), 3, 0, 0, 0, 0), (71, .goto (-24), 3, 0, 0, 0, 0), (74, .aload_n 0, 1, 0, 0, 0, 0), (75, .getfield 16, 3, 180, 5, 1, 0), (78, .iconst 0, 1, 0, 0, 0, 0), (79, .iload 5, 2, 0, 0, 0, 0), (81, .iastore, 1, 0, 0, 0, 0), (82, .iload 4, 2, 0, 0, 0, 0), (84, .ireturn, 1, 0, 0, 0, 0)]
set_option maxRecDepth 100000 in
set_option maxHeartbeats 4000000 in
theorem c_X5_outOfErrors (l : Launch) (G : vg_G) (hp : vg_Hp G) : vg_Ct l G vg_sh r_X5_outOfErrors := by
  refine vg_meth hp vg_sh_ok r_X5_outOfErrors k_X5_outOfErrors rfl (fun h => by cases h) o_X5_outOfErrors [r_X5_shapedErrors, r_X6_nearest, r_X6_valueOf, r_X5_hold] false (by decide +kernel) (by decide +kernel) ⟨_, _, rfl, rfl⟩ (List.forall_mem_cons.mpr ⟨⟨c_X5_shapedErrors l G hp, Nat.le_of_ble_eq_true rfl, Nat.le_of_ble_eq_true rfl⟩, List.forall_mem_cons.mpr ⟨⟨c_X6_nearest l G hp, Nat.le_of_ble_eq_true rfl, Nat.le_of_ble_eq_true rfl⟩, List.forall_mem_cons.mpr ⟨⟨c_X6_valueOf l G hp, Nat.le_of_ble_eq_true rfl, Nat.le_of_ble_eq_true rfl⟩, List.forall_mem_cons.mpr ⟨⟨c_X5_hold l G hp, Nat.le_of_ble_eq_true rfl, Nat.le_of_ble_eq_true rfl⟩, fun _ h => absurd h List.not_mem_nil⟩⟩⟩⟩) (fun h => by cases h) 600 ?_
  intro as s0 hpre
  obtain ⟨r, a1, a2, rfl, hr, i0⟩ := hpre
  simp only [List.mem_cons, List.not_mem_nil, or_false] at hr
  rcases hr with rfl | rfl
  ·
    have zm1 : (Int32.ofInt (-1)).toInt = -1 := by decide
    have z0 : (Int32.ofInt 0).toInt = 0 := by decide
    have z1 : (Int32.ofInt 1).toInt = 1 := by decide
    refine ⟨Nat.le_of_ble_eq_true rfl, [(47, [true, false, false, false, true, true, true], (fun L t => ∃ (x4 : Int32) (x5 : Int32) (x6 : Int32), L = [some (.ref 3), none, none, none, some (.int x4), some (.int x5), some (.int x6)] ∧ (0 : Int) ≤ x6.toInt ∧ x6.toInt ≤ (3 : Int) ∧ Iv t ∧ Kp s0 t), (fun L _ => (0 + ((vg_li L 6).toInt - (0)) * 1000000000000).toNat))], ?_, List.forall_mem_cons.mpr ⟨?_, fun _ h => absurd h List.not_mem_nil⟩⟩
    ·
      refine And.intro (Nat.le_of_ble_eq_true rfl) (And.intro ⟨3, rfl, by decide, i0⟩ ?_)
      intro v1 s3 h2
      have h2 : s3 = s0 ∧ (True) := h2
      have q6 := h2.1.symm
      subst q6
      intro v7 e8
      intro v9 e10
      refine And.intro (Nat.le_of_ble_eq_true rfl) (And.intro ⟨4, v9, rfl, by decide, i0⟩ ?_)
      intro v11 s13 h12
      have h12 : s13 = s0 ∧ (True) := h12
      have q16 := h12.1.symm
      subst q16
      refine And.intro (Nat.le_of_ble_eq_true rfl) (And.intro ⟨4, v11, rfl, by decide, i0⟩ ?_)
      intro v17 s19 h18
      have h18 : s19 = s0 ∧ (True) := h18
      have q22 := h18.1.symm
      subst q22
      intro v23 e24
      refine And.intro (Nat.le_of_ble_eq_true rfl) (And.intro ⟨3, v23, rfl, by decide, i0⟩ ?_)
      intro v25 s27 h26
      have h26 : Iv s27 ∧ Kp s0 s27 ∧ (True) := h26
      have i28 := h26.1
      have k29 : Kp s0 s27 := Kx.tr Kx.rf (h26.2.1)
      intro v30 e31
      have g32 : s27.1 4 1 = v30 := by rw [e31]
      have b33 : (1 : Int) ≤ v30.toInt ∧ v30.toInt ≤ 4 := by rw [e31]; exact Iv_4_1 i28
      intro v34 e35
      have b36 := vg_sub e35 (by omega) (by omega)
      exact ⟨rfl, ⟨v11, v25, v34, rfl, (by omega), (by omega), i28, k29⟩, trivial⟩
    ·
      intro L s42 hL
      obtain ⟨w37, w38, w39, rfl, b40, b41, i43, k44⟩ := hL
      refine And.intro (fun c45 => ?_) (fun c45 => ?_)
      · have c45 : w39.toInt ≤ 0 := c45
        refine And.intro ⟨by omega, by omega⟩ ?_
        intro s46 e47
        have i48 : Iv s46 := Iv.a1 i43 e47 rfl
        have k49 : Kp s0 s46 := Kx.u1 k44 e47 rfl
        show Iv s46 ∧ Kp s0 s46 ∧ (True)
        exact ⟨i48, k49, (trivial)⟩
      · have c45 : ¬ (w39.toInt ≤ 0) := c45
        intro v50 e51
        have b52 := vg_sub e51 (by omega) (by omega)
        refine And.intro ⟨by omega, by omega⟩ ?_
        intro v53 e54
        refine And.intro ⟨by omega, by omega⟩ ?_
        intro s55 e56
        have i57 : Iv s55 := Iv.a1 i43 e56 rfl
        have k58 : Kp s0 s55 := Kx.u1 k44 e56 rfl
        intro v59 e60
        have b61 := vg_add e60 (by omega) (by omega)
        exact ⟨rfl, ⟨w37, w38, v59, rfl, (by omega), (by omega), i57, k58⟩, (by show (0 + (v59.toInt - (0)) * 1000000000000).toNat < (0 + (w39.toInt - (0)) * 1000000000000).toNat; omega)⟩
  ·
    have zm1 : (Int32.ofInt (-1)).toInt = -1 := by decide
    have z0 : (Int32.ofInt 0).toInt = 0 := by decide
    have z1 : (Int32.ofInt 1).toInt = 1 := by decide
    refine ⟨Nat.le_of_ble_eq_true rfl, [(47, [true, false, false, false, true, true, true], (fun L t => ∃ (x4 : Int32) (x5 : Int32) (x6 : Int32), L = [some (.ref 22), none, none, none, some (.int x4), some (.int x5), some (.int x6)] ∧ (0 : Int) ≤ x6.toInt ∧ x6.toInt ≤ (3 : Int) ∧ Iv t ∧ Kp s0 t), (fun L _ => (0 + ((vg_li L 6).toInt - (0)) * 1000000000000).toNat))], ?_, List.forall_mem_cons.mpr ⟨?_, fun _ h => absurd h List.not_mem_nil⟩⟩
    ·
      refine And.intro (Nat.le_of_ble_eq_true rfl) (And.intro ⟨22, rfl, by decide, i0⟩ ?_)
      intro v1 s3 h2
      have h2 : s3 = s0 ∧ (True) := h2
      have q6 := h2.1.symm
      subst q6
      intro v7 e8
      intro v9 e10
      refine And.intro (Nat.le_of_ble_eq_true rfl) (And.intro ⟨23, v9, rfl, by decide, i0⟩ ?_)
      intro v11 s13 h12
      have h12 : s13 = s0 ∧ (True) := h12
      have q16 := h12.1.symm
      subst q16
      refine And.intro (Nat.le_of_ble_eq_true rfl) (And.intro ⟨23, v11, rfl, by decide, i0⟩ ?_)
      intro v17 s19 h18
      have h18 : s19 = s0 ∧ (True) := h18
      have q22 := h18.1.symm
      subst q22
      intro v23 e24
      refine And.intro (Nat.le_of_ble_eq_true rfl) (And.intro ⟨22, v23, rfl, by decide, i0⟩ ?_)
      intro v25 s27 h26
      have h26 : Iv s27 ∧ Kp s0 s27 ∧ (True) := h26
      have i28 := h26.1
      have k29 : Kp s0 s27 := Kx.tr Kx.rf (h26.2.1)
      intro v30 e31
      have g32 : s27.1 23 1 = v30 := by rw [e31]
      have b33 : (1 : Int) ≤ v30.toInt ∧ v30.toInt ≤ 4 := by rw [e31]; exact Iv_23_1 i28
      intro v34 e35
      have b36 := vg_sub e35 (by omega) (by omega)
      exact ⟨rfl, ⟨v11, v25, v34, rfl, (by omega), (by omega), i28, k29⟩, trivial⟩
    ·
      intro L s42 hL
      obtain ⟨w37, w38, w39, rfl, b40, b41, i43, k44⟩ := hL
      refine And.intro (fun c45 => ?_) (fun c45 => ?_)
      · have c45 : w39.toInt ≤ 0 := c45
        refine And.intro ⟨by omega, by omega⟩ ?_
        intro s46 e47
        have i48 : Iv s46 := Iv.a1 i43 e47 rfl
        have k49 : Kp s0 s46 := Kx.u1 k44 e47 rfl
        show Iv s46 ∧ Kp s0 s46 ∧ (True)
        exact ⟨i48, k49, (trivial)⟩
      · have c45 : ¬ (w39.toInt ≤ 0) := c45
        intro v50 e51
        have b52 := vg_sub e51 (by omega) (by omega)
        refine And.intro ⟨by omega, by omega⟩ ?_
        intro v53 e54
        refine And.intro ⟨by omega, by omega⟩ ?_
        intro s55 e56
        have i57 : Iv s55 := Iv.a1 i43 e56 rfl
        have k58 : Kp s0 s55 := Kx.u1 k44 e56 rfl
        intro v59 e60
        have b61 := vg_add e60 (by omega) (by omega)
        exact ⟨rfl, ⟨w37, w38, v59, rfl, (by omega), (by omega), i57, k58⟩, (by show (0 + (v59.toInt - (0)) * 1000000000000).toNat < (0 + (w39.toInt - (0)) * 1000000000000).toNat; omega)⟩
def o_X5_outOf : List vg_I := [(0, .aload_n 0, 1, 0, 0, 0, 0), (1, .invokevirtual 111, 3, 0, 5, 0, 649), (4, .istore_n 2, 1, 0, 0, 0, 0), (5, .aload_n 0, 1, 0, 0, 0, 0), (6, .getfield 12, 3, 178, 5, 0, 0), (9, .getfield 108, 3, 141, 6, 0, 0), (12, .lookupswitch 42 #[(1, 28), (2, 35)], 28, 0, 0, 0, 0), (40, .aload_n 0, 1, 0, 0, 0, 0), (41, .iload_n 1, 1, 0, 0, 0, 0), (42, .iload_n 2, 1, 0, 0, 0, 0), (43, .invokevirtual 115, 3, 1, 5, 2, 657), (46, .ireturn, 1, 0, 0, 0, 0), (47, .aload_n 0, 1, 0, 0, 0, 0), (48, .iload_n 1, 1, 0, 0, 0, 0), (49, .iload_n 2, 1, 0, 0, 0, 0), (50, .invokevirtual 119, 3, 2, 5, 2, 681), (53, .ireturn, 1, 0, 0, 0, 0), (54, .aload_n 0, 1, 0, 0, 0, 0), (55, .iload_n 1, 1, 0, 0, 0, 0), (56, .iload_n 2, 1, 0, 0, 0, 0), (57, .invokevirtual 122, 3, 3, 5, 2, 697), (60, .ireturn, 1, 0, 0, 0, 0)]
set_option maxRecDepth 100000 in
set_option maxHeartbeats 4000000 in
theorem c_X5_outOf (l : Launch) (G : vg_G) (hp : vg_Hp G) : vg_Ct l G vg_sh r_X5_outOf := by
  refine vg_meth hp vg_sh_ok r_X5_outOf k_X5_outOf rfl (fun h => by cases h) o_X5_outOf [r_X5_drawDither, r_X5_outOfSums, r_X5_outOfCascade, r_X5_outOfErrors] false (by decide +kernel) (by decide +kernel) ⟨_, _, rfl, rfl⟩ (List.forall_mem_cons.mpr ⟨⟨c_X5_drawDither l G hp, Nat.le_of_ble_eq_true rfl, Nat.le_of_ble_eq_true rfl⟩, List.forall_mem_cons.mpr ⟨⟨c_X5_outOfSums l G hp, Nat.le_of_ble_eq_true rfl, Nat.le_of_ble_eq_true rfl⟩, List.forall_mem_cons.mpr ⟨⟨c_X5_outOfCascade l G hp, Nat.le_of_ble_eq_true rfl, Nat.le_of_ble_eq_true rfl⟩, List.forall_mem_cons.mpr ⟨⟨c_X5_outOfErrors l G hp, Nat.le_of_ble_eq_true rfl, Nat.le_of_ble_eq_true rfl⟩, fun _ h => absurd h List.not_mem_nil⟩⟩⟩⟩) (fun h => by cases h) 600 ?_
  intro as s0 hpre
  obtain ⟨r, a1, rfl, hr, i0⟩ := hpre
  simp only [List.mem_cons, List.not_mem_nil, or_false] at hr
  rcases hr with rfl | rfl
  ·
    refine ⟨Nat.le_of_ble_eq_true rfl, [], ?_, fun _ h => absurd h List.not_mem_nil⟩
    ·
      refine And.intro (Nat.le_of_ble_eq_true rfl) (And.intro ⟨3, rfl, by decide, i0⟩ ?_)
      intro v1 s3 h2
      have h2 : Iv s3 ∧ Kp s0 s3 ∧ (True) := h2
      have i4 := h2.1
      have k5 : Kp s0 s3 := Kx.tr Kx.rf (h2.2.1)
      intro v6 e7
      have g8 : s3.1 4 0 = v6 := by rw [e7]
      refine And.intro (fun c9 => ?_) (fun c9 => ?_)
      · have c9 : v6.toInt = (1) := c9
        refine And.intro (Nat.le_of_ble_eq_true rfl) (And.intro ⟨3, a1, v1, rfl, by decide, i4⟩ ?_)
        intro v10 s12 h11
        have h11 : Iv s12 ∧ Kp s3 s12 ∧ (True) := h11
        have i13 := h11.1
        have k14 : Kp s0 s12 := Kx.tr k5 (h11.2.1)
        show Iv s12 ∧ Kp s0 s12 ∧ (True)
        exact ⟨i13, k14, (trivial)⟩
      have c9 : ¬ (v6.toInt = (1)) := c9
      refine And.intro (fun c15 => ?_) (fun c15 => ?_)
      · have c15 : v6.toInt = (2) := c15
        refine And.intro (Nat.le_of_ble_eq_true rfl) (And.intro ⟨3, a1, v1, rfl, by decide, i4⟩ ?_)
        intro v16 s18 h17
        have h17 : Iv s18 ∧ Kp s3 s18 ∧ (True) := h17
        have i19 := h17.1
        have k20 : Kp s0 s18 := Kx.tr k5 (h17.2.1)
        show Iv s18 ∧ Kp s0 s18 ∧ (True)
        exact ⟨i19, k20, (trivial)⟩
      have c15 : ¬ (v6.toInt = (2)) := c15
      refine And.intro (Nat.le_of_ble_eq_true rfl) (And.intro ⟨3, a1, v1, rfl, by decide, i4⟩ ?_)
      intro v21 s23 h22
      have h22 : Iv s23 ∧ Kp s3 s23 ∧ (True) := h22
      have i24 := h22.1
      have k25 : Kp s0 s23 := Kx.tr k5 (h22.2.1)
      show Iv s23 ∧ Kp s0 s23 ∧ (True)
      exact ⟨i24, k25, (trivial)⟩
  ·
    refine ⟨Nat.le_of_ble_eq_true rfl, [], ?_, fun _ h => absurd h List.not_mem_nil⟩
    ·
      refine And.intro (Nat.le_of_ble_eq_true rfl) (And.intro ⟨22, rfl, by decide, i0⟩ ?_)
      intro v1 s3 h2
      have h2 : Iv s3 ∧ Kp s0 s3 ∧ (True) := h2
      have i4 := h2.1
      have k5 : Kp s0 s3 := Kx.tr Kx.rf (h2.2.1)
      intro v6 e7
      have g8 : s3.1 23 0 = v6 := by rw [e7]
      refine And.intro (fun c9 => ?_) (fun c9 => ?_)
      · have c9 : v6.toInt = (1) := c9
        refine And.intro (Nat.le_of_ble_eq_true rfl) (And.intro ⟨22, a1, v1, rfl, by decide, i4⟩ ?_)
        intro v10 s12 h11
        have h11 : Iv s12 ∧ Kp s3 s12 ∧ (True) := h11
        have i13 := h11.1
        have k14 : Kp s0 s12 := Kx.tr k5 (h11.2.1)
        show Iv s12 ∧ Kp s0 s12 ∧ (True)
        exact ⟨i13, k14, (trivial)⟩
      have c9 : ¬ (v6.toInt = (1)) := c9
      refine And.intro (fun c15 => ?_) (fun c15 => ?_)
      · have c15 : v6.toInt = (2) := c15
        refine And.intro (Nat.le_of_ble_eq_true rfl) (And.intro ⟨22, a1, v1, rfl, by decide, i4⟩ ?_)
        intro v16 s18 h17
        have h17 : Iv s18 ∧ Kp s3 s18 ∧ (True) := h17
        have i19 := h17.1
        have k20 : Kp s0 s18 := Kx.tr k5 (h17.2.1)
        show Iv s18 ∧ Kp s0 s18 ∧ (True)
        exact ⟨i19, k20, (trivial)⟩
      have c15 : ¬ (v6.toInt = (2)) := c15
      refine And.intro (Nat.le_of_ble_eq_true rfl) (And.intro ⟨22, a1, v1, rfl, by decide, i4⟩ ?_)
      intro v21 s23 h22
      have h22 : Iv s23 ∧ Kp s3 s23 ∧ (True) := h22
      have i24 := h22.1
      have k25 : Kp s0 s23 := Kx.tr k5 (h22.2.1)
      show Iv s23 ∧ Kp s0 s23 ∧ (True)
      exact ⟨i24, k25, (trivial)⟩
def o_X5_advance : List vg_I := [(0, .aload_n 0, 1, 0, 0, 0, 0), (1, .iconst 0, 1, 0, 0, 0, 0), (2, .putfield 80, 3, 191, 5, 7, 1), (5, .aload_n 0, 1, 0, 0, 0, 0), (6, .iload_n 1, 1, 0, 0, 0, 0), (7, .invokevirtual 84, 3, 0, 5, 1, 645), (10, .istore_n 2, 1, 0, 0, 0, 0), (11, .aload_n 0, 1, 0, 0, 0, 0), (12, .aload_n 0, 1, 0, 0, 0, 0), (13, .getfield 12, 3, 178, 5, 0, 0), (16, .iload_n 2, 1, 0, 0, 0, 0), (17, .invokevirtual 88, 3, 1, 6, 1, 705), (20, .putfield 29, 3, 183, 5, 3, 0), (23, .aload_n 0, 1, 0, 0, 0, 0), (24, .getfield 80, 3, 191, 5, 7, 0), (27, .ifCond .eq 31, 3, 0, 0, 0, 0), (30, .aload_n 0, 1, 0, 0, 0, 0), (31, .dup, 1, 0, 0, 0, 0), (32, .getfield 42, 3, 189, 5, 6, 0), (35, .iconst 1, 1, 0, 0, 0, 0), (36, .iadd, 1, 0, 0, 0, 0), (37, .putfield 42, 3, 189, 5, 6, 0), (40, .aload_n 0, 1, 0, 0, 0, 0), (41, .getfield 12, 3, 178, 5, 0, 0), (44, .getfield 91, 3, 154, 6, 5, 0), (47, .ifCond .eq 11, 3, 0, 0, 0, 0), (50, .aload_n 0, 1, 0, 0, 0, 0), (51, .getfield 16, 3, 180, 5, 1, 0), (54, .iconst 0, 1, 0, 0, 0, 0), (55, .invokestatic 23, 3, 2, 1, 2, 500), (58, .aload_n 0, 1, 0, 0, 0, 0), (59, .dup, 1, 0, 0, 0, 0), (60, .getfield 48, 3, 194, 5, 9, 0), (63, .iload_n 1, 1, 0, 0, 0, 0), (64, .i2l, 1, 0, 0, 0, 0), (65, .ladd, 1, 0, 0, 0, 0), (66, .putfield 48, 3, 194, 5, 9, 2), (69, .aload_n 0, 1, 0, 0, 0, 0), (70, .dup, 1, 0, 0, 0, 0), (71, .getfield 52, 3, 196, 5, 10, 0), (74, .aload_n 0, 1, 0, 0, 0, 0), (75, .getfield 29, 3, 183, 5, 3, 0), (78, .i2l, 1, 0, 0, 0, 0), (79, .ladd, 1, 0, 0, 0, 0), (80, .putfield 52, 3, 196, 5, 10, 2), (83, .aload_n 0, 1, 0, 0, 0, 0), (84, .dup, 1, 0, 0, 0, 0), (85, .getfield 55, 3, 198, 5, 11, 0), (88, .iload_n 2, 1, 0, 0, 0, 0), (89, .i2l, 1, 0, 0, 0, 0), (90, .ladd, 1, 0, 0, 0, 0), (91, .putfield 55, 3, 198, 5, 11, 2), (94, .aload_n 0, 1, 0, 0, 0, 0), (95, .aload_n 0, 1, 0, 0, 0, 0), (96, .getfield 61, 3, 202, 5, 13, 0), (99, .aload_n 0, 1, 0, 0, 0, 0), (100, .invokevirtual 94, 3, 3, 5, 0, 711), (103, .invokestatic 98, 3, 4, 1, 1, 715), (106, .invokestatic 104, 3, 5, 1, 2, 718), (109, .putfield 61, 3, 202, 5, 13, 2), (112, .iload_n 2, 1, 0, 0, 0, 0), (113, .ireturn, 1, 0, 0, 0, 0)]
set_option maxRecDepth 100000 in
set_option maxHeartbeats 4000000 in
theorem c_X5_advance (l : Launch) (G : vg_G) (hp : vg_Hp G) : vg_Ct l G vg_sh r_X5_advance := by
  refine vg_meth hp vg_sh_ok r_X5_advance k_X5_advance rfl (fun h => by cases h) o_X5_advance [r_X5_outOf, r_X6_valueOf, r_J7_fill_53178, r_X5_gapNow, r_J9_abs_067f4, r_J9_max_f86c9] false (by decide +kernel) (by decide +kernel) ⟨_, _, rfl, rfl⟩ (List.forall_mem_cons.mpr ⟨⟨c_X5_outOf l G hp, Nat.le_of_ble_eq_true rfl, Nat.le_of_ble_eq_true rfl⟩, List.forall_mem_cons.mpr ⟨⟨c_X6_valueOf l G hp, Nat.le_of_ble_eq_true rfl, Nat.le_of_ble_eq_true rfl⟩, List.forall_mem_cons.mpr ⟨⟨c_J7_fill_53178 l G hp, Nat.le_of_ble_eq_true rfl, Nat.le_of_ble_eq_true rfl⟩, List.forall_mem_cons.mpr ⟨⟨c_X5_gapNow l G hp, Nat.le_of_ble_eq_true rfl, Nat.le_of_ble_eq_true rfl⟩, List.forall_mem_cons.mpr ⟨⟨c_J9_abs_067f4 l G hp, Nat.le_of_ble_eq_true rfl, Nat.le_of_ble_eq_true rfl⟩, List.forall_mem_cons.mpr ⟨⟨c_J9_max_f86c9 l G hp, Nat.le_of_ble_eq_true rfl, Nat.le_of_ble_eq_true rfl⟩, fun _ h => absurd h List.not_mem_nil⟩⟩⟩⟩⟩⟩) (fun h => by cases h) 600 ?_
  intro as s0 hpre
  obtain ⟨r, a1, rfl, hr, i0⟩ := hpre
  simp only [List.mem_cons, List.not_mem_nil, or_false] at hr
  rcases hr with rfl | rfl
  ·
    have z0 : (Int32.ofInt 0).toInt = 0 := by decide
    have z1 : (Int32.ofInt 1).toInt = 1 := by decide
    refine ⟨Nat.le_of_ble_eq_true rfl, [], ?_, fun _ h => absurd h List.not_mem_nil⟩
    ·
      refine And.intro (by first | exact Or.inl rfl | exact Or.inr rfl | exact vg_01 (by omega) (by omega)) ?_
      intro s1 e2
      have i3 : Iv s1 := Iv.u1 i0 e2 rfl
      have k4 : Kp s0 s1 := Kx.u1 Kx.rf e2 rfl
      refine And.intro (Nat.le_of_ble_eq_true rfl) (And.intro ⟨3, a1, rfl, by decide, i3⟩ ?_)
      intro v5 s7 h6
      have h6 : Iv s7 ∧ Kp s1 s7 ∧ (True) := h6
      have i8 := h6.1
      have k9 : Kp s0 s7 := Kx.tr k4 (h6.2.1)
      refine And.intro (Nat.le_of_ble_eq_true rfl) (And.intro ⟨4, v5, rfl, by decide, i8⟩ ?_)
      intro v10 s12 h11
      have h11 : s12 = s7 ∧ (True) := h11
      have q15 := h11.1.symm
      subst q15
      intro s16 e17
      have i18 : Iv s16 := Iv.u1 i8 e17 rfl
      have k19 : Kp s0 s16 := Kx.u1 k9 e17 rfl
      intro v20 e21
      have g22 : s7.1 3 7 = v20 := by rw [e21, e17, vg_u1_at (a := 3) (b := 7) (k := 3) (i := 3) (by decide)]
      refine And.intro (fun c23 => ?_) (fun c23 => ?_)
      · have c23 : v20.toInt = 0 := c23
        intro v24 e25
        intro v26 e27
        intro v28 e29
        intro s30 e31
        have i32 : Iv s30 := Iv.u2 i18 e31
        have k33 : Kp s0 s30 := Kx.u2 k19 e31 (vg_kq_no ⟨rfl, rfl, rfl⟩).1
        intro v34 e35
        intro v36 e37
        have w38 : v10 = v36 := by rw [e37, e31, vg_u2_1, e17]; exact vg_u1_self.symm
        subst w38
        intro v39 e40
        intro v41 e42
        intro s43 e44
        have i45 : Iv s43 := Iv.u2 i32 e44
        have k46 : Kp s0 s43 := Kx.u2 k33 e44 (vg_kq_no ⟨rfl, rfl, rfl⟩).1
        intro v47 e48
        intro v49 e50
        intro v51 e52
        intro s53 e54
        have i55 : Iv s53 := Iv.u2 i45 e54
        have k56 : Kp s0 s53 := Kx.u2 k46 e54 (vg_kq_no ⟨rfl, rfl, rfl⟩).1
        intro v57 e58
        refine And.intro (Nat.le_of_ble_eq_true rfl) (And.intro ⟨3, rfl, by decide, i55⟩ ?_)
        intro v59 s61 h60
        have h60 : s61 = s53 ∧ (True) := h60
        have q64 := h60.1.symm
        subst q64
        refine And.intro (Nat.le_of_ble_eq_true rfl) (And.intro ⟨v59, rfl, trivial⟩ ?_)
        intro v65 s67 h66
        have h66 : s67 = s53 ∧ (True) := h66
        have q70 := h66.1.symm
        subst q70
        refine And.intro (Nat.le_of_ble_eq_true rfl) (And.intro ⟨v57, v65, rfl, trivial⟩ ?_)
        intro v71 s73 h72
        have h72 : s73 = s53 ∧ (True) := h72
        have q76 := h72.1.symm
        subst q76
        intro s77 e78
        have i79 : Iv s77 := Iv.u2 i55 e78
        have k80 : Kp s0 s77 := Kx.u2 k56 e78 (vg_kq_no ⟨rfl, rfl, rfl⟩).1
        show Iv s77 ∧ Kp s0 s77 ∧ (True)
        exact ⟨i79, k80, (trivial)⟩
      · have c23 : ¬ (v20.toInt = 0) := c23
        intro v81 e82
        have g83 : s7.1 3 6 = v81 := by rw [e82, e17, vg_u1_at (a := 3) (b := 6) (k := 3) (i := 3) (by decide)]
        intro v84 e85
        intro s86 e87
        have i88 : Iv s86 := Iv.u1 i18 e87 rfl
        have k89 : Kp s0 s86 := Kx.u1 k19 e87 rfl
        intro v90 e91
        have g92 : s7.1 4 5 = v90 := by rw [e91, e87, vg_u1_ne (a := 4) (k := 3) (by decide), e17, vg_u1_ne (a := 4) (k := 3) (by decide)]
        have b93 : (0 : Int) ≤ v90.toInt ∧ v90.toInt ≤ 1 := by rw [e91]; exact Iv_4_5 i88
        refine And.intro (fun c94 => ?_) (fun c94 => ?_)
        · have c94 : v90.toInt = 0 := c94
          intro v95 e96
          intro v97 e98
          intro v99 e100
          intro s101 e102
          have i103 : Iv s101 := Iv.u2 i88 e102
          have k104 : Kp s0 s101 := Kx.u2 k89 e102 (vg_kq_no ⟨rfl, rfl, rfl⟩).1
          intro v105 e106
          intro v107 e108
          have w109 : v10 = v107 := by rw [e108, e102, vg_u2_1, e87, vg_u1_at (a := 3) (b := 3) (k := 3) (i := 6) (by decide), e17]; exact vg_u1_self.symm
          subst w109
          intro v110 e111
          intro v112 e113
          intro s114 e115
          have i116 : Iv s114 := Iv.u2 i103 e115
          have k117 : Kp s0 s114 := Kx.u2 k104 e115 (vg_kq_no ⟨rfl, rfl, rfl⟩).1
          intro v118 e119
          intro v120 e121
          intro v122 e123
          intro s124 e125
          have i126 : Iv s124 := Iv.u2 i116 e125
          have k127 : Kp s0 s124 := Kx.u2 k117 e125 (vg_kq_no ⟨rfl, rfl, rfl⟩).1
          intro v128 e129
          refine And.intro (Nat.le_of_ble_eq_true rfl) (And.intro ⟨3, rfl, by decide, i126⟩ ?_)
          intro v130 s132 h131
          have h131 : s132 = s124 ∧ (True) := h131
          have q135 := h131.1.symm
          subst q135
          refine And.intro (Nat.le_of_ble_eq_true rfl) (And.intro ⟨v130, rfl, trivial⟩ ?_)
          intro v136 s138 h137
          have h137 : s138 = s124 ∧ (True) := h137
          have q141 := h137.1.symm
          subst q141
          refine And.intro (Nat.le_of_ble_eq_true rfl) (And.intro ⟨v128, v136, rfl, trivial⟩ ?_)
          intro v142 s144 h143
          have h143 : s144 = s124 ∧ (True) := h143
          have q147 := h143.1.symm
          subst q147
          intro s148 e149
          have i150 : Iv s148 := Iv.u2 i126 e149
          have k151 : Kp s0 s148 := Kx.u2 k127 e149 (vg_kq_no ⟨rfl, rfl, rfl⟩).1
          show Iv s148 ∧ Kp s0 s148 ∧ (True)
          exact ⟨i150, k151, (trivial)⟩
        · have c94 : ¬ (v90.toInt = 0) := c94
          refine And.intro (Nat.le_of_ble_eq_true rfl) (And.intro ⟨5, (Int32.ofInt 0), rfl, by decide, i88⟩ ?_)
          intro s153 h152
          have h152 : Iv s153 ∧ Kp s86 s153 ∧ (True) := h152
          have i154 := h152.1
          have k155 : Kp s0 s153 := Kx.tr k89 (h152.2.1)
          intro v156 e157
          intro v158 e159
          intro v160 e161
          intro s162 e163
          have i164 : Iv s162 := Iv.u2 i154 e163
          have k165 : Kp s0 s162 := Kx.u2 k155 e163 (vg_kq_no ⟨rfl, rfl, rfl⟩).1
          intro v166 e167
          intro v168 e169
          have g170 : s153.1 3 3 = v168 := by rw [e169, e163, vg_u2_1]
          intro v171 e172
          intro v173 e174
          intro s175 e176
          have i177 : Iv s175 := Iv.u2 i164 e176
          have k178 : Kp s0 s175 := Kx.u2 k165 e176 (vg_kq_no ⟨rfl, rfl, rfl⟩).1
          intro v179 e180
          intro v181 e182
          intro v183 e184
          intro s185 e186
          have i187 : Iv s185 := Iv.u2 i177 e186
          have k188 : Kp s0 s185 := Kx.u2 k178 e186 (vg_kq_no ⟨rfl, rfl, rfl⟩).1
          intro v189 e190
          refine And.intro (Nat.le_of_ble_eq_true rfl) (And.intro ⟨3, rfl, by decide, i187⟩ ?_)
          intro v191 s193 h192
          have h192 : s193 = s185 ∧ (True) := h192
          have q196 := h192.1.symm
          subst q196
          refine And.intro (Nat.le_of_ble_eq_true rfl) (And.intro ⟨v191, rfl, trivial⟩ ?_)
          intro v197 s199 h198
          have h198 : s199 = s185 ∧ (True) := h198
          have q202 := h198.1.symm
          subst q202
          refine And.intro (Nat.le_of_ble_eq_true rfl) (And.intro ⟨v189, v197, rfl, trivial⟩ ?_)
          intro v203 s205 h204
          have h204 : s205 = s185 ∧ (True) := h204
          have q208 := h204.1.symm
          subst q208
          intro s209 e210
          have i211 : Iv s209 := Iv.u2 i187 e210
          have k212 : Kp s0 s209 := Kx.u2 k188 e210 (vg_kq_no ⟨rfl, rfl, rfl⟩).1
          show Iv s209 ∧ Kp s0 s209 ∧ (True)
          exact ⟨i211, k212, (trivial)⟩
  ·
    have z0 : (Int32.ofInt 0).toInt = 0 := by decide
    have z1 : (Int32.ofInt 1).toInt = 1 := by decide
    refine ⟨Nat.le_of_ble_eq_true rfl, [], ?_, fun _ h => absurd h List.not_mem_nil⟩
    ·
      refine And.intro (by first | exact Or.inl rfl | exact Or.inr rfl | exact vg_01 (by omega) (by omega)) ?_
      intro s1 e2
      have i3 : Iv s1 := Iv.u1 i0 e2 rfl
      have k4 : Kp s0 s1 := Kx.u1 Kx.rf e2 rfl
      refine And.intro (Nat.le_of_ble_eq_true rfl) (And.intro ⟨22, a1, rfl, by decide, i3⟩ ?_)
      intro v5 s7 h6
      have h6 : Iv s7 ∧ Kp s1 s7 ∧ (True) := h6
      have i8 := h6.1
      have k9 : Kp s0 s7 := Kx.tr k4 (h6.2.1)
      refine And.intro (Nat.le_of_ble_eq_true rfl) (And.intro ⟨23, v5, rfl, by decide, i8⟩ ?_)
      intro v10 s12 h11
      have h11 : s12 = s7 ∧ (True) := h11
      have q15 := h11.1.symm
      subst q15
      intro s16 e17
      have i18 : Iv s16 := Iv.u1 i8 e17 rfl
      have k19 : Kp s0 s16 := Kx.u1 k9 e17 rfl
      intro v20 e21
      have g22 : s7.1 22 7 = v20 := by rw [e21, e17, vg_u1_at (a := 22) (b := 7) (k := 22) (i := 3) (by decide)]
      refine And.intro (fun c23 => ?_) (fun c23 => ?_)
      · have c23 : v20.toInt = 0 := c23
        intro v24 e25
        intro v26 e27
        intro v28 e29
        intro s30 e31
        have i32 : Iv s30 := Iv.u2 i18 e31
        have k33 : Kp s0 s30 := Kx.u2 k19 e31 (vg_kq_no ⟨rfl, rfl, rfl⟩).1
        intro v34 e35
        intro v36 e37
        have w38 : v10 = v36 := by rw [e37, e31, vg_u2_1, e17]; exact vg_u1_self.symm
        subst w38
        intro v39 e40
        intro v41 e42
        intro s43 e44
        have i45 : Iv s43 := Iv.u2 i32 e44
        have k46 : Kp s0 s43 := Kx.u2 k33 e44 (vg_kq_no ⟨rfl, rfl, rfl⟩).1
        intro v47 e48
        intro v49 e50
        intro v51 e52
        intro s53 e54
        have i55 : Iv s53 := Iv.u2 i45 e54
        have k56 : Kp s0 s53 := Kx.u2 k46 e54 (vg_kq_no ⟨rfl, rfl, rfl⟩).1
        intro v57 e58
        refine And.intro (Nat.le_of_ble_eq_true rfl) (And.intro ⟨22, rfl, by decide, i55⟩ ?_)
        intro v59 s61 h60
        have h60 : s61 = s53 ∧ (True) := h60
        have q64 := h60.1.symm
        subst q64
        refine And.intro (Nat.le_of_ble_eq_true rfl) (And.intro ⟨v59, rfl, trivial⟩ ?_)
        intro v65 s67 h66
        have h66 : s67 = s53 ∧ (True) := h66
        have q70 := h66.1.symm
        subst q70
        refine And.intro (Nat.le_of_ble_eq_true rfl) (And.intro ⟨v57, v65, rfl, trivial⟩ ?_)
        intro v71 s73 h72
        have h72 : s73 = s53 ∧ (True) := h72
        have q76 := h72.1.symm
        subst q76
        intro s77 e78
        have i79 : Iv s77 := Iv.u2 i55 e78
        have k80 : Kp s0 s77 := Kx.u2 k56 e78 (vg_kq_no ⟨rfl, rfl, rfl⟩).1
        show Iv s77 ∧ Kp s0 s77 ∧ (True)
        exact ⟨i79, k80, (trivial)⟩
      · have c23 : ¬ (v20.toInt = 0) := c23
        intro v81 e82
        have g83 : s7.1 22 6 = v81 := by rw [e82, e17, vg_u1_at (a := 22) (b := 6) (k := 22) (i := 3) (by decide)]
        intro v84 e85
        intro s86 e87
        have i88 : Iv s86 := Iv.u1 i18 e87 rfl
        have k89 : Kp s0 s86 := Kx.u1 k19 e87 rfl
        intro v90 e91
        have g92 : s7.1 23 5 = v90 := by rw [e91, e87, vg_u1_ne (a := 23) (k := 22) (by decide), e17, vg_u1_ne (a := 23) (k := 22) (by decide)]
        have b93 : (0 : Int) ≤ v90.toInt ∧ v90.toInt ≤ 1 := by rw [e91]; exact Iv_23_5 i88
        refine And.intro (fun c94 => ?_) (fun c94 => ?_)
        · have c94 : v90.toInt = 0 := c94
          intro v95 e96
          intro v97 e98
          intro v99 e100
          intro s101 e102
          have i103 : Iv s101 := Iv.u2 i88 e102
          have k104 : Kp s0 s101 := Kx.u2 k89 e102 (vg_kq_no ⟨rfl, rfl, rfl⟩).1
          intro v105 e106
          intro v107 e108
          have w109 : v10 = v107 := by rw [e108, e102, vg_u2_1, e87, vg_u1_at (a := 22) (b := 3) (k := 22) (i := 6) (by decide), e17]; exact vg_u1_self.symm
          subst w109
          intro v110 e111
          intro v112 e113
          intro s114 e115
          have i116 : Iv s114 := Iv.u2 i103 e115
          have k117 : Kp s0 s114 := Kx.u2 k104 e115 (vg_kq_no ⟨rfl, rfl, rfl⟩).1
          intro v118 e119
          intro v120 e121
          intro v122 e123
          intro s124 e125
          have i126 : Iv s124 := Iv.u2 i116 e125
          have k127 : Kp s0 s124 := Kx.u2 k117 e125 (vg_kq_no ⟨rfl, rfl, rfl⟩).1
          intro v128 e129
          refine And.intro (Nat.le_of_ble_eq_true rfl) (And.intro ⟨22, rfl, by decide, i126⟩ ?_)
          intro v130 s132 h131
          have h131 : s132 = s124 ∧ (True) := h131
          have q135 := h131.1.symm
          subst q135
          refine And.intro (Nat.le_of_ble_eq_true rfl) (And.intro ⟨v130, rfl, trivial⟩ ?_)
          intro v136 s138 h137
          have h137 : s138 = s124 ∧ (True) := h137
          have q141 := h137.1.symm
          subst q141
          refine And.intro (Nat.le_of_ble_eq_true rfl) (And.intro ⟨v128, v136, rfl, trivial⟩ ?_)
          intro v142 s144 h143
          have h143 : s144 = s124 ∧ (True) := h143
          have q147 := h143.1.symm
          subst q147
          intro s148 e149
          have i150 : Iv s148 := Iv.u2 i126 e149
          have k151 : Kp s0 s148 := Kx.u2 k127 e149 (vg_kq_no ⟨rfl, rfl, rfl⟩).1
          show Iv s148 ∧ Kp s0 s148 ∧ (True)
          exact ⟨i150, k151, (trivial)⟩
        · have c94 : ¬ (v90.toInt = 0) := c94
          refine And.intro (Nat.le_of_ble_eq_true rfl) (And.intro ⟨24, (Int32.ofInt 0), rfl, by decide, i88⟩ ?_)
          intro s153 h152
          have h152 : Iv s153 ∧ Kp s86 s153 ∧ (True) := h152
          have i154 := h152.1
          have k155 : Kp s0 s153 := Kx.tr k89 (h152.2.1)
          intro v156 e157
          intro v158 e159
          intro v160 e161
          intro s162 e163
          have i164 : Iv s162 := Iv.u2 i154 e163
          have k165 : Kp s0 s162 := Kx.u2 k155 e163 (vg_kq_no ⟨rfl, rfl, rfl⟩).1
          intro v166 e167
          intro v168 e169
          have g170 : s153.1 22 3 = v168 := by rw [e169, e163, vg_u2_1]
          intro v171 e172
          intro v173 e174
          intro s175 e176
          have i177 : Iv s175 := Iv.u2 i164 e176
          have k178 : Kp s0 s175 := Kx.u2 k165 e176 (vg_kq_no ⟨rfl, rfl, rfl⟩).1
          intro v179 e180
          intro v181 e182
          intro v183 e184
          intro s185 e186
          have i187 : Iv s185 := Iv.u2 i177 e186
          have k188 : Kp s0 s185 := Kx.u2 k178 e186 (vg_kq_no ⟨rfl, rfl, rfl⟩).1
          intro v189 e190
          refine And.intro (Nat.le_of_ble_eq_true rfl) (And.intro ⟨22, rfl, by decide, i187⟩ ?_)
          intro v191 s193 h192
          have h192 : s193 = s185 ∧ (True) := h192
          have q196 := h192.1.symm
          subst q196
          refine And.intro (Nat.le_of_ble_eq_true rfl) (And.intro ⟨v191, rfl, trivial⟩ ?_)
          intro v197 s199 h198
          have h198 : s199 = s185 ∧ (True) := h198
          have q202 := h198.1.symm
          subst q202
          refine And.intro (Nat.le_of_ble_eq_true rfl) (And.intro ⟨v189, v197, rfl, trivial⟩ ?_)
          intro v203 s205 h204
          have h204 : s205 = s185 ∧ (True) := h204
          have q208 := h204.1.symm
          subst q208
          intro s209 e210
          have i211 : Iv s209 := Iv.u2 i187 e210
          have k212 : Kp s0 s209 := Kx.u2 k188 e210 (vg_kq_no ⟨rfl, rfl, rfl⟩).1
          show Iv s209 ∧ Kp s0 s209 ∧ (True)
          exact ⟨i211, k212, (trivial)⟩
def o_X5_writeWords : List vg_I := [(0, .iload_n 2, 1, 0, 0, 0, 0), (1, .ifCond .lt 12, 3, 0, 0, 0, 0), (4, .iload_n 2, 1, 0, 0, 0, 0), (5, .bipush 10, 2, 0, 0, 0, 0), (7, .iadd, 1, 0, 0, 0, 0), (8, .aload_n 1, 1, 0, 0, 0, 0), (9, .arraylength, 1, 0, 0, 0, 0), (10, .if_icmp .le 4, 3, 0, 0, 0, 0), (13, .return_, 1, 0, 0, 0, 0), (14, .aload_n 0, 1, 0, 0, 0, 0), (15, .getfield 16, 3, 180, 5, 1, 0), (18, .iconst 0, 1, 0, 0, 0, 0), (19, .aload_n 1, 1, 0, 0, 0, 0), (20, .iload_n 2, 1, 0, 0, 0, 0), (21, .iconst 4, 1, 0, 0, 0, 0), (22, .invokestatic 74, 3, 0, 3, 0, 966), (25, .aload_n 0, 1, 0, 0, 0, 0), (26, .getfield 20, 3, 182, 5, 2, 0), (29, .iconst 0, 1, 0, 0, 0, 0), (30, .aload_n 1, 1, 0, 0, 0, 0), (31, .iload_n 2, 1, 0, 0, 0, 0), (32, .iconst 4, 1, 0, 0, 0, 0), (33, .iadd, 1, 0, 0, 0, 0), (34, .bipush 6, 2, 0, 0, 0, 0), (36, .invokestatic 74, 3, 0, 3, 0, 966), (39, .aload_n 0, 1, 0, 0, 0, 0), (40, .getfield 12, 3, 178, 5, 0, 0), (43, .getfield 108, 3, 141, 6, 0, 0), (46, .iconst 1, 1, 0, 0, 0, 0), (47, .if_icmp .ne 12, 3, 0, 0, 0, 0), (50, .aload_n 1, 1, 0, 0, 0, 0), (51, .iload_n 2, 1, 0, 0, 0, 0), (52, .iconst 4, 1, 0, 0, 0, 0), (53, .iadd, 1, 0, 0, 0, 0), (54, .aload_n 0, 1, 0, 0, 0, 0), (55, .getfield 29, 3, 183, 5, 3, 0), (58, .iastore, 1, 0, 0, 0, 0), (59, .return_, 1, 0, 0, 0, 0)]
set_option maxRecDepth 100000 in
set_option maxHeartbeats 4000000 in
theorem c_X5_writeWords (l : Launch) (G : vg_G) (hp : vg_Hp G) : vg_Ct l G vg_sh r_X5_writeWords := by
  refine vg_meth hp vg_sh_ok r_X5_writeWords k_X5_writeWords rfl (fun h => by cases h) o_X5_writeWords [] true (by decide +kernel) (by decide +kernel) ⟨_, _, rfl, rfl⟩ (fun _ h => absurd h List.not_mem_nil) (fun _ => ⟨⟨Nat.le_of_ble_eq_true rfl, Nat.le_of_ble_eq_true rfl⟩, vg_cpw_in⟩) 600 ?_
  intro as s0 hpre
  obtain ⟨r, a1, a2, rfl, hr, ha1, i0, p0⟩ := hpre
  simp only [List.mem_cons, List.not_mem_nil, or_false] at hr
  rcases hr with rfl
  ·
    simp only [List.mem_cons, List.not_mem_nil, or_false] at ha1
    rcases ha1 with rfl
    ·
      have z0 : (Int32.ofInt 0).toInt = 0 := by decide
      have z1 : (Int32.ofInt 1).toInt = 1 := by decide
      have z4 : (Int32.ofInt 4).toInt = 4 := by decide
      have z6 : (Int32.ofInt 6).toInt = 6 := by decide
      have z10 : (Int32.ofInt 10).toInt = 10 := by decide
      have n10010 : (Int32.ofNat 10010).toInt = 10010 := by decide
      refine ⟨Nat.le_of_ble_eq_true rfl, [], ?_, fun _ h => absurd h List.not_mem_nil⟩
      ·
        refine And.intro (fun c1 => ?_) (fun c1 => ?_)
        · have c1 : a2.toInt < 0 := c1
          exfalso
          omega
        · have c1 : ¬ (a2.toInt < 0) := c1
          intro v2 e3
          have b4 := vg_add e3 (by omega) (by omega)
          refine And.intro (fun c5 => ?_) (fun c5 => ?_)
          · have c5 : v2.toInt ≤ (Int32.ofNat 10010).toInt := c5
            refine And.intro (Nat.le_of_ble_eq_true rfl) (And.intro (by omega) (And.intro (by omega) (And.intro (by omega) (And.intro (by omega) (And.intro (by omega) ?_)))))
            intro s6 e7
            have i8 : Iv s6 := Iv.w1 i0 e7 rfl
            have k9 : Kp s0 s6 := Kx.w1 Kx.rf e7 (fun _ => rfl)
            intro v10 e11
            have b12 := vg_add e11 (by omega) (by omega)
            refine And.intro (Nat.le_of_ble_eq_true rfl) (And.intro (by omega) (And.intro (by omega) (And.intro (by omega) (And.intro (by omega) (And.intro (by omega) ?_)))))
            intro s13 e14
            have i15 : Iv s13 := Iv.w1 i8 e14 rfl
            have k16 : Kp s0 s13 := Kx.w1 k9 e14 (fun _ => rfl)
            intro v17 e18
            have g19 : s0.1 23 0 = v17 := by rw [e18, e14, vg_w1_at (a := 23) (k := 33) (by decide), e7, vg_w1_at (a := 23) (k := 33) (by decide)]
            refine And.intro (fun c20 => ?_) (fun c20 => ?_)
            · have c20 : ¬ v17.toInt = (Int32.ofInt 1).toInt := c20
              show Iv s13 ∧ Kp s0 s13 ∧ (True)
              exact ⟨i15, k16, (trivial)⟩
            · have c20 : ¬ (¬ v17.toInt = (Int32.ofInt 1).toInt) := c20
              intro v21 e22
              have b23 := vg_add e22 (by omega) (by omega)
              intro v24 e25
              have g26 : s0.1 22 3 = v24 := by rw [e25, e14, vg_w1_at (a := 22) (k := 33) (by decide), e7, vg_w1_at (a := 22) (k := 33) (by decide)]
              refine And.intro ⟨by omega, by omega⟩ ?_
              intro s27 e28
              have i29 : Iv s27 := Iv.a1 i15 e28 rfl
              have k30 : Kp s0 s27 := Kx.u1 k16 e28 rfl
              show Iv s27 ∧ Kp s0 s27 ∧ (True)
              exact ⟨i29, k30, (trivial)⟩
          · have c5 : ¬ (v2.toInt ≤ (Int32.ofNat 10010).toInt) := c5
            exfalso
            omega
def o_X7_numberUnbound : List vg_I := [(0, .aload_n 0, 1, 0, 0, 0, 0), (1, .getfield 27, 3, 104, 7, 0, 0), (4, .tableswitch 88 1 3 #[28, 47, 76], 28, 0, 0, 0, 0), (32, .aload_n 0, 1, 0, 0, 0, 0), (33, .getfield 30, 3, 106, 7, 1, 0), (36, .aload_n 0, 1, 0, 0, 0, 0), (37, .getfield 33, 3, 108, 7, 2, 0), (40, .iload_n 1, 1, 0, 0, 0, 0), (41, .aload_n 0, 1, 0, 0, 0, 0), (42, .getfield 9, 3, 110, 7, 3, 0), (45, .invokestatic 36, 3, 0, 1, 2, 628), (48, .imul, 1, 0, 0, 0, 0), (49, .iadd, 1, 0, 0, 0, 0), (50, .ireturn, 1, 0, 0, 0, 0), (51, .iload_n 1, 1, 0, 0, 0, 0), (52, .iconst 2, 1, 0, 0, 0, 0), (53, .aload_n 0, 1, 0, 0, 0, 0), (54, .getfield 9, 3, 110, 7, 3, 0), (57, .imul, 1, 0, 0, 0, 0), (58, .invokestatic 36, 3, 0, 1, 2, 628), (61, .aload_n 0, 1, 0, 0, 0, 0), (62, .getfield 9, 3, 110, 7, 3, 0), (65, .if_icmp .ge 10, 3, 0, 0, 0, 0), (68, .aload_n 0, 1, 0, 0, 0, 0), (69, .getfield 30, 3, 106, 7, 1, 0), (72, .goto 7, 3, 0, 0, 0, 0), (75, .aload_n 0, 1, 0, 0, 0, 0), (76, .getfield 33, 3, 108, 7, 2, 0), (79, .ireturn, 1, 0, 0, 0, 0), (80, .aload_n 0, 1, 0, 0, 0, 0), (81, .getfield 15, 3, 112, 7, 4, 0), (84, .iload_n 1, 1, 0, 0, 0, 0), (85, .bipush 16, 2, 0, 0, 0, 0), (87, .invokestatic 36, 3, 0, 1, 2, 628), (90, .iaload, 1, 0, 0, 0, 0), (91, .ireturn, 1, 0, 0, 0, 0), (92, .aload_n 0, 1, 0, 0, 0, 0), (93, .getfield 30, 3, 106, 7, 1, 0), (96, .ireturn, 1, 0, 0, 0, 0)]
set_option maxRecDepth 100000 in
set_option maxHeartbeats 4000000 in
theorem c_X7_numberUnbound (l : Launch) (G : vg_G) (hp : vg_Hp G) : vg_Ct l G vg_sh r_X7_numberUnbound := by
  refine vg_meth hp vg_sh_ok r_X7_numberUnbound k_X7_numberUnbound rfl (fun h => by cases h) o_X7_numberUnbound [r_J9_floorMod_7cf53] false (by decide +kernel) (by decide +kernel) ⟨_, _, rfl, rfl⟩ (List.forall_mem_cons.mpr ⟨⟨c_J9_floorMod_7cf53 l G hp, Nat.le_of_ble_eq_true rfl, Nat.le_of_ble_eq_true rfl⟩, fun _ h => absurd h List.not_mem_nil⟩) (fun h => by cases h) 600 ?_
  intro as s0 hpre
  obtain ⟨r, a1, rfl, hr, i0⟩ := hpre
  simp only [List.mem_cons, List.not_mem_nil, or_false] at hr
  rcases hr with rfl
  ·
    have z2 : (Int32.ofInt 2).toInt = 2 := by decide
    have z16 : (Int32.ofInt 16).toInt = 16 := by decide
    refine ⟨Nat.le_of_ble_eq_true rfl, [], ?_, fun _ h => absurd h List.not_mem_nil⟩
    ·
      intro v1 e2
      have g3 : s0.1 1 0 = v1 := by rw [e2]
      refine And.intro (fun c4 => ?_) ?_
      · have c4 : v1.toInt < (1) ∨ (3) < v1.toInt := c4
        intro v5 e6
        have g7 : s0.1 1 1 = v5 := by rw [e6]
        show s0 = s0 ∧ (True)
        exact ⟨rfl, (trivial)⟩
      refine And.intro (fun c8 => ?_) ?_
      · have c8 : v1.toInt = (1) := c8
        intro v9 e10
        have g11 : s0.1 1 1 = v9 := by rw [e10]
        intro v12 e13
        have g14 : s0.1 1 2 = v12 := by rw [e13]
        intro v15 e16
        have g17 : s0.1 1 3 = v15 := by rw [e16]
        have b18 : (1 : Int) ≤ v15.toInt ∧ v15.toInt ≤ 1000 := by rw [e16]; exact Iv_1_3 i0
        refine And.intro (Nat.le_of_ble_eq_true rfl) (And.intro ⟨a1, v15, rfl, by omega⟩ ?_)
        intro v19 s21 h20
        have h20 : s21 = s0 ∧ (0 ≤ v19.toInt ∧ v19.toInt < v15.toInt) := h20
        have q24 := h20.1.symm
        subst q24
        have q25 := h20.2
        intro v26 e27
        intro v28 e29
        show s0 = s0 ∧ (True)
        exact ⟨rfl, (trivial)⟩
      refine And.intro (fun c30 => ?_) ?_
      · have c30 : v1.toInt = (2) := c30
        intro v31 e32
        have g33 : s0.1 1 3 = v31 := by rw [e32]
        have b34 : (1 : Int) ≤ v31.toInt ∧ v31.toInt ≤ 1000 := by rw [e32]; exact Iv_1_3 i0
        intro v35 e36
        have b37 : v35.toInt = (2) * v31.toInt := vg_mulL e36 (by omega) (by omega) (by omega)
        refine And.intro (Nat.le_of_ble_eq_true rfl) (And.intro ⟨a1, v35, rfl, by omega⟩ ?_)
        intro v38 s40 h39
        have h39 : s40 = s0 ∧ (0 ≤ v38.toInt ∧ v38.toInt < v35.toInt) := h39
        have q43 := h39.1.symm
        subst q43
        have q44 := h39.2
        intro v45 e46
        have w47 : v31 = v45 := by rw [e46, g33]
        subst w47
        refine And.intro (fun c48 => ?_) (fun c48 => ?_)
        · have c48 : v31.toInt ≤ v38.toInt := c48
          intro v49 e50
          have g51 : s0.1 1 2 = v49 := by rw [e50]
          show s0 = s0 ∧ (True)
          exact ⟨rfl, (trivial)⟩
        · have c48 : ¬ (v31.toInt ≤ v38.toInt) := c48
          intro v52 e53
          have g54 : s0.1 1 1 = v52 := by rw [e53]
          show s0 = s0 ∧ (True)
          exact ⟨rfl, (trivial)⟩
      refine And.intro (fun c55 => ?_) ?_
      · have c55 : v1.toInt = (3) := c55
        refine And.intro (Nat.le_of_ble_eq_true rfl) (And.intro ⟨a1, (Int32.ofInt 16), rfl, by omega⟩ ?_)
        intro v56 s58 h57
        have h57 : s58 = s0 ∧ (0 ≤ v56.toInt ∧ v56.toInt < (Int32.ofInt 16).toInt) := h57
        have q61 := h57.1.symm
        subst q61
        have q62 := h57.2
        refine And.intro ⟨by omega, by omega⟩ ?_
        intro v63 e64
        show s0 = s0 ∧ (True)
        exact ⟨rfl, (trivial)⟩
      exact trivial
def o_X7_numberAt : List vg_I := [(0, .aload_n 0, 1, 0, 0, 0, 0), (1, .iload_n 1, 1, 0, 0, 0, 0), (2, .invokevirtual 19, 3, 0, 7, 1, 624), (5, .sipush 30000, 3, 0, 0, 0, 0), (8, .invokestatic 23, 3, 1, 2, 2, 1), (11, .ireturn, 1, 0, 0, 0, 0)]
set_option maxRecDepth 100000 in
set_option maxHeartbeats 4000000 in
theorem c_X7_numberAt (l : Launch) (G : vg_G) (hp : vg_Hp G) : vg_Ct l G vg_sh r_X7_numberAt := by
  refine vg_meth hp vg_sh_ok r_X7_numberAt k_X7_numberAt rfl (fun h => by cases h) o_X7_numberAt [r_X7_numberUnbound, r_X10_putTo] false (by decide +kernel) (by decide +kernel) ⟨_, _, rfl, rfl⟩ (List.forall_mem_cons.mpr ⟨⟨c_X7_numberUnbound l G hp, Nat.le_of_ble_eq_true rfl, Nat.le_of_ble_eq_true rfl⟩, List.forall_mem_cons.mpr ⟨⟨c_X10_putTo l G hp, Nat.le_of_ble_eq_true rfl, Nat.le_of_ble_eq_true rfl⟩, fun _ h => absurd h List.not_mem_nil⟩⟩) (fun h => by cases h) 600 ?_
  intro as s0 hpre
  obtain ⟨r, a1, rfl, hr, i0⟩ := hpre
  simp only [List.mem_cons, List.not_mem_nil, or_false] at hr
  rcases hr with rfl
  ·
    have z30000 : (Int32.ofInt 30000).toInt = 30000 := by decide
    refine ⟨Nat.le_of_ble_eq_true rfl, [], ?_, fun _ h => absurd h List.not_mem_nil⟩
    ·
      refine And.intro (Nat.le_of_ble_eq_true rfl) (And.intro ⟨1, a1, rfl, by decide, i0⟩ ?_)
      intro v1 s3 h2
      have h2 : s3 = s0 ∧ (True) := h2
      have q6 := h2.1.symm
      subst q6
      refine And.intro (Nat.le_of_ble_eq_true rfl) (And.intro ⟨v1, (Int32.ofInt 30000), rfl, trivial⟩ ?_)
      intro v7 s9 h8
      have h8 : s9 = s0 ∧ (True) := h8
      have q12 := h8.1.symm
      subst q12
      show s0 = s0 ∧ (True)
      exact ⟨rfl, (trivial)⟩
