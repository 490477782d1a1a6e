def o_X6_copyFrom : List vg_I := [(0, .aload_n 0, 1, 0, 0, 0, 0), (1, .aload_n 1, 1, 0, 0, 0, 0), (2, .getfield 11, 3, 139, 6, 0, 0), (5, .putfield 11, 3, 139, 6, 0, 0), (8, .aload_n 0, 1, 0, 0, 0, 0), (9, .aload_n 1, 1, 0, 0, 0, 0), (10, .getfield 15, 3, 142, 6, 1, 0), (13, .putfield 15, 3, 142, 6, 1, 0), (16, .aload_n 0, 1, 0, 0, 0, 0), (17, .aload_n 1, 1, 0, 0, 0, 0), (18, .getfield 18, 3, 145, 6, 2, 0), (21, .putfield 18, 3, 145, 6, 2, 0), (24, .aload_n 0, 1, 0, 0, 0, 0), (25, .aload_n 1, 1, 0, 0, 0, 0), (26, .getfield 21, 3, 147, 6, 3, 0), (29, .putfield 21, 3, 147, 6, 3, 0), (32, .aload_n 0, 1, 0, 0, 0, 0), (33, .aload_n 1, 1, 0, 0, 0, 0), (34, .getfield 25, 3, 149, 6, 4, 0), (37, .putfield 25, 3, 149, 6, 4, 0), (40, .aload_n 0, 1, 0, 0, 0, 0), (41, .aload_n 1, 1, 0, 0, 0, 0), (42, .getfield 28, 3, 152, 6, 5, 0), (45, .putfield 28, 3, 152, 6, 5, 1), (48, .aload_n 0, 1, 0, 0, 0, 0), (49, .aload_n 1, 1, 0, 0, 0, 0), (50, .getfield 32, 3, 155, 6, 6, 0), (53, .putfield 32, 3, 155, 6, 6, 0), (56, .aload_n 0, 1, 0, 0, 0, 0), (57, .aload_n 1, 1, 0, 0, 0, 0), (58, .getfield 35, 3, 159, 6, 7, 0), (61, .putfield 35, 3, 159, 6, 7, 0), (64, .return_, 1, 0, 0, 0, 0)]
set_option maxRecDepth 100000 in
set_option maxHeartbeats 4000000 in
theorem c_X6_copyFrom (l : Launch) (G : vg_G) (hp : vg_Hp G) : vg_Ct l G vg_sh r_X6_copyFrom := by
  refine vg_meth hp vg_sh_ok r_X6_copyFrom k_X6_copyFrom rfl (fun h => by cases h) o_X6_copyFrom [] false (by decide +kernel) (by decide +kernel) ⟨_, _, rfl, rfl⟩ (fun _ h => absurd h List.not_mem_nil) (fun h => by cases h) 600 ?_
  intro as s0 hpre
  obtain ⟨r, a1, rfl, hr, ha1, i0⟩ := hpre
  simp only [List.mem_cons, List.not_mem_nil, or_false] at hr
  rcases hr with rfl
  ·
    simp only [List.mem_cons, List.not_mem_nil, or_false] at ha1
    rcases ha1 with rfl
    ·
      refine ⟨Nat.le_of_ble_eq_true rfl, [], ?_, fun _ h => absurd h List.not_mem_nil⟩
      ·
        intro v1 e2
        have g3 : s0.1 4 0 = v1 := by rw [e2]
        intro s4 e5
        have i6 : Iv s4 := Iv.u1 i0 e5 rfl
        have k7 : Kp s0 s4 := Kx.u1 Kx.rf e5 rfl
        have u8 : vk s4 = ((vk s0).1, (vk s0).2) := vk_k1 rfl e5 rfl
        intro v9 e10
        have g11 : s0.1 4 1 = v9 := by rw [e10, e5, vg_u1_ne (a := 4) (k := 23) (by decide)]
        have b12 : (1 : Int) ≤ v9.toInt ∧ v9.toInt ≤ 4 := by rw [e10]; exact Iv_4_1 i6
        intro s13 e14
        have i15 : Iv s13 := Iv.c1 (lo := 1) (hi := 4) i6 e14 rfl (by omega) (by omega)
        have k16 : Kp s0 s13 := Kx.u1 k7 e14 rfl
        have u17 : vk s13 = ((vk s0).1, (vk s0).2) := vk_k1 u8 e14 rfl
        intro v18 e19
        have g20 : s0.1 4 2 = v18 := by rw [e19, e14, vg_u1_ne (a := 4) (k := 23) (by decide), e5, vg_u1_ne (a := 4) (k := 23) (by decide)]
        have b21 : (1 : Int) ≤ v18.toInt ∧ v18.toInt ≤ 5000 := by rw [e19]; exact Iv_4_2 i15
        intro s22 e23
        have i24 : Iv s22 := Iv.c1 (lo := 1) (hi := 5000) i15 e23 rfl (by omega) (by omega)
        have k25 : Kp s0 s22 := Kx.u1 k16 e23 rfl
        have u26 : vk s22 = ((vk s0).1, (vk s0).2) := vk_k1 u17 e23 rfl
        intro v27 e28
        have g29 : s0.1 4 3 = v27 := by rw [e28, e23, vg_u1_ne (a := 4) (k := 23) (by decide), e14, vg_u1_ne (a := 4) (k := 23) (by decide), e5, vg_u1_ne (a := 4) (k := 23) (by decide)]
        have b30 : (2 : Int) ≤ v27.toInt ∧ v27.toInt ≤ 17 := by rw [e28]; exact Iv_4_3 i24
        intro s31 e32
        have i33 : Iv s31 := Iv.c1 (lo := 2) (hi := 17) i24 e32 rfl (by omega) (by omega)
        have k34 : Kp s0 s31 := Kx.u1 k25 e32 rfl
        have u35 : vk s31 = ((vk s0).1, (vk s0).2) := vk_k1 u26 e32 rfl
        intro v36 e37
        have g38 : s0.1 4 4 = v36 := by rw [e37, e32, vg_u1_ne (a := 4) (k := 23) (by decide), e23, vg_u1_ne (a := 4) (k := 23) (by decide), e14, vg_u1_ne (a := 4) (k := 23) (by decide), e5, vg_u1_ne (a := 4) (k := 23) (by decide)]
        have b39 : (1 : Int) ≤ v36.toInt ∧ v36.toInt ≤ 60000 := by rw [e37]; exact Iv_4_4 i33
        intro s40 e41
        have i42 : Iv s40 := Iv.c1 (lo := 1) (hi := 60000) i33 e41 rfl (by omega) (by omega)
        have k43 : Kp s0 s40 := Kx.u1 k34 e41 rfl
        have u44 : vk s40 = ((vk s0).1, (vk s0).2) := vk_k1 u35 e41 rfl
        intro v45 e46
        have g47 : s0.1 4 5 = v45 := by rw [e46, e41, vg_u1_ne (a := 4) (k := 23) (by decide), e32, vg_u1_ne (a := 4) (k := 23) (by decide), e23, vg_u1_ne (a := 4) (k := 23) (by decide), e14, vg_u1_ne (a := 4) (k := 23) (by decide), e5, vg_u1_ne (a := 4) (k := 23) (by decide)]
        have b48 : (0 : Int) ≤ v45.toInt ∧ v45.toInt ≤ 1 := by rw [e46]; exact Iv_4_5 i42
        refine And.intro (by first | exact Or.inl rfl | exact Or.inr rfl | exact vg_01 (by omega) (by omega)) ?_
        intro s49 e50
        have i51 : Iv s49 := Iv.c1 (lo := 0) (hi := 1) i42 e50 rfl (by omega) (by omega)
        have k52 : Kp s0 s49 := Kx.u1 k43 e50 rfl
        have u53 : vk s49 = ((vk s0).1, (vk s0).2) := vk_k1 u44 e50 rfl
        intro v54 e55
        have g56 : s0.1 4 6 = v54 := by rw [e55, e50, vg_u1_ne (a := 4) (k := 23) (by decide), e41, vg_u1_ne (a := 4) (k := 23) (by decide), e32, vg_u1_ne (a := 4) (k := 23) (by decide), e23, vg_u1_ne (a := 4) (k := 23) (by decide), e14, vg_u1_ne (a := 4) (k := 23) (by decide), e5, vg_u1_ne (a := 4) (k := 23) (by decide)]
        have b57 : (0 : Int) ≤ v54.toInt ∧ v54.toInt ≤ 5000 := by rw [e55]; exact Iv_4_6 i51
        intro s58 e59
        have i60 : Iv s58 := Iv.c1 (lo := 0) (hi := 5000) i51 e59 rfl (by omega) (by omega)
        have k61 : Kp s0 s58 := Kx.u1 k52 e59 rfl
        have u62 : vk s58 = ((vk s0).1, (vk s0).2) := vk_k1 u53 e59 rfl
        intro v63 e64
        have g65 : s0.1 4 7 = v63 := by rw [e64, e59, vg_u1_ne (a := 4) (k := 23) (by decide), e50, vg_u1_ne (a := 4) (k := 23) (by decide), e41, vg_u1_ne (a := 4) (k := 23) (by decide), e32, vg_u1_ne (a := 4) (k := 23) (by decide), e23, vg_u1_ne (a := 4) (k := 23) (by decide), e14, vg_u1_ne (a := 4) (k := 23) (by decide), e5, vg_u1_ne (a := 4) (k := 23) (by decide)]
        intro s66 e67
        have i68 : Iv s66 := Iv.u1 i60 e67 rfl
        have k69 : Kp s0 s66 := Kx.u1 k61 e67 rfl
        have u70 : vk s66 = ((vk s0).1, (vk s0).2) := vk_k1 u62 e67 rfl
        show Iv s66 ∧ Kp s0 s66 ∧ vk s66 = ((vk s0).1, (vk s0).2) ∧ (True)
        exact ⟨i68, k69, u70, (trivial)⟩
def o_X6_besides : List vg_I := [(0, .aload_n 0, 1, 0, 0, 0, 0), (1, .getfield 11, 3, 139, 6, 0, 0), (4, .iconst 2, 1, 0, 0, 0, 0), (5, .if_icmp .ne 23, 3, 0, 0, 0, 0), (8, .aload_n 0, 1, 0, 0, 0, 0), (9, .getfield 21, 3, 147, 6, 3, 0), (12, .iconst 1, 1, 0, 0, 0, 0), (13, .isub, 1, 0, 0, 0, 0), (14, .iconst 1, 1, 0, 0, 0, 0), (15, .aload_n 0, 1, 0, 0, 0, 0), (16, .getfield 15, 3, 142, 6, 1, 0), (19, .iconst 1, 1, 0, 0, 0, 0), (20, .isub, 1, 0, 0, 0, 0), (21, .ishl, 1, 0, 0, 0, 0), (22, .iconst 1, 1, 0, 0, 0, 0), (23, .isub, 1, 0, 0, 0, 0), (24, .imul, 1, 0, 0, 0, 0), (25, .goto 4, 3, 0, 0, 0, 0), (28, .iconst 0, 1, 0, 0, 0, 0), (29, .ireturn, 1, 0, 0, 0, 0)]
set_option maxRecDepth 100000 in
set_option maxHeartbeats 4000000 in
theorem c_X6_besides (l : Launch) (G : vg_G) (hp : vg_Hp G) : vg_Ct l G vg_sh r_X6_besides := by
  refine vg_meth hp vg_sh_ok r_X6_besides k_X6_besides rfl (fun h => by cases h) o_X6_besides [] false (by decide +kernel) (by decide +kernel) ⟨_, _, rfl, rfl⟩ (fun _ h => absurd h List.not_mem_nil) (fun h => by cases h) 600 ?_
  intro as s0 hpre
  obtain ⟨r, rfl, hr, i0⟩ := hpre
  simp only [List.mem_cons, List.not_mem_nil, or_false] at hr
  rcases hr with rfl | rfl
  ·
    have z0 : (Int32.ofInt 0).toInt = 0 := by decide
    have z1 : (Int32.ofInt 1).toInt = 1 := by decide
    have z2 : (Int32.ofInt 2).toInt = 2 := by decide
    refine ⟨Nat.le_of_ble_eq_true rfl, [], ?_, fun _ h => absurd h List.not_mem_nil⟩
    ·
      intro v1 e2
      have g3 : s0.1 4 0 = v1 := by rw [e2]
      refine And.intro (fun c4 => ?_) (fun c4 => ?_)
      · have c4 : ¬ v1.toInt = (Int32.ofInt 2).toInt := c4
        show s0 = s0 ∧ (True)
        exact ⟨rfl, (trivial)⟩
      · have c4 : ¬ (¬ v1.toInt = (Int32.ofInt 2).toInt) := c4
        intro v5 e6
        have g7 : s0.1 4 3 = v5 := by rw [e6]
        have b8 : (2 : Int) ≤ v5.toInt ∧ v5.toInt ≤ 17 := by rw [e6]; exact Iv_4_3 i0
        intro v9 e10
        have b11 := vg_sub e10 (by omega) (by omega)
        intro v12 e13
        have g14 : s0.1 4 1 = v12 := by rw [e13]
        have b15 : (1 : Int) ≤ v12.toInt ∧ v12.toInt ≤ 4 := by rw [e13]; exact Iv_4_1 i0
        intro v16 e17
        have b18 := vg_sub e17 (by omega) (by omega)
        intro v19 e20
        intro v21 e22
        intro v23 e24
        show s0 = s0 ∧ (True)
        exact ⟨rfl, (trivial)⟩
  ·
    have z0 : (Int32.ofInt 0).toInt = 0 := by decide
    have z1 : (Int32.ofInt 1).toInt = 1 := by decide
    have z2 : (Int32.ofInt 2).toInt = 2 := by decide
    refine ⟨Nat.le_of_ble_eq_true rfl, [], ?_, fun _ h => absurd h List.not_mem_nil⟩
    ·
      intro v1 e2
      have g3 : s0.1 23 0 = v1 := by rw [e2]
      refine And.intro (fun c4 => ?_) (fun c4 => ?_)
      · have c4 : ¬ v1.toInt = (Int32.ofInt 2).toInt := c4
        show s0 = s0 ∧ (True)
        exact ⟨rfl, (trivial)⟩
      · have c4 : ¬ (¬ v1.toInt = (Int32.ofInt 2).toInt) := c4
        intro v5 e6
        have g7 : s0.1 23 3 = v5 := by rw [e6]
        have b8 : (2 : Int) ≤ v5.toInt ∧ v5.toInt ≤ 17 := by rw [e6]; exact Iv_23_3 i0
        intro v9 e10
        have b11 := vg_sub e10 (by omega) (by omega)
        intro v12 e13
        have g14 : s0.1 23 1 = v12 := by rw [e13]
        have b15 : (1 : Int) ≤ v12.toInt ∧ v12.toInt ≤ 4 := by rw [e13]; exact Iv_23_1 i0
        intro v16 e17
        have b18 := vg_sub e17 (by omega) (by omega)
        intro v19 e20
        intro v21 e22
        intro v23 e24
        show s0 = s0 ∧ (True)
        exact ⟨rfl, (trivial)⟩
def o_X6_valueOfSmall : List vg_I := [(0, .aload_n 0, 1, 0, 0, 0, 0), (1, .getfield 18, 3, 145, 6, 2, 0), (4, .iconst 2, 1, 0, 0, 0, 0), (5, .iload_n 1, 1, 0, 0, 0, 0), (6, .imul, 1, 0, 0, 0, 0), (7, .iconst 1, 1, 0, 0, 0, 0), (8, .iadd, 1, 0, 0, 0, 0), (9, .aload_n 0, 1, 0, 0, 0, 0), (10, .getfield 21, 3, 147, 6, 3, 0), (13, .isub, 1, 0, 0, 0, 0), (14, .imul, 1, 0, 0, 0, 0), (15, .ireturn, 1, 0, 0, 0, 0)]
set_option maxRecDepth 100000 in
set_option maxHeartbeats 4000000 in
theorem c_X6_valueOfSmall (l : Launch) (G : vg_G) (hp : vg_Hp G) : vg_Ct l G vg_sh r_X6_valueOfSmall := by
  refine vg_meth hp vg_sh_ok r_X6_valueOfSmall k_X6_valueOfSmall rfl (fun h => by cases h) o_X6_valueOfSmall [] false (by decide +kernel) (by decide +kernel) ⟨_, _, rfl, rfl⟩ (fun _ h => absurd h List.not_mem_nil) (fun h => by cases h) 600 ?_
  intro as s0 hpre
  obtain ⟨r, a1, rfl, hr, i0⟩ := hpre
  simp only [List.mem_cons, List.not_mem_nil, or_false] at hr
  rcases hr with rfl | rfl
  ·
    have z1 : (Int32.ofInt 1).toInt = 1 := by decide
    have z2 : (Int32.ofInt 2).toInt = 2 := by decide
    refine ⟨Nat.le_of_ble_eq_true rfl, [], ?_, fun _ h => absurd h List.not_mem_nil⟩
    ·
      intro v1 e2
      have g3 : s0.1 4 2 = v1 := by rw [e2]
      have b4 : (1 : Int) ≤ v1.toInt ∧ v1.toInt ≤ 5000 := by rw [e2]; exact Iv_4_2 i0
      intro v5 e6
      intro v7 e8
      intro v9 e10
      have g11 : s0.1 4 3 = v9 := by rw [e10]
      have b12 : (2 : Int) ≤ v9.toInt ∧ v9.toInt ≤ 17 := by rw [e10]; exact Iv_4_3 i0
      intro v13 e14
      intro v15 e16
      show s0 = s0 ∧ (True)
      exact ⟨rfl, (trivial)⟩
  ·
    have z1 : (Int32.ofInt 1).toInt = 1 := by decide
    have z2 : (Int32.ofInt 2).toInt = 2 := by decide
    refine ⟨Nat.le_of_ble_eq_true rfl, [], ?_, fun _ h => absurd h List.not_mem_nil⟩
    ·
      intro v1 e2
      have g3 : s0.1 23 2 = v1 := by rw [e2]
      have b4 : (1 : Int) ≤ v1.toInt ∧ v1.toInt ≤ 5000 := by rw [e2]; exact Iv_23_2 i0
      intro v5 e6
      intro v7 e8
      intro v9 e10
      have g11 : s0.1 23 3 = v9 := by rw [e10]
      have b12 : (2 : Int) ≤ v9.toInt ∧ v9.toInt ≤ 17 := by rw [e10]; exact Iv_23_3 i0
      intro v13 e14
      intro v15 e16
      show s0 = s0 ∧ (True)
      exact ⟨rfl, (trivial)⟩
def o_X6_valueOf : List vg_I := [(0, .aload_n 0, 1, 0, 0, 0, 0), (1, .iload_n 1, 1, 0, 0, 0, 0), (2, .aload_n 0, 1, 0, 0, 0, 0), (3, .invokevirtual 38, 3, 0, 6, 0, 709), (6, .isub, 1, 0, 0, 0, 0), (7, .invokevirtual 42, 3, 1, 6, 1, 710), (10, .ireturn, 1, 0, 0, 0, 0)]
set_option maxRecDepth 100000 in
set_option maxHeartbeats 4000000 in
theorem c_X6_valueOf (l : Launch) (G : vg_G) (hp : vg_Hp G) : vg_Ct l G vg_sh r_X6_valueOf := by
  refine vg_meth hp vg_sh_ok r_X6_valueOf k_X6_valueOf rfl (fun h => by cases h) o_X6_valueOf [r_X6_besides, r_X6_valueOfSmall] false (by decide +kernel) (by decide +kernel) ⟨_, _, rfl, rfl⟩ (List.forall_mem_cons.mpr ⟨⟨c_X6_besides l G hp, Nat.le_of_ble_eq_true rfl, Nat.le_of_ble_eq_true rfl⟩, List.forall_mem_cons.mpr ⟨⟨c_X6_valueOfSmall l G hp, Nat.le_of_ble_eq_true rfl, Nat.le_of_ble_eq_true rfl⟩, fun _ h => absurd h List.not_mem_nil⟩⟩) (fun h => by cases h) 600 ?_
  intro as s0 hpre
  obtain ⟨r, a1, rfl, hr, i0⟩ := hpre
  simp only [List.mem_cons, List.not_mem_nil, or_false] at hr
  rcases hr with rfl | rfl
  ·
    refine ⟨Nat.le_of_ble_eq_true rfl, [], ?_, fun _ h => absurd h List.not_mem_nil⟩
    ·
      refine And.intro (Nat.le_of_ble_eq_true rfl) (And.intro ⟨4, rfl, by decide, i0⟩ ?_)
      intro v1 s3 h2
      have h2 : s3 = s0 ∧ (True) := h2
      have q6 := h2.1.symm
      subst q6
      intro v7 e8
      refine And.intro (Nat.le_of_ble_eq_true rfl) (And.intro ⟨4, v7, rfl, by decide, i0⟩ ?_)
      intro v9 s11 h10
      have h10 : s11 = s0 ∧ (True) := h10
      have q14 := h10.1.symm
      subst q14
      show s0 = s0 ∧ (True)
      exact ⟨rfl, (trivial)⟩
  ·
    refine ⟨Nat.le_of_ble_eq_true rfl, [], ?_, fun _ h => absurd h List.not_mem_nil⟩
    ·
      refine And.intro (Nat.le_of_ble_eq_true rfl) (And.intro ⟨23, rfl, by decide, i0⟩ ?_)
      intro v1 s3 h2
      have h2 : s3 = s0 ∧ (True) := h2
      have q6 := h2.1.symm
      subst q6
      intro v7 e8
      refine And.intro (Nat.le_of_ble_eq_true rfl) (And.intro ⟨23, v7, rfl, by decide, i0⟩ ?_)
      intro v9 s11 h10
      have h10 : s11 = s0 ∧ (True) := h10
      have q14 := h10.1.symm
      subst q14
      show s0 = s0 ∧ (True)
      exact ⟨rfl, (trivial)⟩
def o_X6_nearest : List vg_I := [(0, .iload_n 1, 1, 0, 0, 0, 0), (1, .aload_n 0, 1, 0, 0, 0, 0), (2, .getfield 18, 3, 145, 6, 2, 0), (5, .aload_n 0, 1, 0, 0, 0, 0), (6, .getfield 21, 3, 147, 6, 3, 0), (9, .iconst 2, 1, 0, 0, 0, 0), (10, .isub, 1, 0, 0, 0, 0), (11, .imul, 1, 0, 0, 0, 0), (12, .iadd, 1, 0, 0, 0, 0), (13, .ineg, 1, 0, 0, 0, 0), (14, .iconst 2, 1, 0, 0, 0, 0), (15, .aload_n 0, 1, 0, 0, 0, 0), (16, .getfield 18, 3, 145, 6, 2, 0), (19, .imul, 1, 0, 0, 0, 0), (20, .invokestatic 46, 3, 0, 1, 2, 676), (23, .ineg, 1, 0, 0, 0, 0), (24, .istore_n 2, 1, 0, 0, 0, 0), (25, .iconst 0, 1, 0, 0, 0, 0), (26, .aload_n 0, 1, 0, 0, 0, 0), (27, .getfield 21, 3, 147, 6, 3, 0), (30, .iconst 1, 1, 0, 0, 0, 0), (31, .isub, 1, 0, 0, 0, 0), (32, .iload_n 2, 1, 0, 0, 0, 0), (33, .invokestatic 52, 3, 1, 1, 2, 679), (36, .invokestatic 55, 3, 2, 1, 2, 680), (39, .ireturn, 1, 0, 0, 0, 0)]
set_option maxRecDepth 100000 in
set_option maxHeartbeats 4000000 in
theorem c_X6_nearest (l : Launch) (G : vg_G) (hp : vg_Hp G) : vg_Ct l G vg_sh r_X6_nearest := by
  refine vg_meth hp vg_sh_ok r_X6_nearest k_X6_nearest rfl (fun h => by cases h) o_X6_nearest [r_J9_floorDiv_7cf53, r_J9_min_7cf53, r_J9_max_7cf53] false (by decide +kernel) (by decide +kernel) ⟨_, _, rfl, rfl⟩ (List.forall_mem_cons.mpr ⟨⟨c_J9_floorDiv_7cf53 l G hp, Nat.le_of_ble_eq_true rfl, Nat.le_of_ble_eq_true rfl⟩, List.forall_mem_cons.mpr ⟨⟨c_J9_min_7cf53 l G hp, Nat.le_of_ble_eq_true rfl, Nat.le_of_ble_eq_true rfl⟩, List.forall_mem_cons.mpr ⟨⟨c_J9_max_7cf53 l G hp, Nat.le_of_ble_eq_true rfl, Nat.le_of_ble_eq_true rfl⟩, fun _ h => absurd h List.not_mem_nil⟩⟩⟩) (fun h => by cases h) 600 ?_
  intro as s0 hpre
  obtain ⟨r, a1, rfl, hr, i0⟩ := hpre
  simp only [List.mem_cons, List.not_mem_nil, or_false] at hr
  rcases hr with rfl | rfl
  ·
    have z0 : (Int32.ofInt 0).toInt = 0 := by decide
    have z1 : (Int32.ofInt 1).toInt = 1 := by decide
    have z2 : (Int32.ofInt 2).toInt = 2 := by decide
    refine ⟨Nat.le_of_ble_eq_true rfl, [], ?_, fun _ h => absurd h List.not_mem_nil⟩
    ·
      intro v1 e2
      have g3 : s0.1 4 2 = v1 := by rw [e2]
      have b4 : (1 : Int) ≤ v1.toInt ∧ v1.toInt ≤ 5000 := by rw [e2]; exact Iv_4_2 i0
      intro v5 e6
      have g7 : s0.1 4 3 = v5 := by rw [e6]
      have b8 : (2 : Int) ≤ v5.toInt ∧ v5.toInt ≤ 17 := by rw [e6]; exact Iv_4_3 i0
      intro v9 e10
      have b11 := vg_sub e10 (by omega) (by omega)
      intro v12 e13
      intro v14 e15
      intro v16 e17
      intro v18 e19
      have w20 : v1 = v18 := by rw [e19, g3]
      subst w20
      intro v21 e22
      have b23 : v21.toInt = (2) * v1.toInt := vg_mulL e22 (by omega) (by omega) (by omega)
      refine And.intro (Nat.le_of_ble_eq_true rfl) (And.intro ⟨v16, v21, rfl, by omega⟩ ?_)
      intro v24 s26 h25
      have h25 : s26 = s0 ∧ (True) := h25
      have q29 := h25.1.symm
      subst q29
      intro v30 e31
      intro v32 e33
      have w34 : v5 = v32 := by rw [e33, g7]
      subst w34
      intro v35 e36
      have b37 := vg_sub e36 (by omega) (by omega)
      refine And.intro (Nat.le_of_ble_eq_true rfl) (And.intro ⟨v35, v30, rfl, trivial⟩ ?_)
      intro v38 s40 h39
      have h39 : s40 = s0 ∧ (v38.toInt ≤ v35.toInt ∧ v38.toInt ≤ v30.toInt ∧ (v38.toInt = v35.toInt ∨ v38.toInt = v30.toInt)) := h39
      have q43 := h39.1.symm
      subst q43
      have q44 := h39.2
      refine And.intro (Nat.le_of_ble_eq_true rfl) (And.intro ⟨(Int32.ofInt 0), v38, rfl, trivial⟩ ?_)
      intro v45 s47 h46
      have h46 : s47 = s0 ∧ ((Int32.ofInt 0).toInt ≤ v45.toInt ∧ v38.toInt ≤ v45.toInt ∧ (v45.toInt = (Int32.ofInt 0).toInt ∨ v45.toInt = v38.toInt)) := h46
      have q50 := h46.1.symm
      subst q50
      have q51 := h46.2
      show s0 = s0 ∧ (True)
      exact ⟨rfl, (trivial)⟩
  ·
    have z0 : (Int32.ofInt 0).toInt = 0 := by decide
    have z1 : (Int32.ofInt 1).toInt = 1 := by decide
    have z2 : (Int32.ofInt 2).toInt = 2 := by decide
    refine ⟨Nat.le_of_ble_eq_true rfl, [], ?_, fun _ h => absurd h List.not_mem_nil⟩
    ·
      intro v1 e2
      have g3 : s0.1 23 2 = v1 := by rw [e2]
      have b4 : (1 : Int) ≤ v1.toInt ∧ v1.toInt ≤ 5000 := by rw [e2]; exact Iv_23_2 i0
      intro v5 e6
      have g7 : s0.1 23 3 = v5 := by rw [e6]
      have b8 : (2 : Int) ≤ v5.toInt ∧ v5.toInt ≤ 17 := by rw [e6]; exact Iv_23_3 i0
      intro v9 e10
      have b11 := vg_sub e10 (by omega) (by omega)
      intro v12 e13
      intro v14 e15
      intro v16 e17
      intro v18 e19
      have w20 : v1 = v18 := by rw [e19, g3]
      subst w20
      intro v21 e22
      have b23 : v21.toInt = (2) * v1.toInt := vg_mulL e22 (by omega) (by omega) (by omega)
      refine And.intro (Nat.le_of_ble_eq_true rfl) (And.intro ⟨v16, v21, rfl, by omega⟩ ?_)
      intro v24 s26 h25
      have h25 : s26 = s0 ∧ (True) := h25
      have q29 := h25.1.symm
      subst q29
      intro v30 e31
      intro v32 e33
      have w34 : v5 = v32 := by rw [e33, g7]
      subst w34
      intro v35 e36
      have b37 := vg_sub e36 (by omega) (by omega)
      refine And.intro (Nat.le_of_ble_eq_true rfl) (And.intro ⟨v35, v30, rfl, trivial⟩ ?_)
      intro v38 s40 h39
      have h39 : s40 = s0 ∧ (v38.toInt ≤ v35.toInt ∧ v38.toInt ≤ v30.toInt ∧ (v38.toInt = v35.toInt ∨ v38.toInt = v30.toInt)) := h39
      have q43 := h39.1.symm
      subst q43
      have q44 := h39.2
      refine And.intro (Nat.le_of_ble_eq_true rfl) (And.intro ⟨(Int32.ofInt 0), v38, rfl, trivial⟩ ?_)
      intro v45 s47 h46
      have h46 : s47 = s0 ∧ ((Int32.ofInt 0).toInt ≤ v45.toInt ∧ v38.toInt ≤ v45.toInt ∧ (v45.toInt = (Int32.ofInt 0).toInt ∨ v45.toInt = v38.toInt)) := h46
      have q50 := h46.1.symm
      subst q50
      have q51 := h46.2
      show s0 = s0 ∧ (True)
      exact ⟨rfl, (trivial)⟩
def o_X6_elementsOf : List vg_I := [(0, .iload_n 0, 1, 0, 0, 0, 0), (1, .iconst 2, 1, 0, 0, 0, 0), (2, .if_icmp .ne 15, 3, 0, 0, 0, 0), (5, .iload_n 2, 1, 0, 0, 0, 0), (6, .iconst 1, 1, 0, 0, 0, 0), (7, .isub, 1, 0, 0, 0, 0), (8, .iconst 1, 1, 0, 0, 0, 0), (9, .iload_n 1, 1, 0, 0, 0, 0), (10, .ishl, 1, 0, 0, 0, 0), (11, .iconst 1, 1, 0, 0, 0, 0), (12, .isub, 1, 0, 0, 0, 0), (13, .imul, 1, 0, 0, 0, 0), (14, .goto 6, 3, 0, 0, 0, 0), (17, .iload_n 2, 1, 0, 0, 0, 0), (18, .iconst 1, 1, 0, 0, 0, 0), (19, .isub, 1, 0, 0, 0, 0), (20, .ireturn, 1, 0, 0, 0, 0)]
set_option maxRecDepth 100000 in
set_option maxHeartbeats 4000000 in
theorem c_X6_elementsOf (l : Launch) (G : vg_G) (hp : vg_Hp G) : vg_Ct l G vg_sh r_X6_elementsOf := by
  refine vg_meth hp vg_sh_ok r_X6_elementsOf k_X6_elementsOf rfl (fun h => by cases h) o_X6_elementsOf [] false (by decide +kernel) (by decide +kernel) ⟨_, _, rfl, rfl⟩ (fun _ h => absurd h List.not_mem_nil) (fun h => by cases h) 600 ?_
  intro as s0 hpre
  obtain ⟨a1, a2, a3, rfl, p0⟩ := hpre
  have z1 : (Int32.ofInt 1).toInt = 1 := by decide
  have z2 : (Int32.ofInt 2).toInt = 2 := by decide
  refine ⟨Nat.le_of_ble_eq_true rfl, [], ?_, fun _ h => absurd h List.not_mem_nil⟩
  ·
    refine And.intro (fun c1 => ?_) (fun c1 => ?_)
    · have c1 : ¬ a1.toInt = (Int32.ofInt 2).toInt := c1
      intro v2 e3
      have b4 := vg_sub e3 (by omega) (by omega)
      show s0 = s0 ∧ (v2.toInt = (vg_eo a1 a2 a3).toInt ∧ 1 ≤ v2.toInt ∧ v2.toInt ≤ 240)
      exact ⟨rfl, (by refine ⟨?_, by omega, by omega⟩; simp only [vg_eo]; (first | rw [if_pos (by omega)] | rw [if_neg (by omega)]); subst_vars; rfl)⟩
    · have c1 : ¬ (¬ a1.toInt = (Int32.ofInt 2).toInt) := c1
      intro v5 e6
      have b7 := vg_sub e6 (by omega) (by omega)
      intro v8 e9
      have b10 := vg_shl1 e9 (by omega) (by omega) (by omega)
      intro v11 e12
      have b13 := vg_sub e12 (by omega) (by omega)
      intro v14 e15
      have b16 := (vg_mulr e15 (by omega) (by omega) (by omega) (by omega)).2
      show s0 = s0 ∧ (v14.toInt = (vg_eo a1 a2 a3).toInt ∧ 1 ≤ v14.toInt ∧ v14.toInt ≤ 240)
      exact ⟨rfl, (by refine ⟨?_, by omega, by omega⟩; simp only [vg_eo]; (first | rw [if_pos (by omega)] | rw [if_neg (by omega)]); subst_vars; rfl)⟩
def o_X5_begin : List vg_I := [(0, .aload_n 0, 1, 0, 0, 0, 0), (1, .getfield 16, 3, 180, 5, 1, 0), (4, .iconst 0, 1, 0, 0, 0, 0), (5, .invokestatic 23, 3, 0, 1, 2, 500), (8, .aload_n 0, 1, 0, 0, 0, 0), (9, .getfield 20, 3, 182, 5, 2, 0), (12, .iconst 0, 1, 0, 0, 0, 0), (13, .invokestatic 23, 3, 0, 1, 2, 500), (16, .aload_n 0, 1, 0, 0, 0, 0), (17, .iconst 0, 1, 0, 0, 0, 0), (18, .putfield 29, 3, 183, 5, 3, 0), (21, .aload_n 0, 1, 0, 0, 0, 0), (22, .aload_n 0, 1, 0, 0, 0, 0), (23, .getfield 12, 3, 178, 5, 0, 0), (26, .getfield 33, 3, 158, 6, 7, 0), (29, .putfield 36, 3, 185, 5, 4, 0), (32, .aload_n 0, 1, 0, 0, 0, 0), (33, .iconst 0, 1, 0, 0, 0, 0), (34, .putfield 39, 3, 187, 5, 5, 0), (37, .aload_n 0, 1, 0, 0, 0, 0), (38, .iconst 0, 1, 0, 0, 0, 0), (39, .putfield 42, 3, 189, 5, 6, 0), (42, .aload_n 0, 1, 0, 0, 0, 0), (43, .iconst 0, 1, 0, 0, 0, 0), (44, .putfield 45, 3, 192, 5, 8, 0), (47, .aload_n 0, 1, 0, 0, 0, 0), (48, .lconst 0, 1, 0, 0, 0, 0), (49, .putfield 48, 3, 194, 5, 9, 2), (52, .aload_n 0, 1, 0, 0, 0, 0), (53, .lconst 0, 1, 0, 0, 0, 0), (54, .putfield 52, 3, 196, 5, 10, 2), (57, .aload_n 0, 1, 0, 0, 0, 0), (58, .lconst 0, 1, 0, 0, 0, 0), (59, .putfield 55, 3, 198, 5, 11, 2), (62, .aload_n 0, 1, 0, 0, 0, 0), (63, .lconst 0, 1, 0, 0, 0, 0), (64, .putfield 58, 3, 200, 5, 12, 2), (67, .aload_n 0, 1, 0, 0, 0, 0), (68, .lconst 0, 1, 0, 0, 0, 0), (69, .putfield 61, 3, 202, 5, 13, 2), (72, .return_, 1, 0, 0, 0, 0)]
set_option maxRecDepth 100000 in
set_option maxHeartbeats 4000000 in
theorem c_X5_begin (l : Launch) (G : vg_G) (hp : vg_Hp G) : vg_Ct l G vg_sh r_X5_begin := by
  refine vg_meth hp vg_sh_ok r_X5_begin k_X5_begin rfl (fun h => by cases h) o_X5_begin [r_J7_fill_53178] false (by decide +kernel) (by decide +kernel) ⟨_, _, rfl, rfl⟩ (List.forall_mem_cons.mpr ⟨⟨c_J7_fill_53178 l G hp, Nat.le_of_ble_eq_true rfl, Nat.le_of_ble_eq_true rfl⟩, fun _ h => absurd h List.not_mem_nil⟩) (fun h => by cases h) 600 ?_
  intro as s0 hpre
  obtain ⟨r, rfl, hr, i0⟩ := hpre
  simp only [List.mem_cons, List.not_mem_nil, or_false] at hr
  rcases hr with rfl | rfl
  ·
    have z0 : (Int32.ofInt 0).toInt = 0 := by decide
    refine ⟨Nat.le_of_ble_eq_true rfl, [], ?_, fun _ h => absurd h List.not_mem_nil⟩
    ·
      refine And.intro (Nat.le_of_ble_eq_true rfl) (And.intro ⟨5, (Int32.ofInt 0), rfl, by decide, i0⟩ ?_)
      intro s2 h1
      have h1 : Iv s2 ∧ Kp s0 s2 ∧ vk s2 = ((vk s0).1, (vk s0).2) ∧ (True) := h1
      have i3 := h1.1
      have k4 : Kp s0 s2 := Kx.tr Kx.rf (h1.2.1)
      have u5 : vk s2 = ((vk s0).1, (vk s0).2) := h1.2.2.1.trans rfl
      refine And.intro (Nat.le_of_ble_eq_true rfl) (And.intro ⟨6, (Int32.ofInt 0), rfl, by decide, i3⟩ ?_)
      intro s7 h6
      have h6 : Iv s7 ∧ Kp s2 s7 ∧ vk s7 = ((vk s2).1, (vk s2).2) ∧ (True) := h6
      have i8 := h6.1
      have k9 : Kp s0 s7 := Kx.tr k4 (h6.2.1)
      have u10 : vk s7 = ((vk s0).1, (vk s0).2) := h6.2.2.1.trans u5
      intro s11 e12
      have i13 : Iv s11 := Iv.u1 i8 e12 rfl
      have k14 : Kp s0 s11 := Kx.u1 k9 e12 rfl
      have u15 : vk s11 = ((vk s0).1, (vk s0).2) := vk_k1 u10 e12 rfl
      intro v16 e17
      have g18 : s7.1 4 7 = v16 := by rw [e17, e12, vg_u1_ne (a := 4) (k := 3) (by decide)]
      intro s19 e20
      have i21 : Iv s19 := Iv.u1 i13 e20 rfl
      have k22 : Kp s0 s19 := Kx.u1 k14 e20 rfl
      have u23 : vk s19 = ((vk s0).1, (vk s0).2) := vk_k1 u15 e20 rfl
      intro s24 e25
      have i26 : Iv s24 := Iv.u1 i21 e25 rfl
      have k27 : Kp s0 s24 := Kx.u1 k22 e25 rfl
      have u28 : vk s24 = ((vk s0).1, (vk s0).2) := vk_k1 u23 e25 rfl
      intro s29 e30
      have i31 : Iv s29 := Iv.u1 i26 e30 rfl
      have k32 : Kp s0 s29 := Kx.u1 k27 e30 rfl
      have u33 : vk s29 = ((vk s0).1, (vk s0).2) := vk_k1 u28 e30 rfl
      intro s34 e35
      have i36 : Iv s34 := Iv.u1 i31 e35 rfl
      have k37 : Kp s0 s34 := Kx.u1 k32 e35 rfl
      have u38 : vk s34 = ((vk s0).1, (vk s0).2) := vk_k1 u33 e35 rfl
      intro s39 e40
      have i41 : Iv s39 := Iv.u2 i36 e40
      have k42 : Kp s0 s39 := Kx.u2 k37 e40 (vg_kq_no ⟨rfl, rfl, rfl⟩).1
      have u43 : vk s39 = ((vk s0).1, (vk s0).2) := vk_k2 u38 e40 rfl
      intro s44 e45
      have i46 : Iv s44 := Iv.u2 i41 e45
      have k47 : Kp s0 s44 := Kx.u2 k42 e45 (vg_kq_no ⟨rfl, rfl, rfl⟩).1
      have u48 : vk s44 = ((vk s0).1, (vk s0).2) := vk_k2 u43 e45 rfl
      intro s49 e50
      have i51 : Iv s49 := Iv.u2 i46 e50
      have k52 : Kp s0 s49 := Kx.u2 k47 e50 (vg_kq_no ⟨rfl, rfl, rfl⟩).1
      have u53 : vk s49 = ((vk s0).1, (vk s0).2) := vk_k2 u48 e50 rfl
      intro s54 e55
      have i56 : Iv s54 := Iv.u2 i51 e55
      have k57 : Kp s0 s54 := Kx.u2 k52 e55 (vg_kq_no ⟨rfl, rfl, rfl⟩).1
      have u58 : vk s54 = ((vk s0).1, (vk s0).2) := vk_k2 u53 e55 rfl
      intro s59 e60
      have i61 : Iv s59 := Iv.u2 i56 e60
      have k62 : Kp s0 s59 := Kx.u2 k57 e60 (vg_kq_no ⟨rfl, rfl, rfl⟩).1
      have u63 : vk s59 = ((vk s0).1, (vk s0).2) := vk_k2 u58 e60 rfl
      show Iv s59 ∧ Kp s0 s59 ∧ vk s59 = ((vk s0).1, (vk s0).2) ∧ (True)
      exact ⟨i61, k62, u63, (trivial)⟩
  ·
    have z0 : (Int32.ofInt 0).toInt = 0 := by decide
    refine ⟨Nat.le_of_ble_eq_true rfl, [], ?_, fun _ h => absurd h List.not_mem_nil⟩
    ·
      refine And.intro (Nat.le_of_ble_eq_true rfl) (And.intro ⟨24, (Int32.ofInt 0), rfl, by decide, i0⟩ ?_)
      intro s2 h1
      have h1 : Iv s2 ∧ Kp s0 s2 ∧ vk s2 = ((vk s0).1, (vk s0).2) ∧ (True) := h1
      have i3 := h1.1
      have k4 : Kp s0 s2 := Kx.tr Kx.rf (h1.2.1)
      have u5 : vk s2 = ((vk s0).1, (vk s0).2) := h1.2.2.1.trans rfl
      refine And.intro (Nat.le_of_ble_eq_true rfl) (And.intro ⟨25, (Int32.ofInt 0), rfl, by decide, i3⟩ ?_)
      intro s7 h6
      have h6 : Iv s7 ∧ Kp s2 s7 ∧ vk s7 = ((vk s2).1, (vk s2).2) ∧ (True) := h6
      have i8 := h6.1
      have k9 : Kp s0 s7 := Kx.tr k4 (h6.2.1)
      have u10 : vk s7 = ((vk s0).1, (vk s0).2) := h6.2.2.1.trans u5
      intro s11 e12
      have i13 : Iv s11 := Iv.u1 i8 e12 rfl
      have k14 : Kp s0 s11 := Kx.u1 k9 e12 rfl
      have u15 : vk s11 = ((vk s0).1, (vk s0).2) := vk_k1 u10 e12 rfl
      intro v16 e17
      have g18 : s7.1 23 7 = v16 := by rw [e17, e12, vg_u1_ne (a := 23) (k := 22) (by decide)]
      intro s19 e20
      have i21 : Iv s19 := Iv.u1 i13 e20 rfl
      have k22 : Kp s0 s19 := Kx.u1 k14 e20 rfl
      have u23 : vk s19 = ((vk s0).1, (vk s0).2) := vk_k1 u15 e20 rfl
      intro s24 e25
      have i26 : Iv s24 := Iv.u1 i21 e25 rfl
      have k27 : Kp s0 s24 := Kx.u1 k22 e25 rfl
      have u28 : vk s24 = ((vk s0).1, (vk s0).2) := vk_k1 u23 e25 rfl
      intro s29 e30
      have i31 : Iv s29 := Iv.u1 i26 e30 rfl
      have k32 : Kp s0 s29 := Kx.u1 k27 e30 rfl
      have u33 : vk s29 = ((vk s0).1, (vk s0).2) := vk_k1 u28 e30 rfl
      intro s34 e35
      have i36 : Iv s34 := Iv.u1 i31 e35 rfl
      have k37 : Kp s0 s34 := Kx.u1 k32 e35 rfl
      have u38 : vk s34 = ((vk s0).1, (vk s0).2) := vk_k1 u33 e35 rfl
      intro s39 e40
      have i41 : Iv s39 := Iv.u2 i36 e40
      have k42 : Kp s0 s39 := Kx.u2 k37 e40 (vg_kq_no ⟨rfl, rfl, rfl⟩).1
      have u43 : vk s39 = ((vk s0).1, (vk s0).2) := vk_k2 u38 e40 rfl
      intro s44 e45
      have i46 : Iv s44 := Iv.u2 i41 e45
      have k47 : Kp s0 s44 := Kx.u2 k42 e45 (vg_kq_no ⟨rfl, rfl, rfl⟩).1
      have u48 : vk s44 = ((vk s0).1, (vk s0).2) := vk_k2 u43 e45 rfl
      intro s49 e50
      have i51 : Iv s49 := Iv.u2 i46 e50
      have k52 : Kp s0 s49 := Kx.u2 k47 e50 (vg_kq_no ⟨rfl, rfl, rfl⟩).1
      have u53 : vk s49 = ((vk s0).1, (vk s0).2) := vk_k2 u48 e50 rfl
      intro s54 e55
      have i56 : Iv s54 := Iv.u2 i51 e55
      have k57 : Kp s0 s54 := Kx.u2 k52 e55 (vg_kq_no ⟨rfl, rfl, rfl⟩).1
      have u58 : vk s54 = ((vk s0).1, (vk s0).2) := vk_k2 u53 e55 rfl
      intro s59 e60
      have i61 : Iv s59 := Iv.u2 i56 e60
      have k62 : Kp s0 s59 := Kx.u2 k57 e60 (vg_kq_no ⟨rfl, rfl, rfl⟩).1
      have u63 : vk s59 = ((vk s0).1, (vk s0).2) := vk_k2 u58 e60 rfl
      show Iv s59 ∧ Kp s0 s59 ∧ vk s59 = ((vk s0).1, (vk s0).2) ∧ (True)
      exact ⟨i61, k62, u63, (trivial)⟩
def o_X5_beginTone : List vg_I := [(0, .aload_n 0, 1, 0, 0, 0, 0), (1, .getfield 12, 3, 178, 5, 0, 0), (4, .aload_n 1, 1, 0, 0, 0, 0), (5, .invokevirtual 64, 3, 0, 6, 1, 956), (8, .aload_n 0, 1, 0, 0, 0, 0), (9, .getfield 12, 3, 178, 5, 0, 0), (12, .iconst 0, 1, 0, 0, 0, 0), (13, .putfield 68, 3, 156, 6, 6, 0), (16, .aload_n 0, 1, 0, 0, 0, 0), (17, .invokevirtual 71, 3, 1, 5, 0, 960), (20, .return_, 1, 0, 0, 0, 0)]
set_option maxRecDepth 100000 in
set_option maxHeartbeats 4000000 in
theorem c_X5_beginTone (l : Launch) (G : vg_G) (hp : vg_Hp G) : vg_Ct l G vg_sh r_X5_beginTone := by
  refine vg_meth hp vg_sh_ok r_X5_beginTone k_X5_beginTone rfl (fun h => by cases h) o_X5_beginTone [r_X6_copyFrom, r_X5_begin] false (by decide +kernel) (by decide +kernel) ⟨_, _, rfl, rfl⟩ (List.forall_mem_cons.mpr ⟨⟨c_X6_copyFrom l G hp, Nat.le_of_ble_eq_true rfl, Nat.le_of_ble_eq_true rfl⟩, List.forall_mem_cons.mpr ⟨⟨c_X5_begin l G hp, Nat.le_of_ble_eq_true rfl, Nat.le_of_ble_eq_true rfl⟩, fun _ h => absurd h List.not_mem_nil⟩⟩) (fun h => by cases h) 600 ?_
  intro as s0 hpre
  obtain ⟨r, a1, rfl, hr, ha1, i0⟩ := hpre
  simp only [List.mem_cons, List.not_mem_nil, or_false] at hr
  rcases hr with rfl
  ·
    simp only [List.mem_cons, List.not_mem_nil, or_false] at ha1
    rcases ha1 with rfl
    ·
      have z0 : (Int32.ofInt 0).toInt = 0 := by decide
      refine ⟨Nat.le_of_ble_eq_true rfl, [], ?_, fun _ h => absurd h List.not_mem_nil⟩
      ·
        refine And.intro (Nat.le_of_ble_eq_true rfl) (And.intro ⟨23, 4, rfl, by decide, by decide, i0⟩ ?_)
        intro s2 h1
        have h1 : Iv s2 ∧ Kp s0 s2 ∧ vk s2 = ((vk s0).1, (vk s0).2) ∧ (True) := h1
        have i3 := h1.1
        have k4 : Kp s0 s2 := Kx.tr Kx.rf (h1.2.1)
        have u5 : vk s2 = ((vk s0).1, (vk s0).2) := h1.2.2.1.trans rfl
        intro s6 e7
        have i8 : Iv s6 := Iv.c1 (lo := 0) (hi := 5000) i3 e7 rfl (by omega) (by omega)
        have k9 : Kp s0 s6 := Kx.u1 k4 e7 rfl
        have u10 : vk s6 = ((vk s0).1, (vk s0).2) := vk_k1 u5 e7 rfl
        refine And.intro (Nat.le_of_ble_eq_true rfl) (And.intro ⟨22, rfl, by decide, i8⟩ ?_)
        intro s12 h11
        have h11 : Iv s12 ∧ Kp s6 s12 ∧ vk s12 = ((vk s6).1, (vk s6).2) ∧ (True) := h11
        have i13 := h11.1
        have k14 : Kp s0 s12 := Kx.tr k9 (h11.2.1)
        have u15 : vk s12 = ((vk s0).1, (vk s0).2) := h11.2.2.1.trans u10
        show Iv s12 ∧ Kp s0 s12 ∧ vk s12 = ((vk s0).1, (vk s0).2) ∧ (True)
        exact ⟨i13, k14, u15, (trivial)⟩
def o_X5_copyFrom : List vg_I := [(0, .aload_n 0, 1, 0, 0, 0, 0), (1, .getfield 12, 3, 178, 5, 0, 0), (4, .aload_n 1, 1, 0, 0, 0, 0), (5, .getfield 12, 3, 178, 5, 0, 0), (8, .invokevirtual 64, 3, 0, 6, 1, 956), (11, .aload_n 0, 1, 0, 0, 0, 0), (12, .invokevirtual 71, 3, 1, 5, 0, 960), (15, .aload_n 1, 1, 0, 0, 0, 0), (16, .getfield 16, 3, 180, 5, 1, 0), (19, .iconst 0, 1, 0, 0, 0, 0), (20, .aload_n 0, 1, 0, 0, 0, 0), (21, .getfield 16, 3, 180, 5, 1, 0), (24, .iconst 0, 1, 0, 0, 0, 0), (25, .iconst 4, 1, 0, 0, 0, 0), (26, .invokestatic 74, 3, 0, 3, 0, 966), (29, .aload_n 1, 1, 0, 0, 0, 0), (30, .getfield 20, 3, 182, 5, 2, 0), (33, .iconst 0, 1, 0, 0, 0, 0), (34, .aload_n 0, 1, 0, 0, 0, 0), (35, .getfield 20, 3, 182, 5, 2, 0), (38, .iconst 0, 1, 0, 0, 0, 0), (39, .bipush 6, 2, 0, 0, 0, 0), (41, .invokestatic 74, 3, 0, 3, 0, 966), (44, .aload_n 0, 1, 0, 0, 0, 0), (45, .aload_n 1, 1, 0, 0, 0, 0), (46, .getfield 29, 3, 183, 5, 3, 0), (49, .putfield 29, 3, 183, 5, 3, 0), (52, .aload_n 0, 1, 0, 0, 0, 0), (53, .aload_n 1, 1, 0, 0, 0, 0), (54, .getfield 36, 3, 185, 5, 4, 0), (57, .putfield 36, 3, 185, 5, 4, 0), (60, .return_, 1, 0, 0, 0, 0)]
set_option maxRecDepth 100000 in
set_option maxHeartbeats 4000000 in
theorem c_X5_copyFrom (l : Launch) (G : vg_G) (hp : vg_Hp G) : vg_Ct l G vg_sh r_X5_copyFrom := by
  refine vg_meth hp vg_sh_ok r_X5_copyFrom k_X5_copyFrom rfl (fun h => by cases h) o_X5_copyFrom [r_X6_copyFrom, r_X5_begin] true (by decide +kernel) (by decide +kernel) ⟨_, _, rfl, rfl⟩ (List.forall_mem_cons.mpr ⟨⟨c_X6_copyFrom l G hp, Nat.le_of_ble_eq_true rfl, Nat.le_of_ble_eq_true rfl⟩, List.forall_mem_cons.mpr ⟨⟨c_X5_begin l G hp, Nat.le_of_ble_eq_true rfl, Nat.le_of_ble_eq_true rfl⟩, fun _ h => absurd h List.not_mem_nil⟩⟩) (fun _ => ⟨⟨Nat.le_of_ble_eq_true rfl, Nat.le_of_ble_eq_true rfl⟩, vg_cpw_in⟩) 600 ?_
  intro as s0 hpre
  obtain ⟨r, a1, rfl, hr, ha1, i0⟩ := hpre
  simp only [List.mem_cons, List.not_mem_nil, or_false] at hr
  rcases hr with rfl
  ·
    simp only [List.mem_cons, List.not_mem_nil, or_false] at ha1
    rcases ha1 with rfl
    ·
      have z0 : (Int32.ofInt 0).toInt = 0 := by decide
      have z4 : (Int32.ofInt 4).toInt = 4 := by decide
      have z6 : (Int32.ofInt 6).toInt = 6 := by decide
      refine ⟨Nat.le_of_ble_eq_true rfl, [], ?_, fun _ h => absurd h List.not_mem_nil⟩
      ·
        refine And.intro (Nat.le_of_ble_eq_true rfl) (And.intro ⟨23, 4, rfl, by decide, by decide, i0⟩ ?_)
        intro s2 h1
        have h1 : Iv s2 ∧ Kp s0 s2 ∧ vk s2 = ((vk s0).1, (vk s0).2) ∧ (True) := h1
        have i3 := h1.1
        have k4 : Kp s0 s2 := Kx.tr Kx.rf (h1.2.1)
        have u5 : vk s2 = ((vk s0).1, (vk s0).2) := h1.2.2.1.trans rfl
        refine And.intro (Nat.le_of_ble_eq_true rfl) (And.intro ⟨22, rfl, by decide, i3⟩ ?_)
        intro s7 h6
        have h6 : Iv s7 ∧ Kp s2 s7 ∧ vk s7 = ((vk s2).1, (vk s2).2) ∧ (True) := h6
        have i8 := h6.1
        have k9 : Kp s0 s7 := Kx.tr k4 (h6.2.1)
        have u10 : vk s7 = ((vk s0).1, (vk s0).2) := h6.2.2.1.trans u5
        refine And.intro (Nat.le_of_ble_eq_true rfl) (And.intro (by omega) (And.intro (by omega) (And.intro (by omega) (And.intro (by omega) (And.intro (by omega) ?_)))))
        intro s11 e12
        have i13 : Iv s11 := Iv.w1 i8 e12 rfl
        have k14 : Kp s0 s11 := Kx.w1 k9 e12 (fun _ => rfl)
        have u15 : vk s11 = ((vk s0).1, (vk s0).2) := vk_kw u10 e12 (fun _ => rfl)
        refine And.intro (Nat.le_of_ble_eq_true rfl) (And.intro (by omega) (And.intro (by omega) (And.intro (by omega) (And.intro (by omega) (And.intro (by omega) ?_)))))
        intro s16 e17
        have i18 : Iv s16 := Iv.w1 i13 e17 rfl
        have k19 : Kp s0 s16 := Kx.w1 k14 e17 (fun _ => rfl)
        have u20 : vk s16 = ((vk s0).1, (vk s0).2) := vk_kw u15 e17 (fun _ => rfl)
        intro v21 e22
        have g23 : s7.1 3 3 = v21 := by rw [e22, e17, vg_w1_at (a := 3) (k := 25) (by decide), e12, vg_w1_at (a := 3) (k := 24) (by decide)]
        intro s24 e25
        have i26 : Iv s24 := Iv.u1 i18 e25 rfl
        have k27 : Kp s0 s24 := Kx.u1 k19 e25 rfl
        have u28 : vk s24 = ((vk s0).1, (vk s0).2) := vk_k1 u20 e25 rfl
        intro v29 e30
        have g31 : s7.1 3 4 = v29 := by rw [e30, e25, vg_u1_ne (a := 3) (k := 22) (by decide), e17, vg_w1_at (a := 3) (k := 25) (by decide), e12, vg_w1_at (a := 3) (k := 24) (by decide)]
        intro s32 e33
        have i34 : Iv s32 := Iv.u1 i26 e33 rfl
        have k35 : Kp s0 s32 := Kx.u1 k27 e33 rfl
        have u36 : vk s32 = ((vk s0).1, (vk s0).2) := vk_k1 u28 e33 rfl
        show Iv s32 ∧ Kp s0 s32 ∧ vk s32 = ((vk s0).1, (vk s0).2) ∧ (True)
        exact ⟨i34, k35, u36, (trivial)⟩
def o_X5_gapNow : List vg_I := [(0, .aload_n 0, 1, 0, 0, 0, 0), (1, .getfield 52, 3, 196, 5, 10, 0), (4, .aload_n 0, 1, 0, 0, 0, 0), (5, .getfield 48, 3, 194, 5, 9, 0), (8, .lsub, 1, 0, 0, 0, 0), (9, .lreturn, 1, 0, 0, 0, 0)]
set_option maxRecDepth 100000 in
set_option maxHeartbeats 4000000 in
theorem c_X5_gapNow (l : Launch) (G : vg_G) (hp : vg_Hp G) : vg_Ct l G vg_sh r_X5_gapNow := by
  refine vg_meth hp vg_sh_ok r_X5_gapNow k_X5_gapNow rfl (fun h => by cases h) o_X5_gapNow [] false (by decide +kernel) (by decide +kernel) ⟨_, _, rfl, rfl⟩ (fun _ h => absurd h List.not_mem_nil) (fun h => by cases h) 600 ?_
  intro as s0 hpre
  obtain ⟨r, rfl, hr, i0⟩ := hpre
  simp only [List.mem_cons, List.not_mem_nil, or_false] at hr
  rcases hr with rfl | rfl
  ·
    refine ⟨Nat.le_of_ble_eq_true rfl, [], ?_, fun _ h => absurd h List.not_mem_nil⟩
    ·
      intro v1 e2
      intro v3 e4
      intro v5 e6
      show s0 = s0 ∧ (True)
      exact ⟨rfl, (trivial)⟩
  ·
    refine ⟨Nat.le_of_ble_eq_true rfl, [], ?_, fun _ h => absurd h List.not_mem_nil⟩
    ·
      intro v1 e2
      intro v3 e4
      intro v5 e6
      show s0 = s0 ∧ (True)
      exact ⟨rfl, (trivial)⟩
def o_X5_drawDither : List vg_I := [(0, .aload_n 0, 1, 0, 0, 0, 0), (1, .getfield 12, 3, 178, 5, 0, 0), (4, .getfield 68, 3, 156, 6, 6, 0), (7, .ifCond .ne 5, 3, 0, 0, 0, 0), (10, .iconst 0, 1, 0, 0, 0, 0), (11, .ireturn, 1, 0, 0, 0, 0), (12, .aload_n 0, 1, 0, 0, 0, 0), (13, .aload_n 0, 1, 0, 0, 0, 0), (14, .getfield 36, 3, 185, 5, 4, 0), (17, .i2l, 1, 0, 0, 0, 0), (18, .ldc2_w 158, 3, 653, 0, 0, 1103515245), (21, .lmul, 1, 0, 0, 0, 0), (22, .ldc2_w 160, 3, 654, 0, 0, 12345), (25, .ladd, 1, 0, 0, 0, 0), (26, .ldc2_w 162, 3, 655, 0, 0, 2147483647), (29, .land, 1, 0, 0, 0, 0), (30, .l2i, 1, 0, 0, 0, 0), (31, .putfield 36, 3, 185, 5, 4, 0), (34, .aload_n 0, 1, 0, 0, 0, 0), (35, .getfield 36, 3, 185, 5, 4, 0), (38, .ldc 164, 2, 656, 0, 0, 65536), (40, .idiv, 1, 0, 0, 0, 0), (41, .iconst 2, 1, 0, 0, 0, 0), (42, .aload_n 0, 1, 0, 0, 0, 0), (43, .getfield 12, 3, 178, 5, 0, 0), (46, .getfield 68, 3, 156, 6, 6, 0), (49, .imul, 1, 0, 0, 0, 0), (50, .iconst 1, 1, 0, 0, 0, 0), (51, .iadd, 1, 0, 0, 0, 0), (52, .irem, 1, 0, 0, 0, 0), (53, .aload_n 0, 1, 0, 0, 0, 0), (54, .getfield 12, 3, 178, 5, 0, 0), (57, .getfield 68, 3, 156, 6, 6, 0), (60, .isub, 1, 0, 0, 0, 0), (61, .ireturn, 1, 0, 0, 0, 0)]
set_option maxRecDepth 100000 in
set_option maxHeartbeats 4000000 in
theorem c_X5_drawDither (l : Launch) (G : vg_G) (hp : vg_Hp G) : vg_Ct l G vg_sh r_X5_drawDither := by
  refine vg_meth hp vg_sh_ok r_X5_drawDither k_X5_drawDither rfl (fun h => by cases h) o_X5_drawDither [] false (by decide +kernel) (by decide +kernel) ⟨_, _, rfl, rfl⟩ (fun _ h => absurd h List.not_mem_nil) (fun h => by cases h) 600 ?_
  intro as s0 hpre
  obtain ⟨r, rfl, hr, i0⟩ := hpre
  simp only [List.mem_cons, List.not_mem_nil, or_false] at hr
  rcases hr with rfl | rfl
  ·
    have z0 : (Int32.ofInt 0).toInt = 0 := by decide
    have z1 : (Int32.ofInt 1).toInt = 1 := by decide
    have z2 : (Int32.ofInt 2).toInt = 2 := by decide
    have z65536 : (Int32.ofInt 65536).toInt = 65536 := by decide
    refine ⟨Nat.le_of_ble_eq_true rfl, [], ?_, fun _ h => absurd h List.not_mem_nil⟩
    ·
      intro v1 e2
      have g3 : s0.1 4 6 = v1 := by rw [e2]
      have b4 : (0 : Int) ≤ v1.toInt ∧ v1.toInt ≤ 5000 := by rw [e2]; exact Iv_4_6 i0
      refine And.intro (fun c5 => ?_) (fun c5 => ?_)
      · have c5 : ¬ v1.toInt = 0 := c5
        intro v6 e7
        have g8 : s0.1 3 4 = v6 := by rw [e7]
        intro v9 e10
        intro v11 e12
        intro v13 e14
        intro v15 e16
        intro v17 e18
        intro s19 e20
        have i21 : Iv s19 := Iv.u1 i0 e20 rfl
        have k22 : Kp s0 s19 := Kx.u1 Kx.rf e20 rfl
        have u23 : vk s19 = ((vk s0).1, (vk s0).2) := vk_k1 rfl e20 rfl
        intro v24 e25
        have w26 : v17 = v24 := by rw [e25, e20]; exact vg_u1_self.symm
        subst w26
        refine And.intro (by omega) ?_
        intro v27 e28
        intro v29 e30
        have w31 : v1 = v29 := by rw [e30, e20, vg_u1_ne (a := 4) (k := 3) (by decide), g3]
        subst w31
        intro v32 e33
        have b34 : v32.toInt = (2) * v1.toInt := vg_mulL e33 (by omega) (by omega) (by omega)
        intro v35 e36
        have b37 := vg_add e36 (by omega) (by omega)
        refine And.intro (by omega) ?_
        intro v38 e39
        have b40 := vg_remx e39 (by omega)
        intro v41 e42
        have w43 : v1 = v41 := by rw [e42, e20, vg_u1_ne (a := 4) (k := 3) (by decide), g3]
        subst w43
        intro v44 e45
        show Iv s19 ∧ Kp s0 s19 ∧ vk s19 = ((vk s0).1, (vk s0).2) ∧ (True)
        exact ⟨i21, k22, u23, (trivial)⟩
      · have c5 : ¬ (¬ v1.toInt = 0) := c5
        show Iv s0 ∧ Kp s0 s0 ∧ vk s0 = ((vk s0).1, (vk s0).2) ∧ (True)
        exact ⟨i0, Kx.rf, rfl, (trivial)⟩
  ·
    have z0 : (Int32.ofInt 0).toInt = 0 := by decide
    have z1 : (Int32.ofInt 1).toInt = 1 := by decide
    have z2 : (Int32.ofInt 2).toInt = 2 := by decide
    have z65536 : (Int32.ofInt 65536).toInt = 65536 := by decide
    refine ⟨Nat.le_of_ble_eq_true rfl, [], ?_, fun _ h => absurd h List.not_mem_nil⟩
    ·
      intro v1 e2
      have g3 : s0.1 23 6 = v1 := by rw [e2]
      have b4 : (0 : Int) ≤ v1.toInt ∧ v1.toInt ≤ 5000 := by rw [e2]; exact Iv_23_6 i0
      refine And.intro (fun c5 => ?_) (fun c5 => ?_)
      · have c5 : ¬ v1.toInt = 0 := c5
        intro v6 e7
        have g8 : s0.1 22 4 = v6 := by rw [e7]
        intro v9 e10
        intro v11 e12
        intro v13 e14
        intro v15 e16
        intro v17 e18
        intro s19 e20
        have i21 : Iv s19 := Iv.u1 i0 e20 rfl
        have k22 : Kp s0 s19 := Kx.u1 Kx.rf e20 rfl
        have u23 : vk s19 = ((vk s0).1, (vk s0).2) := vk_k1 rfl e20 rfl
        intro v24 e25
        have w26 : v17 = v24 := by rw [e25, e20]; exact vg_u1_self.symm
        subst w26
        refine And.intro (by omega) ?_
        intro v27 e28
        intro v29 e30
        have w31 : v1 = v29 := by rw [e30, e20, vg_u1_ne (a := 23) (k := 22) (by decide), g3]
        subst w31
        intro v32 e33
        have b34 : v32.toInt = (2) * v1.toInt := vg_mulL e33 (by omega) (by omega) (by omega)
        intro v35 e36
        have b37 := vg_add e36 (by omega) (by omega)
        refine And.intro (by omega) ?_
        intro v38 e39
        have b40 := vg_remx e39 (by omega)
        intro v41 e42
        have w43 : v1 = v41 := by rw [e42, e20, vg_u1_ne (a := 23) (k := 22) (by decide), g3]
        subst w43
        intro v44 e45
        show Iv s19 ∧ Kp s0 s19 ∧ vk s19 = ((vk s0).1, (vk s0).2) ∧ (True)
        exact ⟨i21, k22, u23, (trivial)⟩
      · have c5 : ¬ (¬ v1.toInt = 0) := c5
        show Iv s0 ∧ Kp s0 s0 ∧ vk s0 = ((vk s0).1, (vk s0).2) ∧ (True)
        exact ⟨i0, Kx.rf, rfl, (trivial)⟩
def o_X5_hold : List vg_I := [(0, .iload_n 1, 1, 0, 0, 0, 0), (1, .aload_n 0, 1, 0, 0, 0, 0), (2, .getfield 12, 3, 178, 5, 0, 0), (5, .getfield 146, 3, 151, 6, 4, 0), (8, .invokestatic 149, 3, 0, 2, 2, 2), (11, .istore_n 2, 1, 0, 0, 0, 0), (12, .iload_n 2, 1, 0, 0, 0, 0), (13, .iload_n 1, 1, 0, 0, 0, 0), (14, .if_icmp .eq 31, 3, 0, 0, 0, 0), (17, .aload_n 0, 1, 0, 0, 0, 0), (18, .iconst 1, 1, 0, 0, 0, 0), (19, .putfield 80, 3, 191, 5, 7, 1), (22, .aload_n 0, 1, 0, 0, 0, 0), (23, .dup, 1, 0, 0, 0, 0), (24, .getfield 39, 3, 187, 5, 5, 0), (27, .iconst 1, 1, 0, 0, 0, 0), (28, .iadd, 1, 0, 0, 0, 0), (29, .putfield 39, 3, 187, 5, 5, 0), (32, .aload_n 0, 1, 0, 0, 0, 0), (33, .dup, 1, 0, 0, 0, 0), (34, .getfield 58, 3, 200, 5, 12, 0), (37, .iload_n 1, 1, 0, 0, 0, 0), (38, .iload_n 2, 1, 0, 0, 0, 0), (39, .isub, 1, 0, 0, 0, 0), (40, .i2l, 1, 0, 0, 0, 0), (41, .ladd, 1, 0, 0, 0, 0), (42, .putfield 58, 3, 200, 5, 12, 2), (45, .aload_n 0, 1, 0, 0, 0, 0), (46, .aload_n 0, 1, 0, 0, 0, 0), (47, .getfield 45, 3, 192, 5, 8, 0), (50, .iload_n 2, 1, 0, 0, 0, 0), (51, .invokestatic 154, 3, 1, 1, 1, 666), (54, .invokestatic 156, 3, 2, 1, 2, 669), (57, .putfield 45, 3, 192, 5, 8, 0), (60, .iload_n 2, 1, 0, 0, 0, 0), (61, .ireturn, 1, 0, 0, 0, 0)]
set_option maxRecDepth 100000 in
set_option maxHeartbeats 4000000 in
theorem c_X5_hold (l : Launch) (G : vg_G) (hp : vg_Hp G) : vg_Ct l G vg_sh r_X5_hold := by
  refine vg_meth hp vg_sh_ok r_X5_hold k_X5_hold rfl (fun h => by cases h) o_X5_hold [r_X10_putTo, r_J9_abs_0f7a4, r_J9_max_7cf53] false (by decide +kernel) (by decide +kernel) ⟨_, _, rfl, rfl⟩ (List.forall_mem_cons.mpr ⟨⟨c_X10_putTo l G hp, Nat.le_of_ble_eq_true rfl, Nat.le_of_ble_eq_true rfl⟩, List.forall_mem_cons.mpr ⟨⟨c_J9_abs_0f7a4 l G hp, Nat.le_of_ble_eq_true rfl, Nat.le_of_ble_eq_true rfl⟩, List.forall_mem_cons.mpr ⟨⟨c_J9_max_7cf53 l G hp, Nat.le_of_ble_eq_true rfl, Nat.le_of_ble_eq_true rfl⟩, fun _ h => absurd h List.not_mem_nil⟩⟩⟩) (fun h => by cases h) 600 ?_
  intro as s0 hpre
  obtain ⟨r, a1, rfl, hr, i0⟩ := hpre
  simp only [List.mem_cons, List.not_mem_nil, or_false] at hr
  rcases hr with rfl | rfl
  ·
    have z1 : (Int32.ofInt 1).toInt = 1 := by decide
    refine ⟨Nat.le_of_ble_eq_true rfl, [], ?_, fun _ h => absurd h List.not_mem_nil⟩
    ·
      intro v1 e2
      have g3 : s0.1 4 4 = v1 := by rw [e2]
      have b4 : (1 : Int) ≤ v1.toInt ∧ v1.toInt ≤ 60000 := by rw [e2]; exact Iv_4_4 i0
      refine And.intro (Nat.le_of_ble_eq_true rfl) (And.intro ⟨a1, v1, rfl, trivial⟩ ?_)
      intro v5 s7 h6
      have h6 : s7 = s0 ∧ (True) := h6
      have q10 := h6.1.symm
      subst q10
      refine And.intro (fun c11 => ?_) (fun c11 => ?_)
      · have c11 : v5.toInt = a1.toInt := c11
        intro v12 e13
        have g14 : s0.1 3 8 = v12 := by rw [e13]
        refine And.intro (Nat.le_of_ble_eq_true rfl) (And.intro ⟨v5, rfl, trivial⟩ ?_)
        intro v15 s17 h16
        have h16 : s17 = s0 ∧ (True) := h16
        have q20 := h16.1.symm
        subst q20
        refine And.intro (Nat.le_of_ble_eq_true rfl) (And.intro ⟨v12, v15, rfl, trivial⟩ ?_)
        intro v21 s23 h22
        have h22 : s23 = s0 ∧ (v12.toInt ≤ v21.toInt ∧ v15.toInt ≤ v21.toInt ∧ (v21.toInt = v12.toInt ∨ v21.toInt = v15.toInt)) := h22
        have q26 := h22.1.symm
        subst q26
        have q27 := h22.2
        intro s28 e29
        have i30 : Iv s28 := Iv.u1 i0 e29 rfl
        have k31 : Kp s0 s28 := Kx.u1 Kx.rf e29 rfl
        have u32 : vk s28 = ((vk s0).1, (vk s0).2) := vk_k1 rfl e29 rfl
        show Iv s28 ∧ Kp s0 s28 ∧ vk s28 = ((vk s0).1, (vk s0).2) ∧ (True)
        exact ⟨i30, k31, u32, (trivial)⟩
      · have c11 : ¬ (v5.toInt = a1.toInt) := c11
        refine And.intro (by first | exact Or.inl rfl | exact Or.inr rfl | exact vg_01 (by omega) (by omega)) ?_
        intro s33 e34
        have i35 : Iv s33 := Iv.u1 i0 e34 rfl
        have k36 : Kp s0 s33 := Kx.u1 Kx.rf e34 rfl
        have u37 : vk s33 = ((vk s0).1, (vk s0).2) := vk_k1 rfl e34 rfl
        intro v38 e39
        have g40 : s0.1 3 5 = v38 := by rw [e39, e34, vg_u1_at (a := 3) (b := 5) (k := 3) (i := 7) (by decide)]
        intro v41 e42
        intro s43 e44
        have i45 : Iv s43 := Iv.u1 i35 e44 rfl
        have k46 : Kp s0 s43 := Kx.u1 k36 e44 rfl
        have u47 : vk s43 = ((vk s0).1, (vk s0).2) := vk_k1 u37 e44 rfl
        intro v48 e49
        intro v50 e51
        intro v52 e53
        intro v54 e55
        intro s56 e57
        have i58 : Iv s56 := Iv.u2 i45 e57
        have k59 : Kp s0 s56 := Kx.u2 k46 e57 (vg_kq_no ⟨rfl, rfl, rfl⟩).1
        have u60 : vk s56 = ((vk s0).1, (vk s0).2) := vk_k2 u47 e57 rfl
        intro v61 e62
        have g63 : s0.1 3 8 = v61 := by rw [e62, e57, vg_u2_1, e44, vg_u1_at (a := 3) (b := 8) (k := 3) (i := 5) (by decide), e34, vg_u1_at (a := 3) (b := 8) (k := 3) (i := 7) (by decide)]
        refine And.intro (Nat.le_of_ble_eq_true rfl) (And.intro ⟨v5, rfl, trivial⟩ ?_)
        intro v64 s66 h65
        have h65 : s66 = s56 ∧ (True) := h65
        have q69 := h65.1.symm
        subst q69
        refine And.intro (Nat.le_of_ble_eq_true rfl) (And.intro ⟨v61, v64, rfl, trivial⟩ ?_)
        intro v70 s72 h71
        have h71 : s72 = s56 ∧ (v61.toInt ≤ v70.toInt ∧ v64.toInt ≤ v70.toInt ∧ (v70.toInt = v61.toInt ∨ v70.toInt = v64.toInt)) := h71
        have q75 := h71.1.symm
        subst q75
        have q76 := h71.2
        intro s77 e78
        have i79 : Iv s77 := Iv.u1 i58 e78 rfl
        have k80 : Kp s0 s77 := Kx.u1 k59 e78 rfl
        have u81 : vk s77 = ((vk s0).1, (vk s0).2) := vk_k1 u60 e78 rfl
        show Iv s77 ∧ Kp s0 s77 ∧ vk s77 = ((vk s0).1, (vk s0).2) ∧ (True)
        exact ⟨i79, k80, u81, (trivial)⟩
  ·
    have z1 : (Int32.ofInt 1).toInt = 1 := by decide
    refine ⟨Nat.le_of_ble_eq_true rfl, [], ?_, fun _ h => absurd h List.not_mem_nil⟩
    ·
      intro v1 e2
      have g3 : s0.1 23 4 = v1 := by rw [e2]
      have b4 : (1 : Int) ≤ v1.toInt ∧ v1.toInt ≤ 60000 := by rw [e2]; exact Iv_23_4 i0
      refine And.intro (Nat.le_of_ble_eq_true rfl) (And.intro ⟨a1, v1, rfl, trivial⟩ ?_)
      intro v5 s7 h6
      have h6 : s7 = s0 ∧ (True) := h6
      have q10 := h6.1.symm
      subst q10
      refine And.intro (fun c11 => ?_) (fun c11 => ?_)
      · have c11 : v5.toInt = a1.toInt := c11
        intro v12 e13
        have g14 : s0.1 22 8 = v12 := by rw [e13]
        refine And.intro (Nat.le_of_ble_eq_true rfl) (And.intro ⟨v5, rfl, trivial⟩ ?_)
        intro v15 s17 h16
        have h16 : s17 = s0 ∧ (True) := h16
        have q20 := h16.1.symm
        subst q20
        refine And.intro (Nat.le_of_ble_eq_true rfl) (And.intro ⟨v12, v15, rfl, trivial⟩ ?_)
        intro v21 s23 h22
        have h22 : s23 = s0 ∧ (v12.toInt ≤ v21.toInt ∧ v15.toInt ≤ v21.toInt ∧ (v21.toInt = v12.toInt ∨ v21.toInt = v15.toInt)) := h22
        have q26 := h22.1.symm
        subst q26
        have q27 := h22.2
        intro s28 e29
        have i30 : Iv s28 := Iv.u1 i0 e29 rfl
        have k31 : Kp s0 s28 := Kx.u1 Kx.rf e29 rfl
        have u32 : vk s28 = ((vk s0).1, (vk s0).2) := vk_k1 rfl e29 rfl
        show Iv s28 ∧ Kp s0 s28 ∧ vk s28 = ((vk s0).1, (vk s0).2) ∧ (True)
        exact ⟨i30, k31, u32, (trivial)⟩
      · have c11 : ¬ (v5.toInt = a1.toInt) := c11
        refine And.intro (by first | exact Or.inl rfl | exact Or.inr rfl | exact vg_01 (by omega) (by omega)) ?_
        intro s33 e34
        have i35 : Iv s33 := Iv.u1 i0 e34 rfl
        have k36 : Kp s0 s33 := Kx.u1 Kx.rf e34 rfl
        have u37 : vk s33 = ((vk s0).1, (vk s0).2) := vk_k1 rfl e34 rfl
        intro v38 e39
        have g40 : s0.1 22 5 = v38 := by rw [e39, e34, vg_u1_at (a := 22) (b := 5) (k := 22) (i := 7) (by decide)]
        intro v41 e42
        intro s43 e44
        have i45 : Iv s43 := Iv.u1 i35 e44 rfl
        have k46 : Kp s0 s43 := Kx.u1 k36 e44 rfl
        have u47 : vk s43 = ((vk s0).1, (vk s0).2) := vk_k1 u37 e44 rfl
        intro v48 e49
        intro v50 e51
        intro v52 e53
        intro v54 e55
        intro s56 e57
        have i58 : Iv s56 := Iv.u2 i45 e57
        have k59 : Kp s0 s56 := Kx.u2 k46 e57 (vg_kq_no ⟨rfl, rfl, rfl⟩).1
        have u60 : vk s56 = ((vk s0).1, (vk s0).2) := vk_k2 u47 e57 rfl
        intro v61 e62
        have g63 : s0.1 22 8 = v61 := by rw [e62, e57, vg_u2_1, e44, vg_u1_at (a := 22) (b := 8) (k := 22) (i := 5) (by decide), e34, vg_u1_at (a := 22) (b := 8) (k := 22) (i := 7) (by decide)]
        refine And.intro (Nat.le_of_ble_eq_true rfl) (And.intro ⟨v5, rfl, trivial⟩ ?_)
        intro v64 s66 h65
        have h65 : s66 = s56 ∧ (True) := h65
        have q69 := h65.1.symm
        subst q69
        refine And.intro (Nat.le_of_ble_eq_true rfl) (And.intro ⟨v61, v64, rfl, trivial⟩ ?_)
        intro v70 s72 h71
        have h71 : s72 = s56 ∧ (v61.toInt ≤ v70.toInt ∧ v64.toInt ≤ v70.toInt ∧ (v70.toInt = v61.toInt ∨ v70.toInt = v64.toInt)) := h71
        have q75 := h71.1.symm
        subst q75
        have q76 := h71.2
        intro s77 e78
        have i79 : Iv s77 := Iv.u1 i58 e78 rfl
        have k80 : Kp s0 s77 := Kx.u1 k59 e78 rfl
        have u81 : vk s77 = ((vk s0).1, (vk s0).2) := vk_k1 u60 e78 rfl
        show Iv s77 ∧ Kp s0 s77 ∧ vk s77 = ((vk s0).1, (vk s0).2) ∧ (True)
        exact ⟨i79, k80, u81, (trivial)⟩
def o_X5_outOfSums : List vg_I := [(0, .iload_n 1, 1, 0, 0, 0, 0), (1, .istore_n 3, 1, 0, 0, 0, 0), (2, .iconst 0, 1, 0, 0, 0, 0), (3, .istore 4, 2, 0, 0, 0, 0), (5, .iload 4, 2, 0, 0, 0, 0), (7, .aload_n 0, 1, 0, 0, 0, 0), (8, .getfield 12, 3, 178, 5, 0, 0), (11, .getfield 134, 3, 144, 6, 1, 0), (14, .if_icmp .ge 42, 3, 0, 0, 0, 0), (17, .aload_n 0, 1, 0, 0, 0, 0), (18, .getfield 16, 3, 180, 5, 1, 0), (21, .iload 4, 2, 0, 0, 0, 0), (23, .aload_n 0, 1, 0, 0, 0, 0), (24, .aload_n 0, 1, 0, 0, 0, 0), (25, .getfield 16, 3, 180, 5, 1, 0), (28, .iload 4, 2, 0, 0, 0, 0), (30, .iaload, 1, 0, 0, 0, 0), (31, .iload_n 3, 1, 0, 0, 0, 0), (32, .iadd, 1, 0, 0, 0, 0), (33, .aload_n 0, 1, 0, 0, 0, 0), (34, .getfield 29, 3, 183, 5, 3, 0), (37, .isub, 1, 0, 0, 0, 0), (38, .invokevirtual 131, 3, 0, 5, 1, 661), (41, .iastore, 1, 0, 0, 0, 0), (42, .aload_n 0, 1, 0, 0, 0, 0), (43, .getfield 16, 3, 180, 5, 1, 0), (46, .iload 4, 2, 0, 0, 0, 0), (48, .iaload, 1, 0, 0, 0, 0), (49, .istore_n 3, 1, 0, 0, 0, 0), (50, .iinc 4 1, 3, 0, 0, 0, 0), (53, .goto (-48), 3, 0, 0, 0, 0), (56, .aload_n 0, 1, 0, 0, 0, 0), (57, .getfield 12, 3, 178, 5, 0, 0), (60, .iload_n 3, 1, 0, 0, 0, 0), (61, .iload_n 2, 1, 0, 0, 0, 0), (62, .iadd, 1, 0, 0, 0, 0), (63, .invokevirtual 128, 3, 1, 6, 1, 672), (66, .ireturn, 1, 0, 0, 0, 0)]
set_option maxRecDepth 100000 in
set_option maxHeartbeats 4000000 in
theorem c_X5_outOfSums (l : Launch) (G : vg_G) (hp : vg_Hp G) : vg_Ct l G vg_sh r_X5_outOfSums := by
  refine vg_meth hp vg_sh_ok r_X5_outOfSums k_X5_outOfSums rfl (fun h => by cases h) o_X5_outOfSums [r_X5_hold, r_X6_nearest] false (by decide +kernel) (by decide +kernel) ⟨_, _, rfl, rfl⟩ (List.forall_mem_cons.mpr ⟨⟨c_X5_hold l G hp, Nat.le_of_ble_eq_true rfl, Nat.le_of_ble_eq_true rfl⟩, List.forall_mem_cons.mpr ⟨⟨c_X6_nearest l G hp, Nat.le_of_ble_eq_true rfl, Nat.le_of_ble_eq_true rfl⟩, fun _ h => absurd h List.not_mem_nil⟩⟩) (fun h => by cases h) 600 ?_
  intro as s0 hpre
  obtain ⟨r, a1, a2, rfl, hr, i0⟩ := hpre
  simp only [List.mem_cons, List.not_mem_nil, or_false] at hr
  rcases hr with rfl | rfl
  ·
    have z0 : (Int32.ofInt 0).toInt = 0 := by decide
    have z1 : (Int32.ofInt 1).toInt = 1 := by decide
    refine ⟨Nat.le_of_ble_eq_true rfl, [(5, [true, false, true, true, true], (fun L t => ∃ (x3 : Int32) (x4 : Int32), L = [some (.ref 3), none, some (.int a2), some (.int x3), some (.int x4)] ∧ (0 : Int) ≤ x4.toInt ∧ x4.toInt ≤ (4 : Int) ∧ Iv t ∧ Kp s0 t ∧ vk t = ((vk s0).1, (vk s0).2)), (fun L _ => (0 + (4 - (vg_li L 4).toInt) * 1000000000000).toNat))], ?_, List.forall_mem_cons.mpr ⟨?_, fun _ h => absurd h List.not_mem_nil⟩⟩
    ·
      exact ⟨rfl, ⟨a1, (Int32.ofInt 0), rfl, (by omega), (by omega), i0, Kx.rf, rfl⟩, trivial⟩
    ·
      intro L s5 hL
      obtain ⟨w1, w2, rfl, b3, b4, i6, k7, u8⟩ := hL
      intro v9 e10
      have g11 : s5.1 4 1 = v9 := by rw [e10]
      have b12 : (1 : Int) ≤ v9.toInt ∧ v9.toInt ≤ 4 := by rw [e10]; exact Iv_4_1 i6
      refine And.intro (fun c13 => ?_) (fun c13 => ?_)
      · have c13 : v9.toInt ≤ w2.toInt := c13
        intro v14 e15
        refine And.intro (Nat.le_of_ble_eq_true rfl) (And.intro ⟨4, v14, rfl, by decide, i6⟩ ?_)
        intro v16 s18 h17
        have h17 : s18 = s5 ∧ (True) := h17
        have q21 := h17.1.symm
        subst q21
        show Iv s5 ∧ Kp s0 s5 ∧ vk s5 = ((vk s0).1, (vk s0).2) ∧ (True)
        exact ⟨i6, k7, u8, (trivial)⟩
      · have c13 : ¬ (v9.toInt ≤ w2.toInt) := c13
        refine And.intro ⟨by omega, by omega⟩ ?_
        intro v22 e23
        intro v24 e25
        intro v26 e27
        have g28 : s5.1 3 3 = v26 := by rw [e27]
        intro v29 e30
        refine And.intro (Nat.le_of_ble_eq_true rfl) (And.intro ⟨3, v29, rfl, by decide, i6⟩ ?_)
        intro v31 s33 h32
        have h32 : Iv s33 ∧ Kp s5 s33 ∧ vk s33 = ((vk s5).1, (vk s5).2) ∧ (True) := h32
        have i34 := h32.1
        have k35 : Kp s0 s33 := Kx.tr k7 (h32.2.1)
        have u36 : vk s33 = ((vk s0).1, (vk s0).2) := h32.2.2.1.trans u8
        refine And.intro ⟨by omega, by omega⟩ ?_
        intro s37 e38
        have i39 : Iv s37 := Iv.a1 i34 e38 rfl
        have k40 : Kp s0 s37 := Kx.u1 k35 e38 rfl
        have u41 : vk s37 = ((vk s0).1, (vk s0).2) := vk_k1 u36 e38 rfl
        refine And.intro ⟨by omega, by omega⟩ ?_
        intro v42 e43
        intro v44 e45
        have b46 := vg_add e45 (by omega) (by omega)
        exact ⟨rfl, ⟨v42, v44, rfl, (by omega), (by omega), i39, k40, u41⟩, (by show (0 + (4 - v44.toInt) * 1000000000000).toNat < (0 + (4 - w2.toInt) * 1000000000000).toNat; omega)⟩
  ·
    have z0 : (Int32.ofInt 0).toInt = 0 := by decide
    have z1 : (Int32.ofInt 1).toInt = 1 := by decide
    refine ⟨Nat.le_of_ble_eq_true rfl, [(5, [true, false, true, true, true], (fun L t => ∃ (x3 : Int32) (x4 : Int32), L = [some (.ref 22), none, some (.int a2), some (.int x3), some (.int x4)] ∧ (0 : Int) ≤ x4.toInt ∧ x4.toInt ≤ (4 : Int) ∧ Iv t ∧ Kp s0 t ∧ vk t = ((vk s0).1, (vk s0).2)), (fun L _ => (0 + (4 - (vg_li L 4).toInt) * 1000000000000).toNat))], ?_, List.forall_mem_cons.mpr ⟨?_, fun _ h => absurd h List.not_mem_nil⟩⟩
    ·
      exact ⟨rfl, ⟨a1, (Int32.ofInt 0), rfl, (by omega), (by omega), i0, Kx.rf, rfl⟩, trivial⟩
    ·
      intro L s5 hL
      obtain ⟨w1, w2, rfl, b3, b4, i6, k7, u8⟩ := hL
      intro v9 e10
      have g11 : s5.1 23 1 = v9 := by rw [e10]
      have b12 : (1 : Int) ≤ v9.toInt ∧ v9.toInt ≤ 4 := by rw [e10]; exact Iv_23_1 i6
      refine And.intro (fun c13 => ?_) (fun c13 => ?_)
      · have c13 : v9.toInt ≤ w2.toInt := c13
        intro v14 e15
        refine And.intro (Nat.le_of_ble_eq_true rfl) (And.intro ⟨23, v14, rfl, by decide, i6⟩ ?_)
        intro v16 s18 h17
        have h17 : s18 = s5 ∧ (True) := h17
        have q21 := h17.1.symm
        subst q21
        show Iv s5 ∧ Kp s0 s5 ∧ vk s5 = ((vk s0).1, (vk s0).2) ∧ (True)
        exact ⟨i6, k7, u8, (trivial)⟩
      · have c13 : ¬ (v9.toInt ≤ w2.toInt) := c13
        refine And.intro ⟨by omega, by omega⟩ ?_
        intro v22 e23
        intro v24 e25
        intro v26 e27
        have g28 : s5.1 22 3 = v26 := by rw [e27]
        intro v29 e30
        refine And.intro (Nat.le_of_ble_eq_true rfl) (And.intro ⟨22, v29, rfl, by decide, i6⟩ ?_)
        intro v31 s33 h32
        have h32 : Iv s33 ∧ Kp s5 s33 ∧ vk s33 = ((vk s5).1, (vk s5).2) ∧ (True) := h32
        have i34 := h32.1
        have k35 : Kp s0 s33 := Kx.tr k7 (h32.2.1)
        have u36 : vk s33 = ((vk s0).1, (vk s0).2) := h32.2.2.1.trans u8
        refine And.intro ⟨by omega, by omega⟩ ?_
        intro s37 e38
        have i39 : Iv s37 := Iv.a1 i34 e38 rfl
        have k40 : Kp s0 s37 := Kx.u1 k35 e38 rfl
        have u41 : vk s37 = ((vk s0).1, (vk s0).2) := vk_k1 u36 e38 rfl
        refine And.intro ⟨by omega, by omega⟩ ?_
        intro v42 e43
        intro v44 e45
        have b46 := vg_add e45 (by omega) (by omega)
        exact ⟨rfl, ⟨v42, v44, rfl, (by omega), (by omega), i39, k40, u41⟩, (by show (0 + (4 - v44.toInt) * 1000000000000).toNat < (0 + (4 - w2.toInt) * 1000000000000).toNat; omega)⟩
def o_X5_differenceOf : List vg_I := [(0, .iload_n 1, 1, 0, 0, 0, 0), (1, .tableswitch 144 1 3 #[27, 45, 84], 27, 0, 0, 0, 0), (28, .iload_n 2, 1, 0, 0, 0, 0), (29, .aload_n 0, 1, 0, 0, 0, 0), (30, .getfield 20, 3, 182, 5, 2, 0), (33, .iconst 0, 1, 0, 0, 0, 0), (34, .iaload, 1, 0, 0, 0, 0), (35, .isub, 1, 0, 0, 0, 0), (36, .istore_n 3, 1, 0, 0, 0, 0), (37, .aload_n 0, 1, 0, 0, 0, 0), (38, .getfield 20, 3, 182, 5, 2, 0), (41, .iconst 0, 1, 0, 0, 0, 0), (42, .iload_n 2, 1, 0, 0, 0, 0), (43, .iastore, 1, 0, 0, 0, 0), (44, .iload_n 3, 1, 0, 0, 0, 0), (45, .ireturn, 1, 0, 0, 0, 0), (46, .iload_n 2, 1, 0, 0, 0, 0), (47, .iconst 2, 1, 0, 0, 0, 0), (48, .aload_n 0, 1, 0, 0, 0, 0), (49, .getfield 20, 3, 182, 5, 2, 0), (52, .iconst 1, 1, 0, 0, 0, 0), (53, .iaload, 1, 0, 0, 0, 0), (54, .imul, 1, 0, 0, 0, 0), (55, .isub, 1, 0, 0, 0, 0), (56, .aload_n 0, 1, 0, 0, 0, 0), (57, .getfield 20, 3, 182, 5, 2, 0), (60, .iconst 2, 1, 0, 0, 0, 0), (61, .iaload, 1, 0, 0, 0, 0), (62, .iadd, 1, 0, 0, 0, 0), (63, .istore_n 3, 1, 0, 0, 0, 0), (64, .aload_n 0, 1, 0, 0, 0, 0), (65, .getfield 20, 3, 182, 5, 2, 0), (68, .iconst 2, 1, 0, 0, 0, 0), (69, .aload_n 0, 1, 0, 0, 0, 0), (70, .getfield 20, 3, 182, 5, 2, 0), (73, .iconst 1, 1, 0, 0, 0, 0), (74, .iaload, 1, 0, 0, 0, 0), (75, .iastore, 1, 0, 0, 0, 0), (76, .aload_n 0, 1, 0, 0, 0, 0), (77, .getfield 20, 3, 182, 5, 2, 0), (80, .iconst 1, 1, 0, 0, 0, 0), (81, .iload_n 2, 1, 0, 0, 0, 0), (82, .iastore, 1, 0, 0, 0, 0), (83, .iload_n 3, 1, 0, 0, 0, 0), (84, .ireturn, 1, 0, 0, 0, 0), (85, .iload_n 2, 1, 0, 0, 0, 0), (86, .iconst 3, 1, 0, 0, 0, 0), (87, .aload_n 0, 1, 0, 0, 0, 0), (88, .getfield 20, 3, 182, 5, 2, 0), (91, .iconst 3, 1, 0, 0, 0, 0), (92, .iaload, 1, 0, 0, 0, 0), (93, .imul, 1, 0, 0, 0, 0), (94, .isub, 1, 0, 0, 0, 0), (95, .iconst 3, 1, 0, 0, 0, 0), (96, .aload_n 0, 1, 0, 0, 0, 0), (97, .getfield 20, 3, 182, 5, 2, 0), (100, .iconst 4, 1, 0, 0, 0, 0), (101, .iaload, 1, 0, 0, 0, 0), (102, .imul, 1, 0, 0, 0, 0), (103, .iadd, 1, 0, 0, 0, 0), (104, .aload_n 0, 1, 0, 0, 0, 0), (105, .getfield 20, 3, 182, 5, 2, 0), (108, .iconst 5, 1, 0, 0, 0, 0), (109, .iaload, 1, 0, 0, 0, 0), (110, .isub, 1, 0, 0, 0, 0), (111, .istore_n 3, 1, 0, 0, 0, 0), (112, .aload_n 0, 1, 0, 0, 0, 0), (113, .getfield 20, 3, 182, 5, 2, 0), (116, .iconst 5, 1, 0, 0, 0, 0), (117, .aload_n 0, 1, 0, 0, 0, 0), (118, .getfield 20, 3, 182, 5, 2, 0), (121, .iconst 4, 1, 0, 0, 0, 0), (122, .iaload, 1, 0, 0, 0, 0), (123, .iastore, 1, 0, 0, 0, 0), (124, .aload_n 0, 1, 0, 0, 0, 0), (125, .getfield 20, 3, 182, 5, 2, 0), (128, .iconst 4, 1, 0, 0, 0, 0), (129, .aload_n 0, 1, 0, 0, 0, 0), (130, .getfield 20, 3, 182, 5, 2, 0), (133, .iconst 3, 1, 0, 0, 0, 0), (134, .iaload, 1, 0, 0, 0, 0), (135, .iastore, 1, 0, 0, 0, 0), (136, .aload_n 0, 1, 0, 0, 0, 0), (137, .getfield 20, 3, 182, 5, 2, 0), (140, .iconst 3, 1, 0, 0, 0, 0), (141, .iload_n 2, 1, 0, 0, 0, 0), (142, .iastore, 1, 0, 0, 0, 0), (143, .iload_n 3, 1, 0, 0, 0, 0), (144, .ireturn, 1, 0, 0, 0, 0), (145, .iload_n 2, 1, 0, 0, 0, 0), (146, .ireturn, 1, 0, 0, 0, 0)]
set_option maxRecDepth 100000 in
set_option maxHeartbeats 4000000 in
theorem c_X5_differenceOf (l : Launch) (G : vg_G) (hp : vg_Hp G) : vg_Ct l G vg_sh r_X5_differenceOf := by
  refine vg_meth hp vg_sh_ok r_X5_differenceOf k_X5_differenceOf rfl (fun h => by cases h) o_X5_differenceOf [] false (by decide +kernel) (by decide +kernel) ⟨_, _, rfl, rfl⟩ (fun _ h => absurd h List.not_mem_nil) (fun h => by cases h) 600 ?_
  intro as s0 hpre
  obtain ⟨r, a1, a2, rfl, hr, i0⟩ := hpre
  simp only [List.mem_cons, List.not_mem_nil, or_false] at hr
  rcases hr with rfl | rfl
  ·
    have z0 : (Int32.ofInt 0).toInt = 0 := by decide
    have z1 : (Int32.ofInt 1).toInt = 1 := by decide
    have z2 : (Int32.ofInt 2).toInt = 2 := by decide
    have z3 : (Int32.ofInt 3).toInt = 3 := by decide
    have z4 : (Int32.ofInt 4).toInt = 4 := by decide
    have z5 : (Int32.ofInt 5).toInt = 5 := by decide
    refine ⟨Nat.le_of_ble_eq_true rfl, [], ?_, fun _ h => absurd h List.not_mem_nil⟩
    ·
      refine And.intro (fun c1 => ?_) ?_
      · have c1 : a1.toInt < (1) ∨ (3) < a1.toInt := c1
        show Iv s0 ∧ Kp s0 s0 ∧ vk s0 = ((vk s0).1, (vk s0).2) ∧ (True)
        exact ⟨i0, Kx.rf, rfl, (trivial)⟩
      refine And.intro (fun c2 => ?_) ?_
      · have c2 : a1.toInt = (1) := c2
        refine And.intro ⟨by omega, by omega⟩ ?_
        intro v3 e4
        intro v5 e6
        refine And.intro ⟨by omega, by omega⟩ ?_
        intro s7 e8
        have i9 : Iv s7 := Iv.a1 i0 e8 rfl
        have k10 : Kp s0 s7 := Kx.u1 Kx.rf e8 rfl
        have u11 : vk s7 = ((vk s0).1, (vk s0).2) := vk_k1 rfl e8 rfl
        show Iv s7 ∧ Kp s0 s7 ∧ vk s7 = ((vk s0).1, (vk s0).2) ∧ (True)
        exact ⟨i9, k10, u11, (trivial)⟩
      refine And.intro (fun c12 => ?_) ?_
      · have c12 : a1.toInt = (2) := c12
        refine And.intro ⟨by omega, by omega⟩ ?_
        intro v13 e14
        intro v15 e16
        intro v17 e18
        refine And.intro ⟨by omega, by omega⟩ ?_
        intro v19 e20
        intro v21 e22
        refine And.intro ⟨by omega, by omega⟩ ?_
        intro v23 e24
        have w25 : v13 = v23 := by rw [e24, e14]
        subst w25
        refine And.intro ⟨by omega, by omega⟩ ?_
        intro s26 e27
        have i28 : Iv s26 := Iv.a1 i0 e27 rfl
        have k29 : Kp s0 s26 := Kx.u1 Kx.rf e27 rfl
        have u30 : vk s26 = ((vk s0).1, (vk s0).2) := vk_k1 rfl e27 rfl
        refine And.intro ⟨by omega, by omega⟩ ?_
        intro s31 e32
        have i33 : Iv s31 := Iv.a1 i28 e32 rfl
        have k34 : Kp s0 s31 := Kx.u1 k29 e32 rfl
        have u35 : vk s31 = ((vk s0).1, (vk s0).2) := vk_k1 u30 e32 rfl
        show Iv s31 ∧ Kp s0 s31 ∧ vk s31 = ((vk s0).1, (vk s0).2) ∧ (True)
        exact ⟨i33, k34, u35, (trivial)⟩
      refine And.intro (fun c36 => ?_) ?_
      · have c36 : a1.toInt = (3) := c36
        refine And.intro ⟨by omega, by omega⟩ ?_
        intro v37 e38
        intro v39 e40
        intro v41 e42
        refine And.intro ⟨by omega, by omega⟩ ?_
        intro v43 e44
        intro v45 e46
        intro v47 e48
        refine And.intro ⟨by omega, by omega⟩ ?_
        intro v49 e50
        intro v51 e52
        refine And.intro ⟨by omega, by omega⟩ ?_
        intro v53 e54
        have w55 : v43 = v53 := by rw [e54, e44]
        subst w55
        refine And.intro ⟨by omega, by omega⟩ ?_
        intro s56 e57
        have i58 : Iv s56 := Iv.a1 i0 e57 rfl
        have k59 : Kp s0 s56 := Kx.u1 Kx.rf e57 rfl
        have u60 : vk s56 = ((vk s0).1, (vk s0).2) := vk_k1 rfl e57 rfl
        refine And.intro ⟨by omega, by omega⟩ ?_
        intro v61 e62
        refine And.intro ⟨by omega, by omega⟩ ?_
        intro s63 e64
        have i65 : Iv s63 := Iv.a1 i58 e64 rfl
        have k66 : Kp s0 s63 := Kx.u1 k59 e64 rfl
        have u67 : vk s63 = ((vk s0).1, (vk s0).2) := vk_k1 u60 e64 rfl
        refine And.intro ⟨by omega, by omega⟩ ?_
        intro s68 e69
        have i70 : Iv s68 := Iv.a1 i65 e69 rfl
        have k71 : Kp s0 s68 := Kx.u1 k66 e69 rfl
        have u72 : vk s68 = ((vk s0).1, (vk s0).2) := vk_k1 u67 e69 rfl
        show Iv s68 ∧ Kp s0 s68 ∧ vk s68 = ((vk s0).1, (vk s0).2) ∧ (True)
        exact ⟨i70, k71, u72, (trivial)⟩
      exact trivial
  ·
    have z0 : (Int32.ofInt 0).toInt = 0 := by decide
    have z1 : (Int32.ofInt 1).toInt = 1 := by decide
    have z2 : (Int32.ofInt 2).toInt = 2 := by decide
    have z3 : (Int32.ofInt 3).toInt = 3 := by decide
    have z4 : (Int32.ofInt 4).toInt = 4 := by decide
    have z5 : (Int32.ofInt 5).toInt = 5 := by decide
    refine ⟨Nat.le_of_ble_eq_true rfl, [], ?_, fun _ h => absurd h List.not_mem_nil⟩
    ·
      refine And.intro (fun c1 => ?_) ?_
      · have c1 : a1.toInt < (1) ∨ (3) < a1.toInt := c1
        show Iv s0 ∧ Kp s0 s0 ∧ vk s0 = ((vk s0).1, (vk s0).2) ∧ (True)
        exact ⟨i0, Kx.rf, rfl, (trivial)⟩
      refine And.intro (fun c2 => ?_) ?_
      · have c2 : a1.toInt = (1) := c2
        refine And.intro ⟨by omega, by omega⟩ ?_
        intro v3 e4
        intro v5 e6
        refine And.intro ⟨by omega, by omega⟩ ?_
        intro s7 e8
        have i9 : Iv s7 := Iv.a1 i0 e8 rfl
        have k10 : Kp s0 s7 := Kx.u1 Kx.rf e8 rfl
        have u11 : vk s7 = ((vk s0).1, (vk s0).2) := vk_k1 rfl e8 rfl
        show Iv s7 ∧ Kp s0 s7 ∧ vk s7 = ((vk s0).1, (vk s0).2) ∧ (True)
        exact ⟨i9, k10, u11, (trivial)⟩
      refine And.intro (fun c12 => ?_) ?_
      · have c12 : a1.toInt = (2) := c12
        refine And.intro ⟨by omega, by omega⟩ ?_
        intro v13 e14
        intro v15 e16
        intro v17 e18
        refine And.intro ⟨by omega, by omega⟩ ?_
        intro v19 e20
        intro v21 e22
        refine And.intro ⟨by omega, by omega⟩ ?_
        intro v23 e24
        have w25 : v13 = v23 := by rw [e24, e14]
        subst w25
        refine And.intro ⟨by omega, by omega⟩ ?_
        intro s26 e27
        have i28 : Iv s26 := Iv.a1 i0 e27 rfl
        have k29 : Kp s0 s26 := Kx.u1 Kx.rf e27 rfl
        have u30 : vk s26 = ((vk s0).1, (vk s0).2) := vk_k1 rfl e27 rfl
        refine And.intro ⟨by omega, by omega⟩ ?_
        intro s31 e32
        have i33 : Iv s31 := Iv.a1 i28 e32 rfl
        have k34 : Kp s0 s31 := Kx.u1 k29 e32 rfl
        have u35 : vk s31 = ((vk s0).1, (vk s0).2) := vk_k1 u30 e32 rfl
        show Iv s31 ∧ Kp s0 s31 ∧ vk s31 = ((vk s0).1, (vk s0).2) ∧ (True)
        exact ⟨i33, k34, u35, (trivial)⟩
      refine And.intro (fun c36 => ?_) ?_
      · have c36 : a1.toInt = (3) := c36
        refine And.intro ⟨by omega, by omega⟩ ?_
        intro v37 e38
        intro v39 e40
        intro v41 e42
        refine And.intro ⟨by omega, by omega⟩ ?_
        intro v43 e44
        intro v45 e46
        intro v47 e48
        refine And.intro ⟨by omega, by omega⟩ ?_
        intro v49 e50
        intro v51 e52
        refine And.intro ⟨by omega, by omega⟩ ?_
        intro v53 e54
        have w55 : v43 = v53 := by rw [e54, e44]
        subst w55
        refine And.intro ⟨by omega, by omega⟩ ?_
        intro s56 e57
        have i58 : Iv s56 := Iv.a1 i0 e57 rfl
        have k59 : Kp s0 s56 := Kx.u1 Kx.rf e57 rfl
        have u60 : vk s56 = ((vk s0).1, (vk s0).2) := vk_k1 rfl e57 rfl
        refine And.intro ⟨by omega, by omega⟩ ?_
        intro v61 e62
        refine And.intro ⟨by omega, by omega⟩ ?_
        intro s63 e64
        have i65 : Iv s63 := Iv.a1 i58 e64 rfl
        have k66 : Kp s0 s63 := Kx.u1 k59 e64 rfl
        have u67 : vk s63 = ((vk s0).1, (vk s0).2) := vk_k1 u60 e64 rfl
        refine And.intro ⟨by omega, by omega⟩ ?_
        intro s68 e69
        have i70 : Iv s68 := Iv.a1 i65 e69 rfl
        have k71 : Kp s0 s68 := Kx.u1 k66 e69 rfl
        have u72 : vk s68 = ((vk s0).1, (vk s0).2) := vk_k1 u67 e69 rfl
        show Iv s68 ∧ Kp s0 s68 ∧ vk s68 = ((vk s0).1, (vk s0).2) ∧ (True)
        exact ⟨i70, k71, u72, (trivial)⟩
      exact trivial
def o_X5_outOfCascade : List vg_I := [(0, .iload_n 1, 1, 0, 0, 0, 0), (1, .istore_n 3, 1, 0, 0, 0, 0), (2, .aload_n 0, 1, 0, 0, 0, 0), (3, .getfield 12, 3, 178, 5, 0, 0), (6, .invokevirtual 137, 3, 0, 6, 0, 685), (9, .istore 4, 2, 0, 0, 0, 0), (11, .iconst 0, 1, 0, 0, 0, 0), (12, .istore 5, 2, 0, 0, 0, 0), (14, .iload 5, 2, 0, 0, 0, 0), (16, .aload_n 0, 1, 0, 0, 0, 0), (17, .getfield 12, 3, 178, 5, 0, 0), (20, .getfield 134, 3, 144, 6, 1, 0), (23, .if_icmp .ge 87, 3, 0, 0, 0, 0), (26, .iload_n 3, 1, 0, 0, 0, 0), (27, .aload_n 0, 1, 0, 0, 0, 0), (28, .getfield 16, 3, 180, 5, 1, 0), (31, .iload 5, 2, 0, 0, 0, 0), (33, .iaload, 1, 0, 0, 0, 0), (34, .iadd, 1, 0, 0, 0, 0), (35, .istore 6, 2, 0, 0, 0, 0), (37, .aload_n 0, 1, 0, 0, 0, 0), (38, .getfield 12, 3, 178, 5, 0, 0), (41, .iload 5, 2, 0, 0, 0, 0), (43, .ifCond .ne 10, 3, 0, 0, 0, 0), (46, .iload 6, 2, 0, 0, 0, 0), (48, .iload_n 2, 1, 0, 0, 0, 0), (49, .iadd, 1, 0, 0, 0, 0), (50, .goto 5, 3, 0, 0, 0, 0), (53, .iload 6, 2, 0, 0, 0, 0), (55, .invokevirtual 128, 3, 1, 6, 1, 672), (58, .istore 7, 2, 0, 0, 0, 0), (60, .aload_n 0, 1, 0, 0, 0, 0), (61, .getfield 16, 3, 180, 5, 1, 0), (64, .iload 5, 2, 0, 0, 0, 0), (66, .aload_n 0, 1, 0, 0, 0, 0), (67, .iload 6, 2, 0, 0, 0, 0), (69, .aload_n 0, 1, 0, 0, 0, 0), (70, .getfield 12, 3, 178, 5, 0, 0), (73, .iload 7, 2, 0, 0, 0, 0), (75, .invokevirtual 140, 3, 2, 6, 1, 689), (78, .isub, 1, 0, 0, 0, 0), (79, .invokevirtual 131, 3, 3, 5, 1, 661), (82, .iastore, 1, 0, 0, 0, 0), (83, .aload_n 0, 1, 0, 0, 0, 0), (84, .getfield 16, 3, 180, 5, 1, 0), (87, .iload 5, 2, 0, 0, 0, 0), (89, .iaload, 1, 0, 0, 0, 0), (90, .istore_n 3, 1, 0, 0, 0, 0), (91, .iload 4, 2, 0, 0, 0, 0), (93, .aload_n 0, 1, 0, 0, 0, 0), (94, .iload 5, 2, 0, 0, 0, 0), (96, .iload 7, 2, 0, 0, 0, 0), (98, .invokevirtual 143, 3, 4, 5, 2, 693), (101, .iadd, 1, 0, 0, 0, 0), (102, .istore 4, 2, 0, 0, 0, 0), (104, .iinc 5 1, 3, 0, 0, 0, 0), (107, .goto (-93), 3, 0, 0, 0, 0), (110, .iload 4, 2, 0, 0, 0, 0), (112, .ireturn, 1, 0, 0, 0, 0)]
set_option maxRecDepth 100000 in
set_option maxHeartbeats 4000000 in
theorem c_X5_outOfCascade (l : Launch) (G : vg_G) (hp : vg_Hp G) : vg_Ct l G vg_sh r_X5_outOfCascade := by
  refine vg_meth hp vg_sh_ok r_X5_outOfCascade k_X5_outOfCascade rfl (fun h => by cases h) o_X5_outOfCascade [r_X6_besides, r_X6_nearest, r_X6_valueOfSmall, r_X5_hold, r_X5_differenceOf] false (by decide +kernel) (by decide +kernel) ⟨_, _, rfl, rfl⟩ (List.forall_mem_cons.mpr ⟨⟨c_X6_besides l G hp, Nat.le_of_ble_eq_true rfl, Nat.le_of_ble_eq_true rfl⟩, List.forall_mem_cons.mpr ⟨⟨c_X6_nearest l G hp, Nat.le_of_ble_eq_true rfl, Nat.le_of_ble_eq_true rfl⟩, List.forall_mem_cons.mpr ⟨⟨c_X6_valueOfSmall l G hp, Nat.le_of_ble_eq_true rfl, Nat.le_of_ble_eq_true rfl⟩, List.forall_mem_cons.mpr ⟨⟨c_X5_hold l G hp, Nat.le_of_ble_eq_true rfl, Nat.le_of_ble_eq_true rfl⟩, List.forall_mem_cons.mpr ⟨⟨c_X5_differenceOf l G hp, Nat.le_of_ble_eq_true rfl, Nat.le_of_ble_eq_true rfl⟩, fun _ h => absurd h List.not_mem_nil⟩⟩⟩⟩⟩) (fun h => by cases h) 600 ?_
  intro as s0 hpre
  obtain ⟨r, a1, a2, rfl, hr, i0⟩ := hpre
  simp only [List.mem_cons, List.not_mem_nil, or_false] at hr
  rcases hr with rfl | rfl
  ·
    have z0 : (Int32.ofInt 0).toInt = 0 := by decide
    have z1 : (Int32.ofInt 1).toInt = 1 := by decide
    refine ⟨Nat.le_of_ble_eq_true rfl, [(14, [true, false, true, true, true, true, false, false], (fun L t => ∃ (x3 : Int32) (x4 : Int32) (x5 : Int32), L = [some (.ref 3), none, some (.int a2), some (.int x3), some (.int x4), some (.int x5), none, none] ∧ (0 : Int) ≤ x5.toInt ∧ x5.toInt ≤ (4 : Int) ∧ Iv t ∧ Kp s0 t ∧ vk t = ((vk s0).1, (vk s0).2)), (fun L _ => (0 + (4 - (vg_li L 5).toInt) * 1000000000000).toNat))], ?_, List.forall_mem_cons.mpr ⟨?_, fun _ h => absurd h List.not_mem_nil⟩⟩
    ·
      refine And.intro (Nat.le_of_ble_eq_true rfl) (And.intro ⟨4, rfl, by decide, i0⟩ ?_)
      intro v1 s3 h2
      have h2 : s3 = s0 ∧ (True) := h2
      have q6 := h2.1.symm
      subst q6
      exact ⟨rfl, ⟨a1, v1, (Int32.ofInt 0), rfl, (by omega), (by omega), i0, Kx.rf, rfl⟩, trivial⟩
    ·
      intro L s12 hL
      obtain ⟨w7, w8, w9, rfl, b10, b11, i13, k14, u15⟩ := hL
      intro v16 e17
      have g18 : s12.1 4 1 = v16 := by rw [e17]
      have b19 : (1 : Int) ≤ v16.toInt ∧ v16.toInt ≤ 4 := by rw [e17]; exact Iv_4_1 i13
      refine And.intro (fun c20 => ?_) (fun c20 => ?_)
      · have c20 : v16.toInt ≤ w9.toInt := c20
        show Iv s12 ∧ Kp s0 s12 ∧ vk s12 = ((vk s0).1, (vk s0).2) ∧ (True)
        exact ⟨i13, k14, u15, (trivial)⟩
      · have c20 : ¬ (v16.toInt ≤ w9.toInt) := c20
        refine And.intro ⟨by omega, by omega⟩ ?_
        intro v21 e22
        intro v23 e24
        refine And.intro (fun c25 => ?_) (fun c25 => ?_)
        · have c25 : ¬ w9.toInt = 0 := c25
          refine And.intro (Nat.le_of_ble_eq_true rfl) (And.intro ⟨4, v23, rfl, by decide, i13⟩ ?_)
          intro v26 s28 h27
          have h27 : s28 = s12 ∧ (True) := h27
          have q31 := h27.1.symm
          subst q31
          refine And.intro (Nat.le_of_ble_eq_true rfl) (And.intro ⟨4, v26, rfl, by decide, i13⟩ ?_)
          intro v32 s34 h33
          have h33 : s34 = s12 ∧ (True) := h33
          have q37 := h33.1.symm
          subst q37
          intro v38 e39
          refine And.intro (Nat.le_of_ble_eq_true rfl) (And.intro ⟨3, v38, rfl, by decide, i13⟩ ?_)
          intro v40 s42 h41
          have h41 : Iv s42 ∧ Kp s12 s42 ∧ vk s42 = ((vk s12).1, (vk s12).2) ∧ (True) := h41
          have i43 := h41.1
          have k44 : Kp s0 s42 := Kx.tr k14 (h41.2.1)
          have u45 : vk s42 = ((vk s0).1, (vk s0).2) := h41.2.2.1.trans u15
          refine And.intro ⟨by omega, by omega⟩ ?_
          intro s46 e47
          have i48 : Iv s46 := Iv.a1 i43 e47 rfl
          have k49 : Kp s0 s46 := Kx.u1 k44 e47 rfl
          have u50 : vk s46 = ((vk s0).1, (vk s0).2) := vk_k1 u45 e47 rfl
          refine And.intro ⟨by omega, by omega⟩ ?_
          intro v51 e52
          refine And.intro (Nat.le_of_ble_eq_true rfl) (And.intro ⟨3, w9, v26, rfl, by decide, i48⟩ ?_)
          intro v53 s55 h54
          have h54 : Iv s55 ∧ Kp s46 s55 ∧ vk s55 = ((vk s46).1, (vk s46).2) ∧ (True) := h54
          have i56 := h54.1
          have k57 : Kp s0 s55 := Kx.tr k49 (h54.2.1)
          have u58 : vk s55 = ((vk s0).1, (vk s0).2) := h54.2.2.1.trans u50
          intro v59 e60
          intro v61 e62
          have b63 := vg_add e62 (by omega) (by omega)
          exact ⟨rfl, ⟨v51, v59, v61, rfl, (by omega), (by omega), i56, k57, u58⟩, (by show (0 + (4 - v61.toInt) * 1000000000000).toNat < (0 + (4 - w9.toInt) * 1000000000000).toNat; omega)⟩
        · have c25 : ¬ (¬ w9.toInt = 0) := c25
          intro v64 e65
          refine And.intro (Nat.le_of_ble_eq_true rfl) (And.intro ⟨4, v64, rfl, by decide, i13⟩ ?_)
          intro v66 s68 h67
          have h67 : s68 = s12 ∧ (True) := h67
          have q71 := h67.1.symm
          subst q71
          refine And.intro (Nat.le_of_ble_eq_true rfl) (And.intro ⟨4, v66, rfl, by decide, i13⟩ ?_)
          intro v72 s74 h73
          have h73 : s74 = s12 ∧ (True) := h73
          have q77 := h73.1.symm
          subst q77
          intro v78 e79
          refine And.intro (Nat.le_of_ble_eq_true rfl) (And.intro ⟨3, v78, rfl, by decide, i13⟩ ?_)
          intro v80 s82 h81
          have h81 : Iv s82 ∧ Kp s12 s82 ∧ vk s82 = ((vk s12).1, (vk s12).2) ∧ (True) := h81
          have i83 := h81.1
          have k84 : Kp s0 s82 := Kx.tr k14 (h81.2.1)
          have u85 : vk s82 = ((vk s0).1, (vk s0).2) := h81.2.2.1.trans u15
          refine And.intro ⟨by omega, by omega⟩ ?_
          intro s86 e87
          have i88 : Iv s86 := Iv.a1 i83 e87 rfl
          have k89 : Kp s0 s86 := Kx.u1 k84 e87 rfl
          have u90 : vk s86 = ((vk s0).1, (vk s0).2) := vk_k1 u85 e87 rfl
          refine And.intro ⟨by omega, by omega⟩ ?_
          intro v91 e92
          refine And.intro (Nat.le_of_ble_eq_true rfl) (And.intro ⟨3, w9, v66, rfl, by decide, i88⟩ ?_)
          intro v93 s95 h94
          have h94 : Iv s95 ∧ Kp s86 s95 ∧ vk s95 = ((vk s86).1, (vk s86).2) ∧ (True) := h94
          have i96 := h94.1
          have k97 : Kp s0 s95 := Kx.tr k89 (h94.2.1)
          have u98 : vk s95 = ((vk s0).1, (vk s0).2) := h94.2.2.1.trans u90
          intro v99 e100
          intro v101 e102
          have b103 := vg_add e102 (by omega) (by omega)
          exact ⟨rfl, ⟨v91, v99, v101, rfl, (by omega), (by omega), i96, k97, u98⟩, (by show (0 + (4 - v101.toInt) * 1000000000000).toNat < (0 + (4 - w9.toInt) * 1000000000000).toNat; omega)⟩
  ·
    have z0 : (Int32.ofInt 0).toInt = 0 := by decide
    have z1 : (Int32.ofInt 1).toInt = 1 := by decide
    refine ⟨Nat.le_of_ble_eq_true rfl, [(14, [true, false, true, true, true, true, false, false], (fun L t => ∃ (x3 : Int32) (x4 : Int32) (x5 : Int32), L = [some (.ref 22), none, some (.int a2), some (.int x3), some (.int x4), some (.int x5), none, none] ∧ (0 : Int) ≤ x5.toInt ∧ x5.toInt ≤ (4 : Int) ∧ Iv t ∧ Kp s0 t ∧ vk t = ((vk s0).1, (vk s0).2)), (fun L _ => (0 + (4 - (vg_li L 5).toInt) * 1000000000000).toNat))], ?_, List.forall_mem_cons.mpr ⟨?_, fun _ h => absurd h List.not_mem_nil⟩⟩
    ·
      refine And.intro (Nat.le_of_ble_eq_true rfl) (And.intro ⟨23, rfl, by decide, i0⟩ ?_)
      intro v1 s3 h2
      have h2 : s3 = s0 ∧ (True) := h2
      have q6 := h2.1.symm
      subst q6
      exact ⟨rfl, ⟨a1, v1, (Int32.ofInt 0), rfl, (by omega), (by omega), i0, Kx.rf, rfl⟩, trivial⟩
    ·
      intro L s12 hL
      obtain ⟨w7, w8, w9, rfl, b10, b11, i13, k14, u15⟩ := hL
      intro v16 e17
      have g18 : s12.1 23 1 = v16 := by rw [e17]
      have b19 : (1 : Int) ≤ v16.toInt ∧ v16.toInt ≤ 4 := by rw [e17]; exact Iv_23_1 i13
      refine And.intro (fun c20 => ?_) (fun c20 => ?_)
      · have c20 : v16.toInt ≤ w9.toInt := c20
        show Iv s12 ∧ Kp s0 s12 ∧ vk s12 = ((vk s0).1, (vk s0).2) ∧ (True)
        exact ⟨i13, k14, u15, (trivial)⟩
      · have c20 : ¬ (v16.toInt ≤ w9.toInt) := c20
        refine And.intro ⟨by omega, by omega⟩ ?_
        intro v21 e22
        intro v23 e24
        refine And.intro (fun c25 => ?_) (fun c25 => ?_)
        · have c25 : ¬ w9.toInt = 0 := c25
          refine And.intro (Nat.le_of_ble_eq_true rfl) (And.intro ⟨23, v23, rfl, by decide, i13⟩ ?_)
          intro v26 s28 h27
          have h27 : s28 = s12 ∧ (True) := h27
          have q31 := h27.1.symm
          subst q31
          refine And.intro (Nat.le_of_ble_eq_true rfl) (And.intro ⟨23, v26, rfl, by decide, i13⟩ ?_)
          intro v32 s34 h33
          have h33 : s34 = s12 ∧ (True) := h33
          have q37 := h33.1.symm
          subst q37
          intro v38 e39
          refine And.intro (Nat.le_of_ble_eq_true rfl) (And.intro ⟨22, v38, rfl, by decide, i13⟩ ?_)
          intro v40 s42 h41
          have h41 : Iv s42 ∧ Kp s12 s42 ∧ vk s42 = ((vk s12).1, (vk s12).2) ∧ (True) := h41
          have i43 := h41.1
          have k44 : Kp s0 s42 := Kx.tr k14 (h41.2.1)
          have u45 : vk s42 = ((vk s0).1, (vk s0).2) := h41.2.2.1.trans u15
          refine And.intro ⟨by omega, by omega⟩ ?_
          intro s46 e47
          have i48 : Iv s46 := Iv.a1 i43 e47 rfl
          have k49 : Kp s0 s46 := Kx.u1 k44 e47 rfl
          have u50 : vk s46 = ((vk s0).1, (vk s0).2) := vk_k1 u45 e47 rfl
          refine And.intro ⟨by omega, by omega⟩ ?_
          intro v51 e52
          refine And.intro (Nat.le_of_ble_eq_true rfl) (And.intro ⟨22, w9, v26, rfl, by decide, i48⟩ ?_)
          intro v53 s55 h54
          have h54 : Iv s55 ∧ Kp s46 s55 ∧ vk s55 = ((vk s46).1, (vk s46).2) ∧ (True) := h54
          have i56 := h54.1
          have k57 : Kp s0 s55 := Kx.tr k49 (h54.2.1)
          have u58 : vk s55 = ((vk s0).1, (vk s0).2) := h54.2.2.1.trans u50
          intro v59 e60
          intro v61 e62
          have b63 := vg_add e62 (by omega) (by omega)
          exact ⟨rfl, ⟨v51, v59, v61, rfl, (by omega), (by omega), i56, k57, u58⟩, (by show (0 + (4 - v61.toInt) * 1000000000000).toNat < (0 + (4 - w9.toInt) * 1000000000000).toNat; omega)⟩
        · have c25 : ¬ (¬ w9.toInt = 0) := c25
          intro v64 e65
          refine And.intro (Nat.le_of_ble_eq_true rfl) (And.intro ⟨23, v64, rfl, by decide, i13⟩ ?_)
          intro v66 s68 h67
          have h67 : s68 = s12 ∧ (True) := h67
          have q71 := h67.1.symm
          subst q71
          refine And.intro (Nat.le_of_ble_eq_true rfl) (And.intro ⟨23, v66, rfl, by decide, i13⟩ ?_)
          intro v72 s74 h73
          have h73 : s74 = s12 ∧ (True) := h73
          have q77 := h73.1.symm
          subst q77
          intro v78 e79
          refine And.intro (Nat.le_of_ble_eq_true rfl) (And.intro ⟨22, v78, rfl, by decide, i13⟩ ?_)
          intro v80 s82 h81
          have h81 : Iv s82 ∧ Kp s12 s82 ∧ vk s82 = ((vk s12).1, (vk s12).2) ∧ (True) := h81
          have i83 := h81.1
          have k84 : Kp s0 s82 := Kx.tr k14 (h81.2.1)
          have u85 : vk s82 = ((vk s0).1, (vk s0).2) := h81.2.2.1.trans u15
          refine And.intro ⟨by omega, by omega⟩ ?_
          intro s86 e87
          have i88 : Iv s86 := Iv.a1 i83 e87 rfl
          have k89 : Kp s0 s86 := Kx.u1 k84 e87 rfl
          have u90 : vk s86 = ((vk s0).1, (vk s0).2) := vk_k1 u85 e87 rfl
          refine And.intro ⟨by omega, by omega⟩ ?_
          intro v91 e92
          refine And.intro (Nat.le_of_ble_eq_true rfl) (And.intro ⟨22, w9, v66, rfl, by decide, i88⟩ ?_)
          intro v93 s95 h94
          have h94 : Iv s95 ∧ Kp s86 s95 ∧ vk s95 = ((vk s86).1, (vk s86).2) ∧ (True) := h94
          have i96 := h94.1
          have k97 : Kp s0 s95 := Kx.tr k89 (h94.2.1)
          have u98 : vk s95 = ((vk s0).1, (vk s0).2) := h94.2.2.1.trans u90
          intro v99 e100
          intro v101 e102
          have b103 := vg_add e102 (by omega) (by omega)
          exact ⟨rfl, ⟨v91, v99, v101, rfl, (by omega), (by omega), i96, k97, u98⟩, (by show (0 + (4 - v101.toInt) * 1000000000000).toNat < (0 + (4 - w9.toInt) * 1000000000000).toNat; omega)⟩
def o_X5_shapedErrors : List vg_I := [(0, .aload_n 0, 1, 0, 0, 0, 0), (1, .getfield 12, 3, 178, 5, 0, 0), (4, .getfield 134, 3, 144, 6, 1, 0), (7, .tableswitch 73 1 3 #[25, 32, 48], 25, 0, 0, 0, 0), (32, .aload_n 0, 1, 0, 0, 0, 0), (33, .getfield 16, 3, 180, 5, 1, 0), (36, .iconst 0, 1, 0, 0, 0, 0), (37, .iaload, 1, 0, 0, 0, 0), (38, .ireturn, 1, 0, 0, 0, 0), (39, .iconst 2, 1, 0, 0, 0, 0), (40, .aload_n 0, 1, 0, 0, 0, 0), (41, .getfield 16, 3, 180, 5, 1, 0), (44, .iconst 0, 1, 0, 0, 0, 0), (45, .iaload, 1, 0, 0, 0, 0), (46, .imul, 1, 0, 0, 0, 0), (47, .aload_n 0, 1, 0, 0, 0, 0), (48, .getfield 16, 3, 180, 5, 1, 0), (51, .iconst 1, 1, 0, 0, 0, 0), (52, .iaload, 1, 0, 0, 0, 0), (53, .isub, 1, 0, 0, 0, 0), (54, .ireturn, 1, 0, 0, 0, 0), (55, .iconst 3, 1, 0, 0, 0, 0), (56, .aload_n 0, 1, 0, 0, 0, 0), (57, .getfield 16, 3, 180, 5, 1, 0), (60, .iconst 0, 1, 0, 0, 0, 0), (61, .iaload, 1, 0, 0, 0, 0), (62, .imul, 1, 0, 0, 0, 0), (63, .iconst 3, 1, 0, 0, 0, 0), (64, .aload_n 0, 1, 0, 0, 0, 0), (65, .getfield 16, 3, 180, 5, 1, 0), (68, .iconst 1, 1, 0, 0, 0, 0), (69, .iaload, 1, 0, 0, 0, 0), (70, .imul, 1, 0, 0, 0, 0), (71, .isub, 1, 0, 0, 0, 0), (72, .aload_n 0, 1, 0, 0, 0, 0), (73, .getfield 16, 3, 180, 5, 1, 0), (76, .iconst 2, 1, 0, 0, 0, 0), (77, .iaload, 1, 0, 0, 0, 0), (78, .iadd, 1, 0, 0, 0, 0), (79, .ireturn, 1, 0, 0, 0, 0), (80, .iconst 4, 1, 0, 0, 0, 0), (81, .aload_n 0, 1, 0, 0, 0, 0), (82, .getfield 16, 3, 180, 5, 1, 0), (85, .iconst 0, 1, 0, 0, 0, 0), (86, .iaload, 1, 0, 0, 0, 0), (87, .imul, 1, 0, 0, 0, 0), (88, .bipush 6, 2, 0, 0, 0, 0), (90, .aload_n 0, 1, 0, 0, 0, 0), (91, .getfield 16, 3, 180, 5, 1, 0), (94, .iconst 1, 1, 0, 0, 0, 0), (95, .iaload, 1, 0, 0, 0, 0), (96, .imul, 1, 0, 0, 0, 0), (97, .isub, 1, 0, 0, 0, 0), (98, .iconst 4, 1, 0, 0, 0, 0), (99, .aload_n 0, 1, 0, 0, 0, 0), (100, .getfield 16, 3, 180, 5, 1, 0), (103, .iconst 2, 1, 0, 0, 0, 0), (104, .iaload, 1, 0, 0, 0, 0), (105, .imul, 1, 0, 0, 0, 0), (106, .iadd, 1, 0, 0, 0, 0), (107, .aload_n 0, 1, 0, 0, 0, 0), (108, .getfield 16, 3, 180, 5, 1, 0), (111, .iconst 3, 1, 0, 0, 0, 0), (112, .iaload, 1, 0, 0, 0, 0), (113, .isub, 1, 0, 0, 0, 0), (114, .ireturn, 1, 0, 0, 0, 0)]
set_option maxRecDepth 100000 in
set_option maxHeartbeats 4000000 in
theorem c_X5_shapedErrors (l : Launch) (G : vg_G) (hp : vg_Hp G) : vg_Ct l G vg_sh r_X5_shapedErrors := by
  refine vg_meth hp vg_sh_ok r_X5_shapedErrors k_X5_shapedErrors rfl (fun h => by cases h) o_X5_shapedErrors [] false (by decide +kernel) (by decide +kernel) ⟨_, _, rfl, rfl⟩ (fun _ h => absurd h List.not_mem_nil) (fun h => by cases h) 600 ?_
  intro as s0 hpre
  obtain ⟨r, rfl, hr, i0⟩ := hpre
  simp only [List.mem_cons, List.not_mem_nil, or_false] at hr
  rcases hr with rfl | rfl
  ·
    have z0 : (Int32.ofInt 0).toInt = 0 := by decide
    have z1 : (Int32.ofInt 1).toInt = 1 := by decide
    have z2 : (Int32.ofInt 2).toInt = 2 := by decide
    have z3 : (Int32.ofInt 3).toInt = 3 := by decide
    have z4 : (Int32.ofInt 4).toInt = 4 := by decide
    have z6 : (Int32.ofInt 6).toInt = 6 := by decide
    refine ⟨Nat.le_of_ble_eq_true rfl, [], ?_, fun _ h => absurd h List.not_mem_nil⟩
    ·
      intro v1 e2
      have g3 : s0.1 4 1 = v1 := by rw [e2]
      have b4 : (1 : Int) ≤ v1.toInt ∧ v1.toInt ≤ 4 := by rw [e2]; exact Iv_4_1 i0
      refine And.intro (fun c5 => ?_) ?_
      · have c5 : v1.toInt < (1) ∨ (3) < v1.toInt := c5
        refine And.intro ⟨by omega, by omega⟩ ?_
        intro v6 e7
        intro v8 e9
        refine And.intro ⟨by omega, by omega⟩ ?_
        intro v10 e11
        intro v12 e13
        intro v14 e15
        refine And.intro ⟨by omega, by omega⟩ ?_
        intro v16 e17
        intro v18 e19
        intro v20 e21
        refine And.intro ⟨by omega, by omega⟩ ?_
        intro v22 e23
        intro v24 e25
        show s0 = s0 ∧ (True)
        exact ⟨rfl, (trivial)⟩
      refine And.intro (fun c26 => ?_) ?_
      · have c26 : v1.toInt = (1) := c26
        refine And.intro ⟨by omega, by omega⟩ ?_
        intro v27 e28
        show s0 = s0 ∧ (True)
        exact ⟨rfl, (trivial)⟩
      refine And.intro (fun c29 => ?_) ?_
      · have c29 : v1.toInt = (2) := c29
        refine And.intro ⟨by omega, by omega⟩ ?_
        intro v30 e31
        intro v32 e33
        refine And.intro ⟨by omega, by omega⟩ ?_
        intro v34 e35
        intro v36 e37
        show s0 = s0 ∧ (True)
        exact ⟨rfl, (trivial)⟩
      refine And.intro (fun c38 => ?_) ?_
      · have c38 : v1.toInt = (3) := c38
        refine And.intro ⟨by omega, by omega⟩ ?_
        intro v39 e40
        intro v41 e42
        refine And.intro ⟨by omega, by omega⟩ ?_
        intro v43 e44
        intro v45 e46
        intro v47 e48
        refine And.intro ⟨by omega, by omega⟩ ?_
        intro v49 e50
        intro v51 e52
        show s0 = s0 ∧ (True)
        exact ⟨rfl, (trivial)⟩
      exact trivial
  ·
    have z0 : (Int32.ofInt 0).toInt = 0 := by decide
    have z1 : (Int32.ofInt 1).toInt = 1 := by decide
    have z2 : (Int32.ofInt 2).toInt = 2 := by decide
    have z3 : (Int32.ofInt 3).toInt = 3 := by decide
    have z4 : (Int32.ofInt 4).toInt = 4 := by decide
    have z6 : (Int32.ofInt 6).toInt = 6 := by decide
    refine ⟨Nat.le_of_ble_eq_true rfl, [], ?_, fun _ h => absurd h List.not_mem_nil⟩
    ·
      intro v1 e2
      have g3 : s0.1 23 1 = v1 := by rw [e2]
      have b4 : (1 : Int) ≤ v1.toInt ∧ v1.toInt ≤ 4 := by rw [e2]; exact Iv_23_1 i0
      refine And.intro (fun c5 => ?_) ?_
      · have c5 : v1.toInt < (1) ∨ (3) < v1.toInt := c5
        refine And.intro ⟨by omega, by omega⟩ ?_
        intro v6 e7
        intro v8 e9
        refine And.intro ⟨by omega, by omega⟩ ?_
        intro v10 e11
        intro v12 e13
        intro v14 e15
        refine And.intro ⟨by omega, by omega⟩ ?_
        intro v16 e17
        intro v18 e19
        intro v20 e21
        refine And.intro ⟨by omega, by omega⟩ ?_
        intro v22 e23
        intro v24 e25
        show s0 = s0 ∧ (True)
        exact ⟨rfl, (trivial)⟩
      refine And.intro (fun c26 => ?_) ?_
      · have c26 : v1.toInt = (1) := c26
        refine And.intro ⟨by omega, by omega⟩ ?_
        intro v27 e28
        show s0 = s0 ∧ (True)
        exact ⟨rfl, (trivial)⟩
      refine And.intro (fun c29 => ?_) ?_
      · have c29 : v1.toInt = (2) := c29
        refine And.intro ⟨by omega, by omega⟩ ?_
        intro v30 e31
        intro v32 e33
        refine And.intro ⟨by omega, by omega⟩ ?_
        intro v34 e35
        intro v36 e37
        show s0 = s0 ∧ (True)
        exact ⟨rfl, (trivial)⟩
      refine And.intro (fun c38 => ?_) ?_
      · have c38 : v1.toInt = (3) := c38
        refine And.intro ⟨by omega, by omega⟩ ?_
        intro v39 e40
        intro v41 e42
        refine And.intro ⟨by omega, by omega⟩ ?_
        intro v43 e44
        intro v45 e46
        intro v47 e48
        refine And.intro ⟨by omega, by omega⟩ ?_
        intro v49 e50
        intro v51 e52
        show s0 = s0 ∧ (True)
        exact ⟨rfl, (trivial)⟩
      exact trivial
def o_X5_outOfErrors : List vg_I := [(0, .iload_n 1, 1, 0, 0, 0, 0), (1, .aload_n 0, 1, 0, 0, 0, 0), (2, .invokevirtual 125, 3, 0, 5, 0, 701), (5, .iadd, 1, 0, 0, 0, 0), (6, .istore_n 3, 1, 0, 0, 0, 0), (7, .aload_n 0, 1, 0, 0, 0, 0), (8, .getfield 12, 3, 178, 5, 0, 0), (11, .iload_n 3, 1, 0, 0, 0, 0), (12, .iload_n 2, 1, 0, 0, 0, 0), (13, .iadd, 1, 0, 0, 0, 0), (14, .invokevirtual 128, 3, 1, 6, 1, 672), (17, .istore 4, 2, 0, 0, 0, 0), (19, .aload_n 0, 1, 0, 0, 0, 0), (20, .iload_n 3, 1, 0, 0, 0, 0), (21, .aload_n 0, 1, 0, 0, 0, 0), (22, .getfield 12, 3, 178, 5, 0, 0), (25, .iload 4, 2, 0, 0, 0, 0), (27, .invokevirtual 88, 3, 2, 6, 1, 705), (30, .isub, 1, 0, 0, 0, 0), (31, .invokevirtual 131, 3, 3, 5, 1, 661), (34, .istore 5, 2, 0, 0, 0, 0), (36, .aload_n 0, 1, 0, 0, 0, 0), (37, .getfield 12, 3, 178, 5, 0, 0), (40, .getfield 134, 3, 144, 6, 1, 0), (43, .iconst 1, 1, 0, 0, 0, 0), (44, .isub, 1, 0, 0, 0, 0), (45, .istore 6, 2, 0, 0, 0, 0), (47, .iload 6, 2, 0, 0, 0, 0), (49, .ifCond .le 25, 3, 0, 0, 0, 0), (52, .aload_n 0, 1, 0, 0, 0, 0), (53, .getfield 16, 3, 180, 5, 1, 0), (56, .iload 6, 2, 0, 0, 0, 0), (58, .aload_n 0, 1, 0, 0, 0, 0), (59, .getfield 16, 3, 180, 5, 1, 0), (62, .iload 6, 2, 0, 0, 0, 0), (64, .iconst 1, 1, 0, 0, 0, 0), (65, .isub, 1, 0, 0, 0, 0), (66, .iaload, 1, 0, 0, 0, 0), (67, .iastore, 1, 0, 0, 0, 0), (68, .iinc 6 (-1), 3, 0, 0, 0, 0), (71, .goto (-24), 3, 0, 0, 0, 0), (74, .aload_n 0, 1, 0, 0, 0, 0), (75, .getfield 16, 3, 180, 5, 1, 0), (78, .iconst 0, 1, 0, 0, 0, 0), (79, .iload 5, 2, 0, 0, 0, 0), (81, .iastore, 1, 0, 0, 0, 0), (82, .iload 4, 2, 0, 0, 0, 0), (84, .ireturn, 1, 0, 0, 0, 0)]
set_option maxRecDepth 100000 in
set_option maxHeartbeats 4000000 in
theorem c_X5_outOfErrors (l : Launch) (G : vg_G) (hp : vg_Hp G) : vg_Ct l G vg_sh r_X5_outOfErrors := by
  refine vg_meth hp vg_sh_ok r_X5_outOfErrors k_X5_outOfErrors rfl (fun h => by cases h) o_X5_outOfErrors [r_X5_shapedErrors, r_X6_nearest, r_X6_valueOf, r_X5_hold] false (by decide +kernel) (by decide +kernel) ⟨_, _, rfl, rfl⟩ (List.forall_mem_cons.mpr ⟨⟨c_X5_shapedErrors l G hp, Nat.le_of_ble_eq_true rfl, Nat.le_of_ble_eq_true rfl⟩, List.forall_mem_cons.mpr ⟨⟨c_X6_nearest l G hp, Nat.le_of_ble_eq_true rfl, Nat.le_of_ble_eq_true rfl⟩, List.forall_mem_cons.mpr ⟨⟨c_X6_valueOf l G hp, Nat.le_of_ble_eq_true rfl, Nat.le_of_ble_eq_true rfl⟩, List.forall_mem_cons.mpr ⟨⟨c_X5_hold l G hp, Nat.le_of_ble_eq_true rfl, Nat.le_of_ble_eq_true rfl⟩, fun _ h => absurd h List.not_mem_nil⟩⟩⟩⟩) (fun h => by cases h) 600 ?_
  intro as s0 hpre
  obtain ⟨r, a1, a2, rfl, hr, i0⟩ := hpre
  simp only [List.mem_cons, List.not_mem_nil, or_false] at hr
  rcases hr with rfl | rfl
  ·
    have zm1 : (Int32.ofInt (-1)).toInt = -1 := by decide
    have z0 : (Int32.ofInt 0).toInt = 0 := by decide
    have z1 : (Int32.ofInt 1).toInt = 1 := by decide
    refine ⟨Nat.le_of_ble_eq_true rfl, [(47, [true, false, false, false, true, true, true], (fun L t => ∃ (x4 : Int32) (x5 : Int32) (x6 : Int32), L = [some (.ref 3), none, none, none, some (.int x4), some (.int x5), some (.int x6)] ∧ (0 : Int) ≤ x6.toInt ∧ x6.toInt ≤ (3 : Int) ∧ Iv t ∧ Kp s0 t ∧ vk t = ((vk s0).1, (vk s0).2)), (fun L _ => (0 + ((vg_li L 6).toInt - (0)) * 1000000000000).toNat))], ?_, List.forall_mem_cons.mpr ⟨?_, fun _ h => absurd h List.not_mem_nil⟩⟩
    ·
      refine And.intro (Nat.le_of_ble_eq_true rfl) (And.intro ⟨3, rfl, by decide, i0⟩ ?_)
      intro v1 s3 h2
      have h2 : s3 = s0 ∧ (True) := h2
      have q6 := h2.1.symm
      subst q6
      intro v7 e8
      intro v9 e10
      refine And.intro (Nat.le_of_ble_eq_true rfl) (And.intro ⟨4, v9, rfl, by decide, i0⟩ ?_)
      intro v11 s13 h12
      have h12 : s13 = s0 ∧ (True) := h12
      have q16 := h12.1.symm
      subst q16
      refine And.intro (Nat.le_of_ble_eq_true rfl) (And.intro ⟨4, v11, rfl, by decide, i0⟩ ?_)
      intro v17 s19 h18
      have h18 : s19 = s0 ∧ (True) := h18
      have q22 := h18.1.symm
      subst q22
      intro v23 e24
      refine And.intro (Nat.le_of_ble_eq_true rfl) (And.intro ⟨3, v23, rfl, by decide, i0⟩ ?_)
      intro v25 s27 h26
      have h26 : Iv s27 ∧ Kp s0 s27 ∧ vk s27 = ((vk s0).1, (vk s0).2) ∧ (True) := h26
      have i28 := h26.1
      have k29 : Kp s0 s27 := Kx.tr Kx.rf (h26.2.1)
      have u30 : vk s27 = ((vk s0).1, (vk s0).2) := h26.2.2.1.trans rfl
      intro v31 e32
      have g33 : s27.1 4 1 = v31 := by rw [e32]
      have b34 : (1 : Int) ≤ v31.toInt ∧ v31.toInt ≤ 4 := by rw [e32]; exact Iv_4_1 i28
      intro v35 e36
      have b37 := vg_sub e36 (by omega) (by omega)
      exact ⟨rfl, ⟨v11, v25, v35, rfl, (by omega), (by omega), i28, k29, u30⟩, trivial⟩
    ·
      intro L s43 hL
      obtain ⟨w38, w39, w40, rfl, b41, b42, i44, k45, u46⟩ := hL
      refine And.intro (fun c47 => ?_) (fun c47 => ?_)
      · have c47 : w40.toInt ≤ 0 := c47
        refine And.intro ⟨by omega, by omega⟩ ?_
        intro s48 e49
        have i50 : Iv s48 := Iv.a1 i44 e49 rfl
        have k51 : Kp s0 s48 := Kx.u1 k45 e49 rfl
        have u52 : vk s48 = ((vk s0).1, (vk s0).2) := vk_k1 u46 e49 rfl
        show Iv s48 ∧ Kp s0 s48 ∧ vk s48 = ((vk s0).1, (vk s0).2) ∧ (True)
        exact ⟨i50, k51, u52, (trivial)⟩
      · have c47 : ¬ (w40.toInt ≤ 0) := c47
        intro v53 e54
        have b55 := vg_sub e54 (by omega) (by omega)
        refine And.intro ⟨by omega, by omega⟩ ?_
        intro v56 e57
        refine And.intro ⟨by omega, by omega⟩ ?_
        intro s58 e59
        have i60 : Iv s58 := Iv.a1 i44 e59 rfl
        have k61 : Kp s0 s58 := Kx.u1 k45 e59 rfl
        have u62 : vk s58 = ((vk s0).1, (vk s0).2) := vk_k1 u46 e59 rfl
        intro v63 e64
        have b65 := vg_add e64 (by omega) (by omega)
        exact ⟨rfl, ⟨w38, w39, v63, rfl, (by omega), (by omega), i60, k61, u62⟩, (by show (0 + (v63.toInt - (0)) * 1000000000000).toNat < (0 + (w40.toInt - (0)) * 1000000000000).toNat; omega)⟩
  ·
    have zm1 : (Int32.ofInt (-1)).toInt = -1 := by decide
    have z0 : (Int32.ofInt 0).toInt = 0 := by decide
    have z1 : (Int32.ofInt 1).toInt = 1 := by decide
    refine ⟨Nat.le_of_ble_eq_true rfl, [(47, [true, false, false, false, true, true, true], (fun L t => ∃ (x4 : Int32) (x5 : Int32) (x6 : Int32), L = [some (.ref 22), none, none, none, some (.int x4), some (.int x5), some (.int x6)] ∧ (0 : Int) ≤ x6.toInt ∧ x6.toInt ≤ (3 : Int) ∧ Iv t ∧ Kp s0 t ∧ vk t = ((vk s0).1, (vk s0).2)), (fun L _ => (0 + ((vg_li L 6).toInt - (0)) * 1000000000000).toNat))], ?_, List.forall_mem_cons.mpr ⟨?_, fun _ h => absurd h List.not_mem_nil⟩⟩
    ·
      refine And.intro (Nat.le_of_ble_eq_true rfl) (And.intro ⟨22, rfl, by decide, i0⟩ ?_)
      intro v1 s3 h2
      have h2 : s3 = s0 ∧ (True) := h2
      have q6 := h2.1.symm
      subst q6
      intro v7 e8
      intro v9 e10
      refine And.intro (Nat.le_of_ble_eq_true rfl) (And.intro ⟨23, v9, rfl, by decide, i0⟩ ?_)
      intro v11 s13 h12
      have h12 : s13 = s0 ∧ (True) := h12
      have q16 := h12.1.symm
      subst q16
      refine And.intro (Nat.le_of_ble_eq_true rfl) (And.intro ⟨23, v11, rfl, by decide, i0⟩ ?_)
      intro v17 s19 h18
      have h18 : s19 = s0 ∧ (True) := h18
      have q22 := h18.1.symm
      subst q22
      intro v23 e24
      refine And.intro (Nat.le_of_ble_eq_true rfl) (And.intro ⟨22, v23, rfl, by decide, i0⟩ ?_)
      intro v25 s27 h26
      have h26 : Iv s27 ∧ Kp s0 s27 ∧ vk s27 = ((vk s0).1, (vk s0).2) ∧ (True) := h26
      have i28 := h26.1
      have k29 : Kp s0 s27 := Kx.tr Kx.rf (h26.2.1)
      have u30 : vk s27 = ((vk s0).1, (vk s0).2) := h26.2.2.1.trans rfl
      intro v31 e32
      have g33 : s27.1 23 1 = v31 := by rw [e32]
      have b34 : (1 : Int) ≤ v31.toInt ∧ v31.toInt ≤ 4 := by rw [e32]; exact Iv_23_1 i28
      intro v35 e36
      have b37 := vg_sub e36 (by omega) (by omega)
      exact ⟨rfl, ⟨v11, v25, v35, rfl, (by omega), (by omega), i28, k29, u30⟩, trivial⟩
    ·
      intro L s43 hL
      obtain ⟨w38, w39, w40, rfl, b41, b42, i44, k45, u46⟩ := hL
      refine And.intro (fun c47 => ?_) (fun c47 => ?_)
      · have c47 : w40.toInt ≤ 0 := c47
        refine And.intro ⟨by omega, by omega⟩ ?_
        intro s48 e49
        have i50 : Iv s48 := Iv.a1 i44 e49 rfl
        have k51 : Kp s0 s48 := Kx.u1 k45 e49 rfl
        have u52 : vk s48 = ((vk s0).1, (vk s0).2) := vk_k1 u46 e49 rfl
        show Iv s48 ∧ Kp s0 s48 ∧ vk s48 = ((vk s0).1, (vk s0).2) ∧ (True)
        exact ⟨i50, k51, u52, (trivial)⟩
      · have c47 : ¬ (w40.toInt ≤ 0) := c47
        intro v53 e54
        have b55 := vg_sub e54 (by omega) (by omega)
        refine And.intro ⟨by omega, by omega⟩ ?_
        intro v56 e57
        refine And.intro ⟨by omega, by omega⟩ ?_
        intro s58 e59
        have i60 : Iv s58 := Iv.a1 i44 e59 rfl
        have k61 : Kp s0 s58 := Kx.u1 k45 e59 rfl
        have u62 : vk s58 = ((vk s0).1, (vk s0).2) := vk_k1 u46 e59 rfl
        intro v63 e64
        have b65 := vg_add e64 (by omega) (by omega)
        exact ⟨rfl, ⟨w38, w39, v63, rfl, (by omega), (by omega), i60, k61, u62⟩, (by show (0 + (v63.toInt - (0)) * 1000000000000).toNat < (0 + (w40.toInt - (0)) * 1000000000000).toNat; omega)⟩
def o_X5_outOf : List vg_I := [(0, .aload_n 0, 1, 0, 0, 0, 0), (1, .invokevirtual 111, 3, 0, 5, 0, 649), (4, .istore_n 2, 1, 0, 0, 0, 0), (5, .aload_n 0, 1, 0, 0, 0, 0), (6, .getfield 12, 3, 178, 5, 0, 0), (9, .getfield 108, 3, 141, 6, 0, 0), (12, .lookupswitch 42 #[(1, 28), (2, 35)], 28, 0, 0, 0, 0), (40, .aload_n 0, 1, 0, 0, 0, 0), (41, .iload_n 1, 1, 0, 0, 0, 0), (42, .iload_n 2, 1, 0, 0, 0, 0), (43, .invokevirtual 115, 3, 1, 5, 2, 657), (46, .ireturn, 1, 0, 0, 0, 0), (47, .aload_n 0, 1, 0, 0, 0, 0), (48, .iload_n 1, 1, 0, 0, 0, 0), (49, .iload_n 2, 1, 0, 0, 0, 0), (50, .invokevirtual 119, 3, 2, 5, 2, 681), (53, .ireturn, 1, 0, 0, 0, 0), (54, .aload_n 0, 1, 0, 0, 0, 0), (55, .iload_n 1, 1, 0, 0, 0, 0), (56, .iload_n 2, 1, 0, 0, 0, 0), (57, .invokevirtual 122, 3, 3, 5, 2, 697), (60, .ireturn, 1, 0, 0, 0, 0)]
set_option maxRecDepth 100000 in
set_option maxHeartbeats 4000000 in
theorem c_X5_outOf (l : Launch) (G : vg_G) (hp : vg_Hp G) : vg_Ct l G vg_sh r_X5_outOf := by
  refine vg_meth hp vg_sh_ok r_X5_outOf k_X5_outOf rfl (fun h => by cases h) o_X5_outOf [r_X5_drawDither, r_X5_outOfSums, r_X5_outOfCascade, r_X5_outOfErrors] false (by decide +kernel) (by decide +kernel) ⟨_, _, rfl, rfl⟩ (List.forall_mem_cons.mpr ⟨⟨c_X5_drawDither l G hp, Nat.le_of_ble_eq_true rfl, Nat.le_of_ble_eq_true rfl⟩, List.forall_mem_cons.mpr ⟨⟨c_X5_outOfSums l G hp, Nat.le_of_ble_eq_true rfl, Nat.le_of_ble_eq_true rfl⟩, List.forall_mem_cons.mpr ⟨⟨c_X5_outOfCascade l G hp, Nat.le_of_ble_eq_true rfl, Nat.le_of_ble_eq_true rfl⟩, List.forall_mem_cons.mpr ⟨⟨c_X5_outOfErrors l G hp, Nat.le_of_ble_eq_true rfl, Nat.le_of_ble_eq_true rfl⟩, fun _ h => absurd h List.not_mem_nil⟩⟩⟩⟩) (fun h => by cases h) 600 ?_
  intro as s0 hpre
  obtain ⟨r, a1, rfl, hr, i0⟩ := hpre
  simp only [List.mem_cons, List.not_mem_nil, or_false] at hr
  rcases hr with rfl | rfl
  ·
    refine ⟨Nat.le_of_ble_eq_true rfl, [], ?_, fun _ h => absurd h List.not_mem_nil⟩
    ·
      refine And.intro (Nat.le_of_ble_eq_true rfl) (And.intro ⟨3, rfl, by decide, i0⟩ ?_)
      intro v1 s3 h2
      have h2 : Iv s3 ∧ Kp s0 s3 ∧ vk s3 = ((vk s0).1, (vk s0).2) ∧ (True) := h2
      have i4 := h2.1
      have k5 : Kp s0 s3 := Kx.tr Kx.rf (h2.2.1)
      have u6 : vk s3 = ((vk s0).1, (vk s0).2) := h2.2.2.1.trans rfl
      intro v7 e8
      have g9 : s3.1 4 0 = v7 := by rw [e8]
      refine And.intro (fun c10 => ?_) (fun c10 => ?_)
      · have c10 : v7.toInt = (1) := c10
        refine And.intro (Nat.le_of_ble_eq_true rfl) (And.intro ⟨3, a1, v1, rfl, by decide, i4⟩ ?_)
        intro v11 s13 h12
        have h12 : Iv s13 ∧ Kp s3 s13 ∧ vk s13 = ((vk s3).1, (vk s3).2) ∧ (True) := h12
        have i14 := h12.1
        have k15 : Kp s0 s13 := Kx.tr k5 (h12.2.1)
        have u16 : vk s13 = ((vk s0).1, (vk s0).2) := h12.2.2.1.trans u6
        show Iv s13 ∧ Kp s0 s13 ∧ vk s13 = ((vk s0).1, (vk s0).2) ∧ (True)
        exact ⟨i14, k15, u16, (trivial)⟩
      have c10 : ¬ (v7.toInt = (1)) := c10
      refine And.intro (fun c17 => ?_) (fun c17 => ?_)
      · have c17 : v7.toInt = (2) := c17
        refine And.intro (Nat.le_of_ble_eq_true rfl) (And.intro ⟨3, a1, v1, rfl, by decide, i4⟩ ?_)
        intro v18 s20 h19
        have h19 : Iv s20 ∧ Kp s3 s20 ∧ vk s20 = ((vk s3).1, (vk s3).2) ∧ (True) := h19
        have i21 := h19.1
        have k22 : Kp s0 s20 := Kx.tr k5 (h19.2.1)
        have u23 : vk s20 = ((vk s0).1, (vk s0).2) := h19.2.2.1.trans u6
        show Iv s20 ∧ Kp s0 s20 ∧ vk s20 = ((vk s0).1, (vk s0).2) ∧ (True)
        exact ⟨i21, k22, u23, (trivial)⟩
      have c17 : ¬ (v7.toInt = (2)) := c17
      refine And.intro (Nat.le_of_ble_eq_true rfl) (And.intro ⟨3, a1, v1, rfl, by decide, i4⟩ ?_)
      intro v24 s26 h25
      have h25 : Iv s26 ∧ Kp s3 s26 ∧ vk s26 = ((vk s3).1, (vk s3).2) ∧ (True) := h25
      have i27 := h25.1
      have k28 : Kp s0 s26 := Kx.tr k5 (h25.2.1)
      have u29 : vk s26 = ((vk s0).1, (vk s0).2) := h25.2.2.1.trans u6
      show Iv s26 ∧ Kp s0 s26 ∧ vk s26 = ((vk s0).1, (vk s0).2) ∧ (True)
      exact ⟨i27, k28, u29, (trivial)⟩
  ·
    refine ⟨Nat.le_of_ble_eq_true rfl, [], ?_, fun _ h => absurd h List.not_mem_nil⟩
    ·
      refine And.intro (Nat.le_of_ble_eq_true rfl) (And.intro ⟨22, rfl, by decide, i0⟩ ?_)
      intro v1 s3 h2
      have h2 : Iv s3 ∧ Kp s0 s3 ∧ vk s3 = ((vk s0).1, (vk s0).2) ∧ (True) := h2
      have i4 := h2.1
      have k5 : Kp s0 s3 := Kx.tr Kx.rf (h2.2.1)
      have u6 : vk s3 = ((vk s0).1, (vk s0).2) := h2.2.2.1.trans rfl
      intro v7 e8
      have g9 : s3.1 23 0 = v7 := by rw [e8]
      refine And.intro (fun c10 => ?_) (fun c10 => ?_)
      · have c10 : v7.toInt = (1) := c10
        refine And.intro (Nat.le_of_ble_eq_true rfl) (And.intro ⟨22, a1, v1, rfl, by decide, i4⟩ ?_)
        intro v11 s13 h12
        have h12 : Iv s13 ∧ Kp s3 s13 ∧ vk s13 = ((vk s3).1, (vk s3).2) ∧ (True) := h12
        have i14 := h12.1
        have k15 : Kp s0 s13 := Kx.tr k5 (h12.2.1)
        have u16 : vk s13 = ((vk s0).1, (vk s0).2) := h12.2.2.1.trans u6
        show Iv s13 ∧ Kp s0 s13 ∧ vk s13 = ((vk s0).1, (vk s0).2) ∧ (True)
        exact ⟨i14, k15, u16, (trivial)⟩
      have c10 : ¬ (v7.toInt = (1)) := c10
      refine And.intro (fun c17 => ?_) (fun c17 => ?_)
      · have c17 : v7.toInt = (2) := c17
        refine And.intro (Nat.le_of_ble_eq_true rfl) (And.intro ⟨22, a1, v1, rfl, by decide, i4⟩ ?_)
        intro v18 s20 h19
        have h19 : Iv s20 ∧ Kp s3 s20 ∧ vk s20 = ((vk s3).1, (vk s3).2) ∧ (True) := h19
        have i21 := h19.1
        have k22 : Kp s0 s20 := Kx.tr k5 (h19.2.1)
        have u23 : vk s20 = ((vk s0).1, (vk s0).2) := h19.2.2.1.trans u6
        show Iv s20 ∧ Kp s0 s20 ∧ vk s20 = ((vk s0).1, (vk s0).2) ∧ (True)
        exact ⟨i21, k22, u23, (trivial)⟩
      have c17 : ¬ (v7.toInt = (2)) := c17
      refine And.intro (Nat.le_of_ble_eq_true rfl) (And.intro ⟨22, a1, v1, rfl, by decide, i4⟩ ?_)
      intro v24 s26 h25
      have h25 : Iv s26 ∧ Kp s3 s26 ∧ vk s26 = ((vk s3).1, (vk s3).2) ∧ (True) := h25
      have i27 := h25.1
      have k28 : Kp s0 s26 := Kx.tr k5 (h25.2.1)
      have u29 : vk s26 = ((vk s0).1, (vk s0).2) := h25.2.2.1.trans u6
      show Iv s26 ∧ Kp s0 s26 ∧ vk s26 = ((vk s0).1, (vk s0).2) ∧ (True)
      exact ⟨i27, k28, u29, (trivial)⟩
def o_X5_advance : List vg_I := [(0, .aload_n 0, 1, 0, 0, 0, 0), (1, .iconst 0, 1, 0, 0, 0, 0), (2, .putfield 80, 3, 191, 5, 7, 1), (5, .aload_n 0, 1, 0, 0, 0, 0), (6, .iload_n 1, 1, 0, 0, 0, 0), (7, .invokevirtual 84, 3, 0, 5, 1, 645), (10, .istore_n 2, 1, 0, 0, 0, 0), (11, .aload_n 0, 1, 0, 0, 0, 0), (12, .aload_n 0, 1, 0, 0, 0, 0), (13, .getfield 12, 3, 178, 5, 0, 0), (16, .iload_n 2, 1, 0, 0, 0, 0), (17, .invokevirtual 88, 3, 1, 6, 1, 705), (20, .putfield 29, 3, 183, 5, 3, 0), (23, .aload_n 0, 1, 0, 0, 0, 0), (24, .getfield 80, 3, 191, 5, 7, 0), (27, .ifCond .eq 31, 3, 0, 0, 0, 0), (30, .aload_n 0, 1, 0, 0, 0, 0), (31, .dup, 1, 0, 0, 0, 0), (32, .getfield 42, 3, 189, 5, 6, 0), (35, .iconst 1, 1, 0, 0, 0, 0), (36, .iadd, 1, 0, 0, 0, 0), (37, .putfield 42, 3, 189, 5, 6, 0), (40, .aload_n 0, 1, 0, 0, 0, 0), (41, .getfield 12, 3, 178, 5, 0, 0), (44, .getfield 91, 3, 154, 6, 5, 0), (47, .ifCond .eq 11, 3, 0, 0, 0, 0), (50, .aload_n 0, 1, 0, 0, 0, 0), (51, .getfield 16, 3, 180, 5, 1, 0), (54, .iconst 0, 1, 0, 0, 0, 0), (55, .invokestatic 23, 3, 2, 1, 2, 500), (58, .aload_n 0, 1, 0, 0, 0, 0), (59, .dup, 1, 0, 0, 0, 0), (60, .getfield 48, 3, 194, 5, 9, 0), (63, .iload_n 1, 1, 0, 0, 0, 0), (64, .i2l, 1, 0, 0, 0, 0), (65, .ladd, 1, 0, 0, 0, 0), (66, .putfield 48, 3, 194, 5, 9, 2), (69, .aload_n 0, 1, 0, 0, 0, 0), (70, .dup, 1, 0, 0, 0, 0), (71, .getfield 52, 3, 196, 5, 10, 0), (74, .aload_n 0, 1, 0, 0, 0, 0), (75, .getfield 29, 3, 183, 5, 3, 0), (78, .i2l, 1, 0, 0, 0, 0), (79, .ladd, 1, 0, 0, 0, 0), (80, .putfield 52, 3, 196, 5, 10, 2), (83, .aload_n 0, 1, 0, 0, 0, 0), (84, .dup, 1, 0, 0, 0, 0), (85, .getfield 55, 3, 198, 5, 11, 0), (88, .iload_n 2, 1, 0, 0, 0, 0), (89, .i2l, 1, 0, 0, 0, 0), (90, .ladd, 1, 0, 0, 0, 0), (91, .putfield 55, 3, 198, 5, 11, 2), (94, .aload_n 0, 1, 0, 0, 0, 0), (95, .aload_n 0, 1, 0, 0, 0, 0), (96, .getfield 61, 3, 202, 5, 13, 0), (99, .aload_n 0, 1, 0, 0, 0, 0), (100, .invokevirtual 94, 3, 3, 5, 0, 711), (103, .invokestatic 98, 3, 4, 1, 1, 715), (106, .invokestatic 104, 3, 5, 1, 2, 718), (109, .putfield 61, 3, 202, 5, 13, 2), (112, .iload_n 2, 1, 0, 0, 0, 0), (113, .ireturn, 1, 0, 0, 0, 0)]
set_option maxRecDepth 100000 in
set_option maxHeartbeats 4000000 in
theorem c_X5_advance (l : Launch) (G : vg_G) (hp : vg_Hp G) : vg_Ct l G vg_sh r_X5_advance := by
  refine vg_meth hp vg_sh_ok r_X5_advance k_X5_advance rfl (fun h => by cases h) o_X5_advance [r_X5_outOf, r_X6_valueOf, r_J7_fill_53178, r_X5_gapNow, r_J9_abs_067f4, r_J9_max_f86c9] false (by decide +kernel) (by decide +kernel) ⟨_, _, rfl, rfl⟩ (List.forall_mem_cons.mpr ⟨⟨c_X5_outOf l G hp, Nat.le_of_ble_eq_true rfl, Nat.le_of_ble_eq_true rfl⟩, List.forall_mem_cons.mpr ⟨⟨c_X6_valueOf l G hp, Nat.le_of_ble_eq_true rfl, Nat.le_of_ble_eq_true rfl⟩, List.forall_mem_cons.mpr ⟨⟨c_J7_fill_53178 l G hp, Nat.le_of_ble_eq_true rfl, Nat.le_of_ble_eq_true rfl⟩, List.forall_mem_cons.mpr ⟨⟨c_X5_gapNow l G hp, Nat.le_of_ble_eq_true rfl, Nat.le_of_ble_eq_true rfl⟩, List.forall_mem_cons.mpr ⟨⟨c_J9_abs_067f4 l G hp, Nat.le_of_ble_eq_true rfl, Nat.le_of_ble_eq_true rfl⟩, List.forall_mem_cons.mpr ⟨⟨c_J9_max_f86c9 l G hp, Nat.le_of_ble_eq_true rfl, Nat.le_of_ble_eq_true rfl⟩, fun _ h => absurd h List.not_mem_nil⟩⟩⟩⟩⟩⟩) (fun h => by cases h) 600 ?_
  intro as s0 hpre
  obtain ⟨r, a1, rfl, hr, i0⟩ := hpre
  simp only [List.mem_cons, List.not_mem_nil, or_false] at hr
  rcases hr with rfl | rfl
  ·
    have z0 : (Int32.ofInt 0).toInt = 0 := by decide
    have z1 : (Int32.ofInt 1).toInt = 1 := by decide
    refine ⟨Nat.le_of_ble_eq_true rfl, [], ?_, fun _ h => absurd h List.not_mem_nil⟩
    ·
      refine And.intro (by first | exact Or.inl rfl | exact Or.inr rfl | exact vg_01 (by omega) (by omega)) ?_
      intro s1 e2
      have i3 : Iv s1 := Iv.u1 i0 e2 rfl
      have k4 : Kp s0 s1 := Kx.u1 Kx.rf e2 rfl
      have u5 : vk s1 = ((vk s0).1, (vk s0).2) := vk_k1 rfl e2 rfl
      refine And.intro (Nat.le_of_ble_eq_true rfl) (And.intro ⟨3, a1, rfl, by decide, i3⟩ ?_)
      intro v6 s8 h7
      have h7 : Iv s8 ∧ Kp s1 s8 ∧ vk s8 = ((vk s1).1, (vk s1).2) ∧ (True) := h7
      have i9 := h7.1
      have k10 : Kp s0 s8 := Kx.tr k4 (h7.2.1)
      have u11 : vk s8 = ((vk s0).1, (vk s0).2) := h7.2.2.1.trans u5
      refine And.intro (Nat.le_of_ble_eq_true rfl) (And.intro ⟨4, v6, rfl, by decide, i9⟩ ?_)
      intro v12 s14 h13
      have h13 : s14 = s8 ∧ (True) := h13
      have q17 := h13.1.symm
      subst q17
      intro s18 e19
      have i20 : Iv s18 := Iv.u1 i9 e19 rfl
      have k21 : Kp s0 s18 := Kx.u1 k10 e19 rfl
      have u22 : vk s18 = ((vk s0).1, (vk s0).2) := vk_k1 u11 e19 rfl
      intro v23 e24
      have g25 : s8.1 3 7 = v23 := by rw [e24, e19, vg_u1_at (a := 3) (b := 7) (k := 3) (i := 3) (by decide)]
      refine And.intro (fun c26 => ?_) (fun c26 => ?_)
      · have c26 : v23.toInt = 0 := c26
        intro v27 e28
        intro v29 e30
        intro v31 e32
        intro s33 e34
        have i35 : Iv s33 := Iv.u2 i20 e34
        have k36 : Kp s0 s33 := Kx.u2 k21 e34 (vg_kq_no ⟨rfl, rfl, rfl⟩).1
        have u37 : vk s33 = ((vk s0).1, (vk s0).2) := vk_k2 u22 e34 rfl
        intro v38 e39
        intro v40 e41
        have w42 : v12 = v40 := by rw [e41, e34, vg_u2_1, e19]; exact vg_u1_self.symm
        subst w42
        intro v43 e44
        intro v45 e46
        intro s47 e48
        have i49 : Iv s47 := Iv.u2 i35 e48
        have k50 : Kp s0 s47 := Kx.u2 k36 e48 (vg_kq_no ⟨rfl, rfl, rfl⟩).1
        have u51 : vk s47 = ((vk s0).1, (vk s0).2) := vk_k2 u37 e48 rfl
        intro v52 e53
        intro v54 e55
        intro v56 e57
        intro s58 e59
        have i60 : Iv s58 := Iv.u2 i49 e59
        have k61 : Kp s0 s58 := Kx.u2 k50 e59 (vg_kq_no ⟨rfl, rfl, rfl⟩).1
        have u62 : vk s58 = ((vk s0).1, (vk s0).2) := vk_k2 u51 e59 rfl
        intro v63 e64
        refine And.intro (Nat.le_of_ble_eq_true rfl) (And.intro ⟨3, rfl, by decide, i60⟩ ?_)
        intro v65 s67 h66
        have h66 : s67 = s58 ∧ (True) := h66
        have q70 := h66.1.symm
        subst q70
        refine And.intro (Nat.le_of_ble_eq_true rfl) (And.intro ⟨v65, rfl, trivial⟩ ?_)
        intro v71 s73 h72
        have h72 : s73 = s58 ∧ (True) := h72
        have q76 := h72.1.symm
        subst q76
        refine And.intro (Nat.le_of_ble_eq_true rfl) (And.intro ⟨v63, v71, rfl, trivial⟩ ?_)
        intro v77 s79 h78
        have h78 : s79 = s58 ∧ (True) := h78
        have q82 := h78.1.symm
        subst q82
        intro s83 e84
        have i85 : Iv s83 := Iv.u2 i60 e84
        have k86 : Kp s0 s83 := Kx.u2 k61 e84 (vg_kq_no ⟨rfl, rfl, rfl⟩).1
        have u87 : vk s83 = ((vk s0).1, (vk s0).2) := vk_k2 u62 e84 rfl
        show Iv s83 ∧ Kp s0 s83 ∧ vk s83 = ((vk s0).1, (vk s0).2) ∧ (True)
        exact ⟨i85, k86, u87, (trivial)⟩
      · have c26 : ¬ (v23.toInt = 0) := c26
        intro v88 e89
        have g90 : s8.1 3 6 = v88 := by rw [e89, e19, vg_u1_at (a := 3) (b := 6) (k := 3) (i := 3) (by decide)]
        intro v91 e92
        intro s93 e94
        have i95 : Iv s93 := Iv.u1 i20 e94 rfl
        have k96 : Kp s0 s93 := Kx.u1 k21 e94 rfl
        have u97 : vk s93 = ((vk s0).1, (vk s0).2) := vk_k1 u22 e94 rfl
        intro v98 e99
        have g100 : s8.1 4 5 = v98 := by rw [e99, e94, vg_u1_ne (a := 4) (k := 3) (by decide), e19, vg_u1_ne (a := 4) (k := 3) (by decide)]
        have b101 : (0 : Int) ≤ v98.toInt ∧ v98.toInt ≤ 1 := by rw [e99]; exact Iv_4_5 i95
        refine And.intro (fun c102 => ?_) (fun c102 => ?_)
        · have c102 : v98.toInt = 0 := c102
          intro v103 e104
          intro v105 e106
          intro v107 e108
          intro s109 e110
          have i111 : Iv s109 := Iv.u2 i95 e110
          have k112 : Kp s0 s109 := Kx.u2 k96 e110 (vg_kq_no ⟨rfl, rfl, rfl⟩).1
          have u113 : vk s109 = ((vk s0).1, (vk s0).2) := vk_k2 u97 e110 rfl
          intro v114 e115
          intro v116 e117
          have w118 : v12 = v116 := by rw [e117, e110, vg_u2_1, e94, vg_u1_at (a := 3) (b := 3) (k := 3) (i := 6) (by decide), e19]; exact vg_u1_self.symm
          subst w118
          intro v119 e120
          intro v121 e122
          intro s123 e124
          have i125 : Iv s123 := Iv.u2 i111 e124
          have k126 : Kp s0 s123 := Kx.u2 k112 e124 (vg_kq_no ⟨rfl, rfl, rfl⟩).1
          have u127 : vk s123 = ((vk s0).1, (vk s0).2) := vk_k2 u113 e124 rfl
          intro v128 e129
          intro v130 e131
          intro v132 e133
          intro s134 e135
          have i136 : Iv s134 := Iv.u2 i125 e135
          have k137 : Kp s0 s134 := Kx.u2 k126 e135 (vg_kq_no ⟨rfl, rfl, rfl⟩).1
          have u138 : vk s134 = ((vk s0).1, (vk s0).2) := vk_k2 u127 e135 rfl
          intro v139 e140
          refine And.intro (Nat.le_of_ble_eq_true rfl) (And.intro ⟨3, rfl, by decide, i136⟩ ?_)
          intro v141 s143 h142
          have h142 : s143 = s134 ∧ (True) := h142
          have q146 := h142.1.symm
          subst q146
          refine And.intro (Nat.le_of_ble_eq_true rfl) (And.intro ⟨v141, rfl, trivial⟩ ?_)
          intro v147 s149 h148
          have h148 : s149 = s134 ∧ (True) := h148
          have q152 := h148.1.symm
          subst q152
          refine And.intro (Nat.le_of_ble_eq_true rfl) (And.intro ⟨v139, v147, rfl, trivial⟩ ?_)
          intro v153 s155 h154
          have h154 : s155 = s134 ∧ (True) := h154
          have q158 := h154.1.symm
          subst q158
          intro s159 e160
          have i161 : Iv s159 := Iv.u2 i136 e160
          have k162 : Kp s0 s159 := Kx.u2 k137 e160 (vg_kq_no ⟨rfl, rfl, rfl⟩).1
          have u163 : vk s159 = ((vk s0).1, (vk s0).2) := vk_k2 u138 e160 rfl
          show Iv s159 ∧ Kp s0 s159 ∧ vk s159 = ((vk s0).1, (vk s0).2) ∧ (True)
          exact ⟨i161, k162, u163, (trivial)⟩
        · have c102 : ¬ (v98.toInt = 0) := c102
          refine And.intro (Nat.le_of_ble_eq_true rfl) (And.intro ⟨5, (Int32.ofInt 0), rfl, by decide, i95⟩ ?_)
          intro s165 h164
          have h164 : Iv s165 ∧ Kp s93 s165 ∧ vk s165 = ((vk s93).1, (vk s93).2) ∧ (True) := h164
          have i166 := h164.1
          have k167 : Kp s0 s165 := Kx.tr k96 (h164.2.1)
          have u168 : vk s165 = ((vk s0).1, (vk s0).2) := h164.2.2.1.trans u97
          intro v169 e170
          intro v171 e172
          intro v173 e174
          intro s175 e176
          have i177 : Iv s175 := Iv.u2 i166 e176
          have k178 : Kp s0 s175 := Kx.u2 k167 e176 (vg_kq_no ⟨rfl, rfl, rfl⟩).1
          have u179 : vk s175 = ((vk s0).1, (vk s0).2) := vk_k2 u168 e176 rfl
          intro v180 e181
          intro v182 e183
          have g184 : s165.1 3 3 = v182 := by rw [e183, e176, vg_u2_1]
          intro v185 e186
          intro v187 e188
          intro s189 e190
          have i191 : Iv s189 := Iv.u2 i177 e190
          have k192 : Kp s0 s189 := Kx.u2 k178 e190 (vg_kq_no ⟨rfl, rfl, rfl⟩).1
          have u193 : vk s189 = ((vk s0).1, (vk s0).2) := vk_k2 u179 e190 rfl
          intro v194 e195
          intro v196 e197
          intro v198 e199
          intro s200 e201
          have i202 : Iv s200 := Iv.u2 i191 e201
          have k203 : Kp s0 s200 := Kx.u2 k192 e201 (vg_kq_no ⟨rfl, rfl, rfl⟩).1
          have u204 : vk s200 = ((vk s0).1, (vk s0).2) := vk_k2 u193 e201 rfl
          intro v205 e206
          refine And.intro (Nat.le_of_ble_eq_true rfl) (And.intro ⟨3, rfl, by decide, i202⟩ ?_)
          intro v207 s209 h208
          have h208 : s209 = s200 ∧ (True) := h208
          have q212 := h208.1.symm
          subst q212
          refine And.intro (Nat.le_of_ble_eq_true rfl) (And.intro ⟨v207, rfl, trivial⟩ ?_)
          intro v213 s215 h214
          have h214 : s215 = s200 ∧ (True) := h214
          have q218 := h214.1.symm
          subst q218
          refine And.intro (Nat.le_of_ble_eq_true rfl) (And.intro ⟨v205, v213, rfl, trivial⟩ ?_)
          intro v219 s221 h220
          have h220 : s221 = s200 ∧ (True) := h220
          have q224 := h220.1.symm
          subst q224
          intro s225 e226
          have i227 : Iv s225 := Iv.u2 i202 e226
          have k228 : Kp s0 s225 := Kx.u2 k203 e226 (vg_kq_no ⟨rfl, rfl, rfl⟩).1
          have u229 : vk s225 = ((vk s0).1, (vk s0).2) := vk_k2 u204 e226 rfl
          show Iv s225 ∧ Kp s0 s225 ∧ vk s225 = ((vk s0).1, (vk s0).2) ∧ (True)
          exact ⟨i227, k228, u229, (trivial)⟩
  ·
    have z0 : (Int32.ofInt 0).toInt = 0 := by decide
    have z1 : (Int32.ofInt 1).toInt = 1 := by decide
    refine ⟨Nat.le_of_ble_eq_true rfl, [], ?_, fun _ h => absurd h List.not_mem_nil⟩
    ·
      refine And.intro (by first | exact Or.inl rfl | exact Or.inr rfl | exact vg_01 (by omega) (by omega)) ?_
      intro s1 e2
      have i3 : Iv s1 := Iv.u1 i0 e2 rfl
      have k4 : Kp s0 s1 := Kx.u1 Kx.rf e2 rfl
      have u5 : vk s1 = ((vk s0).1, (vk s0).2) := vk_k1 rfl e2 rfl
      refine And.intro (Nat.le_of_ble_eq_true rfl) (And.intro ⟨22, a1, rfl, by decide, i3⟩ ?_)
      intro v6 s8 h7
      have h7 : Iv s8 ∧ Kp s1 s8 ∧ vk s8 = ((vk s1).1, (vk s1).2) ∧ (True) := h7
      have i9 := h7.1
      have k10 : Kp s0 s8 := Kx.tr k4 (h7.2.1)
      have u11 : vk s8 = ((vk s0).1, (vk s0).2) := h7.2.2.1.trans u5
      refine And.intro (Nat.le_of_ble_eq_true rfl) (And.intro ⟨23, v6, rfl, by decide, i9⟩ ?_)
      intro v12 s14 h13
      have h13 : s14 = s8 ∧ (True) := h13
      have q17 := h13.1.symm
      subst q17
      intro s18 e19
      have i20 : Iv s18 := Iv.u1 i9 e19 rfl
      have k21 : Kp s0 s18 := Kx.u1 k10 e19 rfl
      have u22 : vk s18 = ((vk s0).1, (vk s0).2) := vk_k1 u11 e19 rfl
      intro v23 e24
      have g25 : s8.1 22 7 = v23 := by rw [e24, e19, vg_u1_at (a := 22) (b := 7) (k := 22) (i := 3) (by decide)]
      refine And.intro (fun c26 => ?_) (fun c26 => ?_)
      · have c26 : v23.toInt = 0 := c26
        intro v27 e28
        intro v29 e30
        intro v31 e32
        intro s33 e34
        have i35 : Iv s33 := Iv.u2 i20 e34
        have k36 : Kp s0 s33 := Kx.u2 k21 e34 (vg_kq_no ⟨rfl, rfl, rfl⟩).1
        have u37 : vk s33 = ((vk s0).1, (vk s0).2) := vk_k2 u22 e34 rfl
        intro v38 e39
        intro v40 e41
        have w42 : v12 = v40 := by rw [e41, e34, vg_u2_1, e19]; exact vg_u1_self.symm
        subst w42
        intro v43 e44
        intro v45 e46
        intro s47 e48
        have i49 : Iv s47 := Iv.u2 i35 e48
        have k50 : Kp s0 s47 := Kx.u2 k36 e48 (vg_kq_no ⟨rfl, rfl, rfl⟩).1
        have u51 : vk s47 = ((vk s0).1, (vk s0).2) := vk_k2 u37 e48 rfl
        intro v52 e53
        intro v54 e55
        intro v56 e57
        intro s58 e59
        have i60 : Iv s58 := Iv.u2 i49 e59
        have k61 : Kp s0 s58 := Kx.u2 k50 e59 (vg_kq_no ⟨rfl, rfl, rfl⟩).1
        have u62 : vk s58 = ((vk s0).1, (vk s0).2) := vk_k2 u51 e59 rfl
        intro v63 e64
        refine And.intro (Nat.le_of_ble_eq_true rfl) (And.intro ⟨22, rfl, by decide, i60⟩ ?_)
        intro v65 s67 h66
        have h66 : s67 = s58 ∧ (True) := h66
        have q70 := h66.1.symm
        subst q70
        refine And.intro (Nat.le_of_ble_eq_true rfl) (And.intro ⟨v65, rfl, trivial⟩ ?_)
        intro v71 s73 h72
        have h72 : s73 = s58 ∧ (True) := h72
        have q76 := h72.1.symm
        subst q76
        refine And.intro (Nat.le_of_ble_eq_true rfl) (And.intro ⟨v63, v71, rfl, trivial⟩ ?_)
        intro v77 s79 h78
        have h78 : s79 = s58 ∧ (True) := h78
        have q82 := h78.1.symm
        subst q82
        intro s83 e84
        have i85 : Iv s83 := Iv.u2 i60 e84
        have k86 : Kp s0 s83 := Kx.u2 k61 e84 (vg_kq_no ⟨rfl, rfl, rfl⟩).1
        have u87 : vk s83 = ((vk s0).1, (vk s0).2) := vk_k2 u62 e84 rfl
        show Iv s83 ∧ Kp s0 s83 ∧ vk s83 = ((vk s0).1, (vk s0).2) ∧ (True)
        exact ⟨i85, k86, u87, (trivial)⟩
      · have c26 : ¬ (v23.toInt = 0) := c26
        intro v88 e89
        have g90 : s8.1 22 6 = v88 := by rw [e89, e19, vg_u1_at (a := 22) (b := 6) (k := 22) (i := 3) (by decide)]
        intro v91 e92
        intro s93 e94
        have i95 : Iv s93 := Iv.u1 i20 e94 rfl
        have k96 : Kp s0 s93 := Kx.u1 k21 e94 rfl
        have u97 : vk s93 = ((vk s0).1, (vk s0).2) := vk_k1 u22 e94 rfl
        intro v98 e99
        have g100 : s8.1 23 5 = v98 := by rw [e99, e94, vg_u1_ne (a := 23) (k := 22) (by decide), e19, vg_u1_ne (a := 23) (k := 22) (by decide)]
        have b101 : (0 : Int) ≤ v98.toInt ∧ v98.toInt ≤ 1 := by rw [e99]; exact Iv_23_5 i95
        refine And.intro (fun c102 => ?_) (fun c102 => ?_)
        · have c102 : v98.toInt = 0 := c102
          intro v103 e104
          intro v105 e106
          intro v107 e108
          intro s109 e110
          have i111 : Iv s109 := Iv.u2 i95 e110
          have k112 : Kp s0 s109 := Kx.u2 k96 e110 (vg_kq_no ⟨rfl, rfl, rfl⟩).1
          have u113 : vk s109 = ((vk s0).1, (vk s0).2) := vk_k2 u97 e110 rfl
          intro v114 e115
          intro v116 e117
          have w118 : v12 = v116 := by rw [e117, e110, vg_u2_1, e94, vg_u1_at (a := 22) (b := 3) (k := 22) (i := 6) (by decide), e19]; exact vg_u1_self.symm
          subst w118
          intro v119 e120
          intro v121 e122
          intro s123 e124
          have i125 : Iv s123 := Iv.u2 i111 e124
          have k126 : Kp s0 s123 := Kx.u2 k112 e124 (vg_kq_no ⟨rfl, rfl, rfl⟩).1
          have u127 : vk s123 = ((vk s0).1, (vk s0).2) := vk_k2 u113 e124 rfl
          intro v128 e129
          intro v130 e131
          intro v132 e133
          intro s134 e135
          have i136 : Iv s134 := Iv.u2 i125 e135
          have k137 : Kp s0 s134 := Kx.u2 k126 e135 (vg_kq_no ⟨rfl, rfl, rfl⟩).1
          have u138 : vk s134 = ((vk s0).1, (vk s0).2) := vk_k2 u127 e135 rfl
          intro v139 e140
          refine And.intro (Nat.le_of_ble_eq_true rfl) (And.intro ⟨22, rfl, by decide, i136⟩ ?_)
          intro v141 s143 h142
          have h142 : s143 = s134 ∧ (True) := h142
          have q146 := h142.1.symm
          subst q146
          refine And.intro (Nat.le_of_ble_eq_true rfl) (And.intro ⟨v141, rfl, trivial⟩ ?_)
          intro v147 s149 h148
          have h148 : s149 = s134 ∧ (True) := h148
          have q152 := h148.1.symm
          subst q152
          refine And.intro (Nat.le_of_ble_eq_true rfl) (And.intro ⟨v139, v147, rfl, trivial⟩ ?_)
          intro v153 s155 h154
          have h154 : s155 = s134 ∧ (True) := h154
          have q158 := h154.1.symm
          subst q158
          intro s159 e160
          have i161 : Iv s159 := Iv.u2 i136 e160
          have k162 : Kp s0 s159 := Kx.u2 k137 e160 (vg_kq_no ⟨rfl, rfl, rfl⟩).1
          have u163 : vk s159 = ((vk s0).1, (vk s0).2) := vk_k2 u138 e160 rfl
          show Iv s159 ∧ Kp s0 s159 ∧ vk s159 = ((vk s0).1, (vk s0).2) ∧ (True)
          exact ⟨i161, k162, u163, (trivial)⟩
        · have c102 : ¬ (v98.toInt = 0) := c102
          refine And.intro (Nat.le_of_ble_eq_true rfl) (And.intro ⟨24, (Int32.ofInt 0), rfl, by decide, i95⟩ ?_)
          intro s165 h164
          have h164 : Iv s165 ∧ Kp s93 s165 ∧ vk s165 = ((vk s93).1, (vk s93).2) ∧ (True) := h164
          have i166 := h164.1
          have k167 : Kp s0 s165 := Kx.tr k96 (h164.2.1)
          have u168 : vk s165 = ((vk s0).1, (vk s0).2) := h164.2.2.1.trans u97
          intro v169 e170
          intro v171 e172
          intro v173 e174
          intro s175 e176
          have i177 : Iv s175 := Iv.u2 i166 e176
          have k178 : Kp s0 s175 := Kx.u2 k167 e176 (vg_kq_no ⟨rfl, rfl, rfl⟩).1
          have u179 : vk s175 = ((vk s0).1, (vk s0).2) := vk_k2 u168 e176 rfl
          intro v180 e181
          intro v182 e183
          have g184 : s165.1 22 3 = v182 := by rw [e183, e176, vg_u2_1]
          intro v185 e186
          intro v187 e188
          intro s189 e190
          have i191 : Iv s189 := Iv.u2 i177 e190
          have k192 : Kp s0 s189 := Kx.u2 k178 e190 (vg_kq_no ⟨rfl, rfl, rfl⟩).1
          have u193 : vk s189 = ((vk s0).1, (vk s0).2) := vk_k2 u179 e190 rfl
          intro v194 e195
          intro v196 e197
          intro v198 e199
          intro s200 e201
          have i202 : Iv s200 := Iv.u2 i191 e201
          have k203 : Kp s0 s200 := Kx.u2 k192 e201 (vg_kq_no ⟨rfl, rfl, rfl⟩).1
          have u204 : vk s200 = ((vk s0).1, (vk s0).2) := vk_k2 u193 e201 rfl
          intro v205 e206
          refine And.intro (Nat.le_of_ble_eq_true rfl) (And.intro ⟨22, rfl, by decide, i202⟩ ?_)
          intro v207 s209 h208
          have h208 : s209 = s200 ∧ (True) := h208
          have q212 := h208.1.symm
          subst q212
          refine And.intro (Nat.le_of_ble_eq_true rfl) (And.intro ⟨v207, rfl, trivial⟩ ?_)
          intro v213 s215 h214
          have h214 : s215 = s200 ∧ (True) := h214
          have q218 := h214.1.symm
          subst q218
          refine And.intro (Nat.le_of_ble_eq_true rfl) (And.intro ⟨v205, v213, rfl, trivial⟩ ?_)
          intro v219 s221 h220
          have h220 : s221 = s200 ∧ (True) := h220
          have q224 := h220.1.symm
          subst q224
          intro s225 e226
          have i227 : Iv s225 := Iv.u2 i202 e226
          have k228 : Kp s0 s225 := Kx.u2 k203 e226 (vg_kq_no ⟨rfl, rfl, rfl⟩).1
          have u229 : vk s225 = ((vk s0).1, (vk s0).2) := vk_k2 u204 e226 rfl
          show Iv s225 ∧ Kp s0 s225 ∧ vk s225 = ((vk s0).1, (vk s0).2) ∧ (True)
          exact ⟨i227, k228, u229, (trivial)⟩
def o_X5_writeWords : List vg_I := [(0, .iload_n 2, 1, 0, 0, 0, 0), (1, .ifCond .lt 12, 3, 0, 0, 0, 0), (4, .iload_n 2, 1, 0, 0, 0, 0), (5, .bipush 10, 2, 0, 0, 0, 0), (7, .iadd, 1, 0, 0, 0, 0), (8, .aload_n 1, 1, 0, 0, 0, 0), (9, .arraylength, 1, 0, 0, 0, 0), (10, .if_icmp .le 4, 3, 0, 0, 0, 0), (13, .return_, 1, 0, 0, 0, 0), (14, .aload_n 0, 1, 0, 0, 0, 0), (15, .getfield 16, 3, 180, 5, 1, 0), (18, .iconst 0, 1, 0, 0, 0, 0), (19, .aload_n 1, 1, 0, 0, 0, 0), (20, .iload_n 2, 1, 0, 0, 0, 0), (21, .iconst 4, 1, 0, 0, 0, 0), (22, .invokestatic 74, 3, 0, 3, 0, 966), (25, .aload_n 0, 1, 0, 0, 0, 0), (26, .getfield 20, 3, 182, 5, 2, 0), (29, .iconst 0, 1, 0, 0, 0, 0), (30, .aload_n 1, 1, 0, 0, 0, 0), (31, .iload_n 2, 1, 0, 0, 0, 0), (32, .iconst 4, 1, 0, 0, 0, 0), (33, .iadd, 1, 0, 0, 0, 0), (34, .bipush 6, 2, 0, 0, 0, 0), (36, .invokestatic 74, 3, 0, 3, 0, 966), (39, .aload_n 0, 1, 0, 0, 0, 0), (40, .getfield 12, 3, 178, 5, 0, 0), (43, .getfield 108, 3, 141, 6, 0, 0), (46, .iconst 1, 1, 0, 0, 0, 0), (47, .if_icmp .ne 12, 3, 0, 0, 0, 0), (50, .aload_n 1, 1, 0, 0, 0, 0), (51, .iload_n 2, 1, 0, 0, 0, 0), (52, .iconst 4, 1, 0, 0, 0, 0), (53, .iadd, 1, 0, 0, 0, 0), (54, .aload_n 0, 1, 0, 0, 0, 0), (55, .getfield 29, 3, 183, 5, 3, 0), (58, .iastore, 1, 0, 0, 0, 0), (59, .return_, 1, 0, 0, 0, 0)]
set_option maxRecDepth 100000 in
set_option maxHeartbeats 4000000 in
theorem c_X5_writeWords (l : Launch) (G : vg_G) (hp : vg_Hp G) : vg_Ct l G vg_sh r_X5_writeWords := by
  refine vg_meth hp vg_sh_ok r_X5_writeWords k_X5_writeWords rfl (fun h => by cases h) o_X5_writeWords [] true (by decide +kernel) (by decide +kernel) ⟨_, _, rfl, rfl⟩ (fun _ h => absurd h List.not_mem_nil) (fun _ => ⟨⟨Nat.le_of_ble_eq_true rfl, Nat.le_of_ble_eq_true rfl⟩, vg_cpw_in⟩) 600 ?_
  intro as s0 hpre
  obtain ⟨r, a1, a2, rfl, hr, ha1, i0, p0⟩ := hpre
  simp only [List.mem_cons, List.not_mem_nil, or_false] at hr
  rcases hr with rfl
  ·
    simp only [List.mem_cons, List.not_mem_nil, or_false] at ha1
    rcases ha1 with rfl
    ·
      have z0 : (Int32.ofInt 0).toInt = 0 := by decide
      have z1 : (Int32.ofInt 1).toInt = 1 := by decide
      have z4 : (Int32.ofInt 4).toInt = 4 := by decide
      have z6 : (Int32.ofInt 6).toInt = 6 := by decide
      have z10 : (Int32.ofInt 10).toInt = 10 := by decide
      have n10010 : (Int32.ofNat 10010).toInt = 10010 := by decide
      refine ⟨Nat.le_of_ble_eq_true rfl, [], ?_, fun _ h => absurd h List.not_mem_nil⟩
      ·
        refine And.intro (fun c1 => ?_) (fun c1 => ?_)
        · have c1 : a2.toInt < 0 := c1
          exfalso
          omega
        · have c1 : ¬ (a2.toInt < 0) := c1
          intro v2 e3
          have b4 := vg_add e3 (by omega) (by omega)
          refine And.intro (fun c5 => ?_) (fun c5 => ?_)
          · have c5 : v2.toInt ≤ (Int32.ofNat 10010).toInt := c5
            refine And.intro (Nat.le_of_ble_eq_true rfl) (And.intro (by omega) (And.intro (by omega) (And.intro (by omega) (And.intro (by omega) (And.intro (by omega) ?_)))))
            intro s6 e7
            have i8 : Iv s6 := Iv.w1 i0 e7 rfl
            have k9 : Kp s0 s6 := Kx.w1 Kx.rf e7 (fun _ => rfl)
            have u10 : vk s6 = ((vk s0).1, (vk s0).2) := vk_kw rfl e7 (fun _ => rfl)
            intro v11 e12
            have b13 := vg_add e12 (by omega) (by omega)
            refine And.intro (Nat.le_of_ble_eq_true rfl) (And.intro (by omega) (And.intro (by omega) (And.intro (by omega) (And.intro (by omega) (And.intro (by omega) ?_)))))
            intro s14 e15
            have i16 : Iv s14 := Iv.w1 i8 e15 rfl
            have k17 : Kp s0 s14 := Kx.w1 k9 e15 (fun _ => rfl)
            have u18 : vk s14 = ((vk s0).1, (vk s0).2) := vk_kw u10 e15 (fun _ => rfl)
            intro v19 e20
            have g21 : s0.1 23 0 = v19 := by rw [e20, e15, vg_w1_at (a := 23) (k := 33) (by decide), e7, vg_w1_at (a := 23) (k := 33) (by decide)]
            refine And.intro (fun c22 => ?_) (fun c22 => ?_)
            · have c22 : ¬ v19.toInt = (Int32.ofInt 1).toInt := c22
              show Iv s14 ∧ Kp s0 s14 ∧ vk s14 = ((vk s0).1, (vk s0).2) ∧ (True)
              exact ⟨i16, k17, u18, (trivial)⟩
            · have c22 : ¬ (¬ v19.toInt = (Int32.ofInt 1).toInt) := c22
              intro v23 e24
              have b25 := vg_add e24 (by omega) (by omega)
              intro v26 e27
              have g28 : s0.1 22 3 = v26 := by rw [e27, e15, vg_w1_at (a := 22) (k := 33) (by decide), e7, vg_w1_at (a := 22) (k := 33) (by decide)]
              refine And.intro ⟨by omega, by omega⟩ ?_
              intro s29 e30
              have i31 : Iv s29 := Iv.a1 i16 e30 rfl
              have k32 : Kp s0 s29 := Kx.u1 k17 e30 rfl
              have u33 : vk s29 = ((vk s0).1, (vk s0).2) := vk_k1 u18 e30 rfl
              show Iv s29 ∧ Kp s0 s29 ∧ vk s29 = ((vk s0).1, (vk s0).2) ∧ (True)
              exact ⟨i31, k32, u33, (trivial)⟩
          · have c5 : ¬ (v2.toInt ≤ (Int32.ofNat 10010).toInt) := c5
            exfalso
            omega
def o_X7_numberUnbound : List vg_I := [(0, .aload_n 0, 1, 0, 0, 0, 0), (1, .getfield 27, 3, 104, 7, 0, 0), (4, .tableswitch 88 1 3 #[28, 47, 76], 28, 0, 0, 0, 0), (32, .aload_n 0, 1, 0, 0, 0, 0), (33, .getfield 30, 3, 106, 7, 1, 0), (36, .aload_n 0, 1, 0, 0, 0, 0), (37, .getfield 33, 3, 108, 7, 2, 0), (40, .iload_n 1, 1, 0, 0, 0, 0), (41, .aload_n 0, 1, 0, 0, 0, 0), (42, .getfield 9, 3, 110, 7, 3, 0), (45, .invokestatic 36, 3, 0, 1, 2, 628), (48, .imul, 1, 0, 0, 0, 0), (49, .iadd, 1, 0, 0, 0, 0), (50, .ireturn, 1, 0, 0, 0, 0), (51, .iload_n 1, 1, 0, 0, 0, 0), (52, .iconst 2, 1, 0, 0, 0, 0), (53, .aload_n 0, 1, 0, 0, 0, 0), (54, .getfield 9, 3, 110, 7, 3, 0), (57, .imul, 1, 0, 0, 0, 0), (58, .invokestatic 36, 3, 0, 1, 2, 628), (61, .aload_n 0, 1, 0, 0, 0, 0), (62, .getfield 9, 3, 110, 7, 3, 0), (65, .if_icmp .ge 10, 3, 0, 0, 0, 0), (68, .aload_n 0, 1, 0, 0, 0, 0), (69, .getfield 30, 3, 106, 7, 1, 0), (72, .goto 7, 3, 0, 0, 0, 0), (75, .aload_n 0, 1, 0, 0, 0, 0), (76, .getfield 33, 3, 108, 7, 2, 0), (79, .ireturn, 1, 0, 0, 0, 0), (80, .aload_n 0, 1, 0, 0, 0, 0), (81, .getfield 15, 3, 112, 7, 4, 0), (84, .iload_n 1, 1, 0, 0, 0, 0), (85, .bipush 16, 2, 0, 0, 0, 0), (87, .invokestatic 36, 3, 0, 1, 2, 628), (90, .iaload, 1, 0, 0, 0, 0), (91, .ireturn, 1, 0, 0, 0, 0), (92, .aload_n 0, 1, 0, 0, 0, 0), (93, .getfield 30, 3, 106, 7, 1, 0), (96, .ireturn, 1, 0, 0, 0, 0)]
set_option maxRecDepth 100000 in
set_option maxHeartbeats 4000000 in
theorem c_X7_numberUnbound (l : Launch) (G : vg_G) (hp : vg_Hp G) : vg_Ct l G vg_sh r_X7_numberUnbound := by
  refine vg_meth hp vg_sh_ok r_X7_numberUnbound k_X7_numberUnbound rfl (fun h => by cases h) o_X7_numberUnbound [r_J9_floorMod_7cf53] false (by decide +kernel) (by decide +kernel) ⟨_, _, rfl, rfl⟩ (List.forall_mem_cons.mpr ⟨⟨c_J9_floorMod_7cf53 l G hp, Nat.le_of_ble_eq_true rfl, Nat.le_of_ble_eq_true rfl⟩, fun _ h => absurd h List.not_mem_nil⟩) (fun h => by cases h) 600 ?_
  intro as s0 hpre
  obtain ⟨r, a1, rfl, hr, i0⟩ := hpre
  simp only [List.mem_cons, List.not_mem_nil, or_false] at hr
  rcases hr with rfl
  ·
    have z2 : (Int32.ofInt 2).toInt = 2 := by decide
    have z16 : (Int32.ofInt 16).toInt = 16 := by decide
    refine ⟨Nat.le_of_ble_eq_true rfl, [], ?_, fun _ h => absurd h List.not_mem_nil⟩
    ·
      intro v1 e2
      have g3 : s0.1 1 0 = v1 := by rw [e2]
      refine And.intro (fun c4 => ?_) ?_
      · have c4 : v1.toInt < (1) ∨ (3) < v1.toInt := c4
        intro v5 e6
        have g7 : s0.1 1 1 = v5 := by rw [e6]
        show s0 = s0 ∧ (True)
        exact ⟨rfl, (trivial)⟩
      refine And.intro (fun c8 => ?_) ?_
      · have c8 : v1.toInt = (1) := c8
        intro v9 e10
        have g11 : s0.1 1 1 = v9 := by rw [e10]
        intro v12 e13
        have g14 : s0.1 1 2 = v12 := by rw [e13]
        intro v15 e16
        have g17 : s0.1 1 3 = v15 := by rw [e16]
        have b18 : (1 : Int) ≤ v15.toInt ∧ v15.toInt ≤ 1000 := by rw [e16]; exact Iv_1_3 i0
        refine And.intro (Nat.le_of_ble_eq_true rfl) (And.intro ⟨a1, v15, rfl, by omega⟩ ?_)
        intro v19 s21 h20
        have h20 : s21 = s0 ∧ (0 ≤ v19.toInt ∧ v19.toInt < v15.toInt) := h20
        have q24 := h20.1.symm
        subst q24
        have q25 := h20.2
        intro v26 e27
        intro v28 e29
        show s0 = s0 ∧ (True)
        exact ⟨rfl, (trivial)⟩
      refine And.intro (fun c30 => ?_) ?_
      · have c30 : v1.toInt = (2) := c30
        intro v31 e32
        have g33 : s0.1 1 3 = v31 := by rw [e32]
        have b34 : (1 : Int) ≤ v31.toInt ∧ v31.toInt ≤ 1000 := by rw [e32]; exact Iv_1_3 i0
        intro v35 e36
        have b37 : v35.toInt = (2) * v31.toInt := vg_mulL e36 (by omega) (by omega) (by omega)
        refine And.intro (Nat.le_of_ble_eq_true rfl) (And.intro ⟨a1, v35, rfl, by omega⟩ ?_)
        intro v38 s40 h39
        have h39 : s40 = s0 ∧ (0 ≤ v38.toInt ∧ v38.toInt < v35.toInt) := h39
        have q43 := h39.1.symm
        subst q43
        have q44 := h39.2
        intro v45 e46
        have w47 : v31 = v45 := by rw [e46, g33]
        subst w47
        refine And.intro (fun c48 => ?_) (fun c48 => ?_)
        · have c48 : v31.toInt ≤ v38.toInt := c48
          intro v49 e50
          have g51 : s0.1 1 2 = v49 := by rw [e50]
          show s0 = s0 ∧ (True)
          exact ⟨rfl, (trivial)⟩
        · have c48 : ¬ (v31.toInt ≤ v38.toInt) := c48
          intro v52 e53
          have g54 : s0.1 1 1 = v52 := by rw [e53]
          show s0 = s0 ∧ (True)
          exact ⟨rfl, (trivial)⟩
      refine And.intro (fun c55 => ?_) ?_
      · have c55 : v1.toInt = (3) := c55
        refine And.intro (Nat.le_of_ble_eq_true rfl) (And.intro ⟨a1, (Int32.ofInt 16), rfl, by omega⟩ ?_)
        intro v56 s58 h57
        have h57 : s58 = s0 ∧ (0 ≤ v56.toInt ∧ v56.toInt < (Int32.ofInt 16).toInt) := h57
        have q61 := h57.1.symm
        subst q61
        have q62 := h57.2
        refine And.intro ⟨by omega, by omega⟩ ?_
        intro v63 e64
        show s0 = s0 ∧ (True)
        exact ⟨rfl, (trivial)⟩
      exact trivial
def o_X7_numberAt : List vg_I := [(0, .aload_n 0, 1, 0, 0, 0, 0), (1, .iload_n 1, 1, 0, 0, 0, 0), (2, .invokevirtual 19, 3, 0, 7, 1, 624), (5, .sipush 30000, 3, 0, 0, 0, 0), (8, .invokestatic 23, 3, 1, 2, 2, 1), (11, .ireturn, 1, 0, 0, 0, 0)]
set_option maxRecDepth 100000 in
set_option maxHeartbeats 4000000 in
theorem c_X7_numberAt (l : Launch) (G : vg_G) (hp : vg_Hp G) : vg_Ct l G vg_sh r_X7_numberAt := by
  refine vg_meth hp vg_sh_ok r_X7_numberAt k_X7_numberAt rfl (fun h => by cases h) o_X7_numberAt [r_X7_numberUnbound, r_X10_putTo] false (by decide +kernel) (by decide +kernel) ⟨_, _, rfl, rfl⟩ (List.forall_mem_cons.mpr ⟨⟨c_X7_numberUnbound l G hp, Nat.le_of_ble_eq_true rfl, Nat.le_of_ble_eq_true rfl⟩, List.forall_mem_cons.mpr ⟨⟨c_X10_putTo l G hp, Nat.le_of_ble_eq_true rfl, Nat.le_of_ble_eq_true rfl⟩, fun _ h => absurd h List.not_mem_nil⟩⟩) (fun h => by cases h) 600 ?_
  intro as s0 hpre
  obtain ⟨r, a1, rfl, hr, i0⟩ := hpre
  simp only [List.mem_cons, List.not_mem_nil, or_false] at hr
  rcases hr with rfl
  ·
    have z30000 : (Int32.ofInt 30000).toInt = 30000 := by decide
    refine ⟨Nat.le_of_ble_eq_true rfl, [], ?_, fun _ h => absurd h List.not_mem_nil⟩
    ·
      refine And.intro (Nat.le_of_ble_eq_true rfl) (And.intro ⟨1, a1, rfl, by decide, i0⟩ ?_)
      intro v1 s3 h2
      have h2 : s3 = s0 ∧ (True) := h2
      have q6 := h2.1.symm
      subst q6
      refine And.intro (Nat.le_of_ble_eq_true rfl) (And.intro ⟨v1, (Int32.ofInt 30000), rfl, trivial⟩ ?_)
      intro v7 s9 h8
      have h8 : s9 = s0 ∧ (True) := h8
      have q12 := h8.1.symm
      subst q12
      show s0 = s0 ∧ (True)
      exact ⟨rfl, (trivial)⟩
