def o_X4_clear : List vg_I := [(0, .aload_n 0, 1, 0, 0, 0, 0), (1, .iconst 0, 1, 0, 0, 0, 0), (2, .putfield 13, 3, 414, 4, 2, 0), (5, .aload_n 0, 1, 0, 0, 0, 0), (6, .iconst 0, 1, 0, 0, 0, 0), (7, .putfield 17, 3, 416, 4, 3, 0), (10, .return_, 1, 0, 0, 0, 0)]
set_option maxRecDepth 100000 in
set_option maxHeartbeats 4000000 in
theorem c_X4_clear (l : Launch) (G : vg_G) (hp : vg_Hp G) : vg_Ct l G vg_sh r_X4_clear := by
  refine vg_meth hp vg_sh_ok r_X4_clear k_X4_clear rfl (fun h => by cases h) o_X4_clear [] false (by decide +kernel) (by decide +kernel) ⟨_, _, rfl, rfl⟩ (fun _ h => absurd h List.not_mem_nil) (fun h => by cases h) 600 ?_
  intro as s0 hpre
  obtain ⟨r, rfl, hr, i0⟩ := hpre
  simp only [List.mem_cons, List.not_mem_nil, or_false] at hr
  rcases hr with rfl | rfl | rfl | rfl | rfl | rfl | rfl
  ·
    have z0 : (Int32.ofInt 0).toInt = 0 := by decide
    refine ⟨Nat.le_of_ble_eq_true rfl, [], ?_, fun _ h => absurd h List.not_mem_nil⟩
    ·
      intro s1 e2
      have i3 : Iv s1 := Iv.c1 (lo := 0) (hi := 48) i0 e2 rfl (by omega) (by omega)
      have k4 : Kp s0 s1 := Kx.u1 Kx.rf e2 rfl
      intro s5 e6
      have i7 : Iv s5 := Iv.u1 i3 e6 rfl
      have k8 : Kp s0 s5 := Kx.u1 k4 e6 rfl
      show Iv s5 ∧ Kp s0 s5 ∧ (True)
      exact ⟨i7, k8, (trivial)⟩
  ·
    have z0 : (Int32.ofInt 0).toInt = 0 := by decide
    refine ⟨Nat.le_of_ble_eq_true rfl, [], ?_, fun _ h => absurd h List.not_mem_nil⟩
    ·
      intro s1 e2
      have i3 : Iv s1 := Iv.c1 (lo := 0) (hi := 48) i0 e2 rfl (by omega) (by omega)
      have k4 : Kp s0 s1 := Kx.u1 Kx.rf e2 rfl
      intro s5 e6
      have i7 : Iv s5 := Iv.u1 i3 e6 rfl
      have k8 : Kp s0 s5 := Kx.u1 k4 e6 rfl
      show Iv s5 ∧ Kp s0 s5 ∧ (True)
      exact ⟨i7, k8, (trivial)⟩
  ·
    have z0 : (Int32.ofInt 0).toInt = 0 := by decide
    refine ⟨Nat.le_of_ble_eq_true rfl, [], ?_, fun _ h => absurd h List.not_mem_nil⟩
    ·
      intro s1 e2
      have i3 : Iv s1 := Iv.c1 (lo := 0) (hi := 48) i0 e2 rfl (by omega) (by omega)
      have k4 : Kp s0 s1 := Kx.u1 Kx.rf e2 rfl
      intro s5 e6
      have i7 : Iv s5 := Iv.u1 i3 e6 rfl
      have k8 : Kp s0 s5 := Kx.u1 k4 e6 rfl
      show Iv s5 ∧ Kp s0 s5 ∧ (True)
      exact ⟨i7, k8, (trivial)⟩
  ·
    have z0 : (Int32.ofInt 0).toInt = 0 := by decide
    refine ⟨Nat.le_of_ble_eq_true rfl, [], ?_, fun _ h => absurd h List.not_mem_nil⟩
    ·
      intro s1 e2
      have i3 : Iv s1 := Iv.c1 (lo := 0) (hi := 48) i0 e2 rfl (by omega) (by omega)
      have k4 : Kp s0 s1 := Kx.u1 Kx.rf e2 rfl
      intro s5 e6
      have i7 : Iv s5 := Iv.u1 i3 e6 rfl
      have k8 : Kp s0 s5 := Kx.u1 k4 e6 rfl
      show Iv s5 ∧ Kp s0 s5 ∧ (True)
      exact ⟨i7, k8, (trivial)⟩
  ·
    have z0 : (Int32.ofInt 0).toInt = 0 := by decide
    refine ⟨Nat.le_of_ble_eq_true rfl, [], ?_, fun _ h => absurd h List.not_mem_nil⟩
    ·
      intro s1 e2
      have i3 : Iv s1 := Iv.c1 (lo := 0) (hi := 48) i0 e2 rfl (by omega) (by omega)
      have k4 : Kp s0 s1 := Kx.u1 Kx.rf e2 rfl
      intro s5 e6
      have i7 : Iv s5 := Iv.u1 i3 e6 rfl
      have k8 : Kp s0 s5 := Kx.u1 k4 e6 rfl
      show Iv s5 ∧ Kp s0 s5 ∧ (True)
      exact ⟨i7, k8, (trivial)⟩
  ·
    have z0 : (Int32.ofInt 0).toInt = 0 := by decide
    refine ⟨Nat.le_of_ble_eq_true rfl, [], ?_, fun _ h => absurd h List.not_mem_nil⟩
    ·
      intro s1 e2
      have i3 : Iv s1 := Iv.c1 (lo := 0) (hi := 48) i0 e2 rfl (by omega) (by omega)
      have k4 : Kp s0 s1 := Kx.u1 Kx.rf e2 rfl
      intro s5 e6
      have i7 : Iv s5 := Iv.u1 i3 e6 rfl
      have k8 : Kp s0 s5 := Kx.u1 k4 e6 rfl
      show Iv s5 ∧ Kp s0 s5 ∧ (True)
      exact ⟨i7, k8, (trivial)⟩
  ·
    have z0 : (Int32.ofInt 0).toInt = 0 := by decide
    refine ⟨Nat.le_of_ble_eq_true rfl, [], ?_, fun _ h => absurd h List.not_mem_nil⟩
    ·
      intro s1 e2
      have i3 : Iv s1 := Iv.c1 (lo := 0) (hi := 48) i0 e2 rfl (by omega) (by omega)
      have k4 : Kp s0 s1 := Kx.u1 Kx.rf e2 rfl
      intro s5 e6
      have i7 : Iv s5 := Iv.u1 i3 e6 rfl
      have k8 : Kp s0 s5 := Kx.u1 k4 e6 rfl
      show Iv s5 ∧ Kp s0 s5 ∧ (True)
      exact ⟨i7, k8, (trivial)⟩
def o_X4_put : List vg_I := [(0, .aload_n 0, 1, 0, 0, 0, 0), (1, .aload_n 0, 1, 0, 0, 0, 0), (2, .getfield 20, 3, 413, 4, 1, 0), (5, .iconst 1, 1, 0, 0, 0, 0), (6, .iadd, 1, 0, 0, 0, 0), (7, .bipush 63, 2, 0, 0, 0, 0), (9, .iand, 1, 0, 0, 0, 0), (10, .putfield 20, 3, 413, 4, 1, 0), (13, .aload_n 0, 1, 0, 0, 0, 0), (14, .getfield 9, 3, 412, 4, 0, 0), (17, .aload_n 0, 1, 0, 0, 0, 0), (18, .getfield 20, 3, 413, 4, 1, 0), (21, .iload_n 1, 1, 0, 0, 0, 0), (22, .iastore, 1, 0, 0, 0, 0), (23, .aload_n 0, 1, 0, 0, 0, 0), (24, .bipush 48, 2, 0, 0, 0, 0), (26, .aload_n 0, 1, 0, 0, 0, 0), (27, .getfield 13, 3, 414, 4, 2, 0), (30, .iconst 1, 1, 0, 0, 0, 0), (31, .iadd, 1, 0, 0, 0, 0), (32, .invokestatic 23, 3, 0, 1, 2, 638), (35, .putfield 13, 3, 414, 4, 2, 0), (38, .aload_n 0, 1, 0, 0, 0, 0), (39, .dup, 1, 0, 0, 0, 0), (40, .getfield 17, 3, 416, 4, 3, 0), (43, .iconst 1, 1, 0, 0, 0, 0), (44, .iadd, 1, 0, 0, 0, 0), (45, .putfield 17, 3, 416, 4, 3, 0), (48, .return_, 1, 0, 0, 0, 0)]
set_option maxRecDepth 100000 in
set_option maxHeartbeats 4000000 in
theorem c_X4_put (l : Launch) (G : vg_G) (hp : vg_Hp G) : vg_Ct l G vg_sh r_X4_put := by
  refine vg_meth hp vg_sh_ok r_X4_put k_X4_put rfl (fun h => by cases h) o_X4_put [r_J9_min_7cf53] false (by decide +kernel) (by decide +kernel) ⟨_, _, rfl, rfl⟩ (List.forall_mem_cons.mpr ⟨⟨c_J9_min_7cf53 l G hp, Nat.le_of_ble_eq_true rfl, Nat.le_of_ble_eq_true rfl⟩, fun _ h => absurd h List.not_mem_nil⟩) (fun h => by cases h) 600 ?_
  intro as s0 hpre
  obtain ⟨r, a1, rfl, hr, i0⟩ := hpre
  simp only [List.mem_cons, List.not_mem_nil, or_false] at hr
  rcases hr with rfl | rfl | rfl | rfl | rfl | rfl | rfl
  ·
    have z1 : (Int32.ofInt 1).toInt = 1 := by decide
    have z48 : (Int32.ofInt 48).toInt = 48 := by decide
    have z63 : (Int32.ofInt 63).toInt = 63 := by decide
    refine ⟨Nat.le_of_ble_eq_true rfl, [], ?_, fun _ h => absurd h List.not_mem_nil⟩
    ·
      intro v1 e2
      have g3 : s0.1 41 1 = v1 := by rw [e2]
      intro v4 e5
      intro v6 e7
      have b8 := vg_and e7 (by omega)
      intro s9 e10
      have i11 : Iv s9 := Iv.u1 i0 e10 rfl
      have k12 : Kp s0 s9 := Kx.u1 Kx.rf e10 rfl
      intro v13 e14
      have w15 : v6 = v13 := by rw [e14, e10]; exact vg_u1_self.symm
      subst w15
      refine And.intro ⟨by omega, by omega⟩ ?_
      intro s16 e17
      have i18 : Iv s16 := Iv.a1 i11 e17 rfl
      have k19 : Kp s0 s16 := Kx.u1 k12 e17 rfl
      intro v20 e21
      have g22 : s0.1 41 2 = v20 := by rw [e21, e17, vg_u1_ne (a := 41) (k := 42) (by decide), e10, vg_u1_at (a := 41) (b := 2) (k := 41) (i := 1) (by decide)]
      have b23 : (0 : Int) ≤ v20.toInt ∧ v20.toInt ≤ 48 := by rw [e21]; exact Iv_41_2 i18
      intro v24 e25
      have b26 := vg_add e25 (by omega) (by omega)
      refine And.intro (Nat.le_of_ble_eq_true rfl) (And.intro ⟨(Int32.ofInt 48), v24, rfl, trivial⟩ ?_)
      intro v27 s29 h28
      have h28 : s29 = s16 ∧ (v27.toInt ≤ (Int32.ofInt 48).toInt ∧ v27.toInt ≤ v24.toInt ∧ (v27.toInt = (Int32.ofInt 48).toInt ∨ v27.toInt = v24.toInt)) := h28
      have q32 := h28.1.symm
      subst q32
      have q33 := h28.2
      intro s34 e35
      have i36 : Iv s34 := Iv.c1 (lo := 0) (hi := 48) i18 e35 rfl (by omega) (by omega)
      have k37 : Kp s0 s34 := Kx.u1 k19 e35 rfl
      intro v38 e39
      have g40 : s0.1 41 3 = v38 := by rw [e39, e35, vg_u1_at (a := 41) (b := 3) (k := 41) (i := 2) (by decide), e17, vg_u1_ne (a := 41) (k := 42) (by decide), e10, vg_u1_at (a := 41) (b := 3) (k := 41) (i := 1) (by decide)]
      intro v41 e42
      intro s43 e44
      have i45 : Iv s43 := Iv.u1 i36 e44 rfl
      have k46 : Kp s0 s43 := Kx.u1 k37 e44 rfl
      show Iv s43 ∧ Kp s0 s43 ∧ (True)
      exact ⟨i45, k46, (trivial)⟩
  ·
    have z1 : (Int32.ofInt 1).toInt = 1 := by decide
    have z48 : (Int32.ofInt 48).toInt = 48 := by decide
    have z63 : (Int32.ofInt 63).toInt = 63 := by decide
    refine ⟨Nat.le_of_ble_eq_true rfl, [], ?_, fun _ h => absurd h List.not_mem_nil⟩
    ·
      intro v1 e2
      have g3 : s0.1 43 1 = v1 := by rw [e2]
      intro v4 e5
      intro v6 e7
      have b8 := vg_and e7 (by omega)
      intro s9 e10
      have i11 : Iv s9 := Iv.u1 i0 e10 rfl
      have k12 : Kp s0 s9 := Kx.u1 Kx.rf e10 rfl
      intro v13 e14
      have w15 : v6 = v13 := by rw [e14, e10]; exact vg_u1_self.symm
      subst w15
      refine And.intro ⟨by omega, by omega⟩ ?_
      intro s16 e17
      have i18 : Iv s16 := Iv.a1 i11 e17 rfl
      have k19 : Kp s0 s16 := Kx.u1 k12 e17 rfl
      intro v20 e21
      have g22 : s0.1 43 2 = v20 := by rw [e21, e17, vg_u1_ne (a := 43) (k := 44) (by decide), e10, vg_u1_at (a := 43) (b := 2) (k := 43) (i := 1) (by decide)]
      have b23 : (0 : Int) ≤ v20.toInt ∧ v20.toInt ≤ 48 := by rw [e21]; exact Iv_43_2 i18
      intro v24 e25
      have b26 := vg_add e25 (by omega) (by omega)
      refine And.intro (Nat.le_of_ble_eq_true rfl) (And.intro ⟨(Int32.ofInt 48), v24, rfl, trivial⟩ ?_)
      intro v27 s29 h28
      have h28 : s29 = s16 ∧ (v27.toInt ≤ (Int32.ofInt 48).toInt ∧ v27.toInt ≤ v24.toInt ∧ (v27.toInt = (Int32.ofInt 48).toInt ∨ v27.toInt = v24.toInt)) := h28
      have q32 := h28.1.symm
      subst q32
      have q33 := h28.2
      intro s34 e35
      have i36 : Iv s34 := Iv.c1 (lo := 0) (hi := 48) i18 e35 rfl (by omega) (by omega)
      have k37 : Kp s0 s34 := Kx.u1 k19 e35 rfl
      intro v38 e39
      have g40 : s0.1 43 3 = v38 := by rw [e39, e35, vg_u1_at (a := 43) (b := 3) (k := 43) (i := 2) (by decide), e17, vg_u1_ne (a := 43) (k := 44) (by decide), e10, vg_u1_at (a := 43) (b := 3) (k := 43) (i := 1) (by decide)]
      intro v41 e42
      intro s43 e44
      have i45 : Iv s43 := Iv.u1 i36 e44 rfl
      have k46 : Kp s0 s43 := Kx.u1 k37 e44 rfl
      show Iv s43 ∧ Kp s0 s43 ∧ (True)
      exact ⟨i45, k46, (trivial)⟩
  ·
    have z1 : (Int32.ofInt 1).toInt = 1 := by decide
    have z48 : (Int32.ofInt 48).toInt = 48 := by decide
    have z63 : (Int32.ofInt 63).toInt = 63 := by decide
    refine ⟨Nat.le_of_ble_eq_true rfl, [], ?_, fun _ h => absurd h List.not_mem_nil⟩
    ·
      intro v1 e2
      have g3 : s0.1 45 1 = v1 := by rw [e2]
      intro v4 e5
      intro v6 e7
      have b8 := vg_and e7 (by omega)
      intro s9 e10
      have i11 : Iv s9 := Iv.u1 i0 e10 rfl
      have k12 : Kp s0 s9 := Kx.u1 Kx.rf e10 rfl
      intro v13 e14
      have w15 : v6 = v13 := by rw [e14, e10]; exact vg_u1_self.symm
      subst w15
      refine And.intro ⟨by omega, by omega⟩ ?_
      intro s16 e17
      have i18 : Iv s16 := Iv.a1 i11 e17 rfl
      have k19 : Kp s0 s16 := Kx.u1 k12 e17 rfl
      intro v20 e21
      have g22 : s0.1 45 2 = v20 := by rw [e21, e17, vg_u1_ne (a := 45) (k := 46) (by decide), e10, vg_u1_at (a := 45) (b := 2) (k := 45) (i := 1) (by decide)]
      have b23 : (0 : Int) ≤ v20.toInt ∧ v20.toInt ≤ 48 := by rw [e21]; exact Iv_45_2 i18
      intro v24 e25
      have b26 := vg_add e25 (by omega) (by omega)
      refine And.intro (Nat.le_of_ble_eq_true rfl) (And.intro ⟨(Int32.ofInt 48), v24, rfl, trivial⟩ ?_)
      intro v27 s29 h28
      have h28 : s29 = s16 ∧ (v27.toInt ≤ (Int32.ofInt 48).toInt ∧ v27.toInt ≤ v24.toInt ∧ (v27.toInt = (Int32.ofInt 48).toInt ∨ v27.toInt = v24.toInt)) := h28
      have q32 := h28.1.symm
      subst q32
      have q33 := h28.2
      intro s34 e35
      have i36 : Iv s34 := Iv.c1 (lo := 0) (hi := 48) i18 e35 rfl (by omega) (by omega)
      have k37 : Kp s0 s34 := Kx.u1 k19 e35 rfl
      intro v38 e39
      have g40 : s0.1 45 3 = v38 := by rw [e39, e35, vg_u1_at (a := 45) (b := 3) (k := 45) (i := 2) (by decide), e17, vg_u1_ne (a := 45) (k := 46) (by decide), e10, vg_u1_at (a := 45) (b := 3) (k := 45) (i := 1) (by decide)]
      intro v41 e42
      intro s43 e44
      have i45 : Iv s43 := Iv.u1 i36 e44 rfl
      have k46 : Kp s0 s43 := Kx.u1 k37 e44 rfl
      show Iv s43 ∧ Kp s0 s43 ∧ (True)
      exact ⟨i45, k46, (trivial)⟩
  ·
    have z1 : (Int32.ofInt 1).toInt = 1 := by decide
    have z48 : (Int32.ofInt 48).toInt = 48 := by decide
    have z63 : (Int32.ofInt 63).toInt = 63 := by decide
    refine ⟨Nat.le_of_ble_eq_true rfl, [], ?_, fun _ h => absurd h List.not_mem_nil⟩
    ·
      intro v1 e2
      have g3 : s0.1 47 1 = v1 := by rw [e2]
      intro v4 e5
      intro v6 e7
      have b8 := vg_and e7 (by omega)
      intro s9 e10
      have i11 : Iv s9 := Iv.u1 i0 e10 rfl
      have k12 : Kp s0 s9 := Kx.u1 Kx.rf e10 rfl
      intro v13 e14
      have w15 : v6 = v13 := by rw [e14, e10]; exact vg_u1_self.symm
      subst w15
      refine And.intro ⟨by omega, by omega⟩ ?_
      intro s16 e17
      have i18 : Iv s16 := Iv.a1 i11 e17 rfl
      have k19 : Kp s0 s16 := Kx.u1 k12 e17 rfl
      intro v20 e21
      have g22 : s0.1 47 2 = v20 := by rw [e21, e17, vg_u1_ne (a := 47) (k := 48) (by decide), e10, vg_u1_at (a := 47) (b := 2) (k := 47) (i := 1) (by decide)]
      have b23 : (0 : Int) ≤ v20.toInt ∧ v20.toInt ≤ 48 := by rw [e21]; exact Iv_47_2 i18
      intro v24 e25
      have b26 := vg_add e25 (by omega) (by omega)
      refine And.intro (Nat.le_of_ble_eq_true rfl) (And.intro ⟨(Int32.ofInt 48), v24, rfl, trivial⟩ ?_)
      intro v27 s29 h28
      have h28 : s29 = s16 ∧ (v27.toInt ≤ (Int32.ofInt 48).toInt ∧ v27.toInt ≤ v24.toInt ∧ (v27.toInt = (Int32.ofInt 48).toInt ∨ v27.toInt = v24.toInt)) := h28
      have q32 := h28.1.symm
      subst q32
      have q33 := h28.2
      intro s34 e35
      have i36 : Iv s34 := Iv.c1 (lo := 0) (hi := 48) i18 e35 rfl (by omega) (by omega)
      have k37 : Kp s0 s34 := Kx.u1 k19 e35 rfl
      intro v38 e39
      have g40 : s0.1 47 3 = v38 := by rw [e39, e35, vg_u1_at (a := 47) (b := 3) (k := 47) (i := 2) (by decide), e17, vg_u1_ne (a := 47) (k := 48) (by decide), e10, vg_u1_at (a := 47) (b := 3) (k := 47) (i := 1) (by decide)]
      intro v41 e42
      intro s43 e44
      have i45 : Iv s43 := Iv.u1 i36 e44 rfl
      have k46 : Kp s0 s43 := Kx.u1 k37 e44 rfl
      show Iv s43 ∧ Kp s0 s43 ∧ (True)
      exact ⟨i45, k46, (trivial)⟩
  ·
    have z1 : (Int32.ofInt 1).toInt = 1 := by decide
    have z48 : (Int32.ofInt 48).toInt = 48 := by decide
    have z63 : (Int32.ofInt 63).toInt = 63 := by decide
    refine ⟨Nat.le_of_ble_eq_true rfl, [], ?_, fun _ h => absurd h List.not_mem_nil⟩
    ·
      intro v1 e2
      have g3 : s0.1 49 1 = v1 := by rw [e2]
      intro v4 e5
      intro v6 e7
      have b8 := vg_and e7 (by omega)
      intro s9 e10
      have i11 : Iv s9 := Iv.u1 i0 e10 rfl
      have k12 : Kp s0 s9 := Kx.u1 Kx.rf e10 rfl
      intro v13 e14
      have w15 : v6 = v13 := by rw [e14, e10]; exact vg_u1_self.symm
      subst w15
      refine And.intro ⟨by omega, by omega⟩ ?_
      intro s16 e17
      have i18 : Iv s16 := Iv.a1 i11 e17 rfl
      have k19 : Kp s0 s16 := Kx.u1 k12 e17 rfl
      intro v20 e21
      have g22 : s0.1 49 2 = v20 := by rw [e21, e17, vg_u1_ne (a := 49) (k := 50) (by decide), e10, vg_u1_at (a := 49) (b := 2) (k := 49) (i := 1) (by decide)]
      have b23 : (0 : Int) ≤ v20.toInt ∧ v20.toInt ≤ 48 := by rw [e21]; exact Iv_49_2 i18
      intro v24 e25
      have b26 := vg_add e25 (by omega) (by omega)
      refine And.intro (Nat.le_of_ble_eq_true rfl) (And.intro ⟨(Int32.ofInt 48), v24, rfl, trivial⟩ ?_)
      intro v27 s29 h28
      have h28 : s29 = s16 ∧ (v27.toInt ≤ (Int32.ofInt 48).toInt ∧ v27.toInt ≤ v24.toInt ∧ (v27.toInt = (Int32.ofInt 48).toInt ∨ v27.toInt = v24.toInt)) := h28
      have q32 := h28.1.symm
      subst q32
      have q33 := h28.2
      intro s34 e35
      have i36 : Iv s34 := Iv.c1 (lo := 0) (hi := 48) i18 e35 rfl (by omega) (by omega)
      have k37 : Kp s0 s34 := Kx.u1 k19 e35 rfl
      intro v38 e39
      have g40 : s0.1 49 3 = v38 := by rw [e39, e35, vg_u1_at (a := 49) (b := 3) (k := 49) (i := 2) (by decide), e17, vg_u1_ne (a := 49) (k := 50) (by decide), e10, vg_u1_at (a := 49) (b := 3) (k := 49) (i := 1) (by decide)]
      intro v41 e42
      intro s43 e44
      have i45 : Iv s43 := Iv.u1 i36 e44 rfl
      have k46 : Kp s0 s43 := Kx.u1 k37 e44 rfl
      show Iv s43 ∧ Kp s0 s43 ∧ (True)
      exact ⟨i45, k46, (trivial)⟩
  ·
    have z1 : (Int32.ofInt 1).toInt = 1 := by decide
    have z48 : (Int32.ofInt 48).toInt = 48 := by decide
    have z63 : (Int32.ofInt 63).toInt = 63 := by decide
    refine ⟨Nat.le_of_ble_eq_true rfl, [], ?_, fun _ h => absurd h List.not_mem_nil⟩
    ·
      intro v1 e2
      have g3 : s0.1 51 1 = v1 := by rw [e2]
      intro v4 e5
      intro v6 e7
      have b8 := vg_and e7 (by omega)
      intro s9 e10
      have i11 : Iv s9 := Iv.u1 i0 e10 rfl
      have k12 : Kp s0 s9 := Kx.u1 Kx.rf e10 rfl
      intro v13 e14
      have w15 : v6 = v13 := by rw [e14, e10]; exact vg_u1_self.symm
      subst w15
      refine And.intro ⟨by omega, by omega⟩ ?_
      intro s16 e17
      have i18 : Iv s16 := Iv.a1 i11 e17 rfl
      have k19 : Kp s0 s16 := Kx.u1 k12 e17 rfl
      intro v20 e21
      have g22 : s0.1 51 2 = v20 := by rw [e21, e17, vg_u1_ne (a := 51) (k := 52) (by decide), e10, vg_u1_at (a := 51) (b := 2) (k := 51) (i := 1) (by decide)]
      have b23 : (0 : Int) ≤ v20.toInt ∧ v20.toInt ≤ 48 := by rw [e21]; exact Iv_51_2 i18
      intro v24 e25
      have b26 := vg_add e25 (by omega) (by omega)
      refine And.intro (Nat.le_of_ble_eq_true rfl) (And.intro ⟨(Int32.ofInt 48), v24, rfl, trivial⟩ ?_)
      intro v27 s29 h28
      have h28 : s29 = s16 ∧ (v27.toInt ≤ (Int32.ofInt 48).toInt ∧ v27.toInt ≤ v24.toInt ∧ (v27.toInt = (Int32.ofInt 48).toInt ∨ v27.toInt = v24.toInt)) := h28
      have q32 := h28.1.symm
      subst q32
      have q33 := h28.2
      intro s34 e35
      have i36 : Iv s34 := Iv.c1 (lo := 0) (hi := 48) i18 e35 rfl (by omega) (by omega)
      have k37 : Kp s0 s34 := Kx.u1 k19 e35 rfl
      intro v38 e39
      have g40 : s0.1 51 3 = v38 := by rw [e39, e35, vg_u1_at (a := 51) (b := 3) (k := 51) (i := 2) (by decide), e17, vg_u1_ne (a := 51) (k := 52) (by decide), e10, vg_u1_at (a := 51) (b := 3) (k := 51) (i := 1) (by decide)]
      intro v41 e42
      intro s43 e44
      have i45 : Iv s43 := Iv.u1 i36 e44 rfl
      have k46 : Kp s0 s43 := Kx.u1 k37 e44 rfl
      show Iv s43 ∧ Kp s0 s43 ∧ (True)
      exact ⟨i45, k46, (trivial)⟩
  ·
    have z1 : (Int32.ofInt 1).toInt = 1 := by decide
    have z48 : (Int32.ofInt 48).toInt = 48 := by decide
    have z63 : (Int32.ofInt 63).toInt = 63 := by decide
    refine ⟨Nat.le_of_ble_eq_true rfl, [], ?_, fun _ h => absurd h List.not_mem_nil⟩
    ·
      intro v1 e2
      have g3 : s0.1 53 1 = v1 := by rw [e2]
      intro v4 e5
      intro v6 e7
      have b8 := vg_and e7 (by omega)
      intro s9 e10
      have i11 : Iv s9 := Iv.u1 i0 e10 rfl
      have k12 : Kp s0 s9 := Kx.u1 Kx.rf e10 rfl
      intro v13 e14
      have w15 : v6 = v13 := by rw [e14, e10]; exact vg_u1_self.symm
      subst w15
      refine And.intro ⟨by omega, by omega⟩ ?_
      intro s16 e17
      have i18 : Iv s16 := Iv.a1 i11 e17 rfl
      have k19 : Kp s0 s16 := Kx.u1 k12 e17 rfl
      intro v20 e21
      have g22 : s0.1 53 2 = v20 := by rw [e21, e17, vg_u1_ne (a := 53) (k := 54) (by decide), e10, vg_u1_at (a := 53) (b := 2) (k := 53) (i := 1) (by decide)]
      have b23 : (0 : Int) ≤ v20.toInt ∧ v20.toInt ≤ 48 := by rw [e21]; exact Iv_53_2 i18
      intro v24 e25
      have b26 := vg_add e25 (by omega) (by omega)
      refine And.intro (Nat.le_of_ble_eq_true rfl) (And.intro ⟨(Int32.ofInt 48), v24, rfl, trivial⟩ ?_)
      intro v27 s29 h28
      have h28 : s29 = s16 ∧ (v27.toInt ≤ (Int32.ofInt 48).toInt ∧ v27.toInt ≤ v24.toInt ∧ (v27.toInt = (Int32.ofInt 48).toInt ∨ v27.toInt = v24.toInt)) := h28
      have q32 := h28.1.symm
      subst q32
      have q33 := h28.2
      intro s34 e35
      have i36 : Iv s34 := Iv.c1 (lo := 0) (hi := 48) i18 e35 rfl (by omega) (by omega)
      have k37 : Kp s0 s34 := Kx.u1 k19 e35 rfl
      intro v38 e39
      have g40 : s0.1 53 3 = v38 := by rw [e39, e35, vg_u1_at (a := 53) (b := 3) (k := 53) (i := 2) (by decide), e17, vg_u1_ne (a := 53) (k := 54) (by decide), e10, vg_u1_at (a := 53) (b := 3) (k := 53) (i := 1) (by decide)]
      intro v41 e42
      intro s43 e44
      have i45 : Iv s43 := Iv.u1 i36 e44 rfl
      have k46 : Kp s0 s43 := Kx.u1 k37 e44 rfl
      show Iv s43 ∧ Kp s0 s43 ∧ (True)
      exact ⟨i45, k46, (trivial)⟩
def o_X4_get : List vg_I := [(0, .aload_n 0, 1, 0, 0, 0, 0), (1, .getfield 9, 3, 412, 4, 0, 0), (4, .aload_n 0, 1, 0, 0, 0, 0), (5, .getfield 20, 3, 413, 4, 1, 0), (8, .iload_n 1, 1, 0, 0, 0, 0), (9, .isub, 1, 0, 0, 0, 0), (10, .bipush 63, 2, 0, 0, 0, 0), (12, .iand, 1, 0, 0, 0, 0), (13, .iaload, 1, 0, 0, 0, 0), (14, .ireturn, 1, 0, 0, 0, 0)]
set_option maxRecDepth 100000 in
set_option maxHeartbeats 4000000 in
theorem c_X4_get (l : Launch) (G : vg_G) (hp : vg_Hp G) : vg_Ct l G vg_sh r_X4_get := by
  refine vg_meth hp vg_sh_ok r_X4_get k_X4_get rfl (fun h => by cases h) o_X4_get [] false (by decide +kernel) (by decide +kernel) ⟨_, _, rfl, rfl⟩ (fun _ h => absurd h List.not_mem_nil) (fun h => by cases h) 600 ?_
  intro as s0 hpre
  obtain ⟨r, a1, rfl, hr, i0⟩ := hpre
  simp only [List.mem_cons, List.not_mem_nil, or_false] at hr
  rcases hr with rfl | rfl | rfl | rfl | rfl | rfl | rfl
  ·
    have z63 : (Int32.ofInt 63).toInt = 63 := by decide
    refine ⟨Nat.le_of_ble_eq_true rfl, [], ?_, fun _ h => absurd h List.not_mem_nil⟩
    ·
      intro v1 e2
      have g3 : s0.1 41 1 = v1 := by rw [e2]
      intro v4 e5
      intro v6 e7
      have b8 := vg_and e7 (by omega)
      refine And.intro ⟨by omega, by omega⟩ ?_
      intro v9 e10
      show s0 = s0 ∧ (True)
      exact ⟨rfl, (trivial)⟩
  ·
    have z63 : (Int32.ofInt 63).toInt = 63 := by decide
    refine ⟨Nat.le_of_ble_eq_true rfl, [], ?_, fun _ h => absurd h List.not_mem_nil⟩
    ·
      intro v1 e2
      have g3 : s0.1 43 1 = v1 := by rw [e2]
      intro v4 e5
      intro v6 e7
      have b8 := vg_and e7 (by omega)
      refine And.intro ⟨by omega, by omega⟩ ?_
      intro v9 e10
      show s0 = s0 ∧ (True)
      exact ⟨rfl, (trivial)⟩
  ·
    have z63 : (Int32.ofInt 63).toInt = 63 := by decide
    refine ⟨Nat.le_of_ble_eq_true rfl, [], ?_, fun _ h => absurd h List.not_mem_nil⟩
    ·
      intro v1 e2
      have g3 : s0.1 45 1 = v1 := by rw [e2]
      intro v4 e5
      intro v6 e7
      have b8 := vg_and e7 (by omega)
      refine And.intro ⟨by omega, by omega⟩ ?_
      intro v9 e10
      show s0 = s0 ∧ (True)
      exact ⟨rfl, (trivial)⟩
  ·
    have z63 : (Int32.ofInt 63).toInt = 63 := by decide
    refine ⟨Nat.le_of_ble_eq_true rfl, [], ?_, fun _ h => absurd h List.not_mem_nil⟩
    ·
      intro v1 e2
      have g3 : s0.1 47 1 = v1 := by rw [e2]
      intro v4 e5
      intro v6 e7
      have b8 := vg_and e7 (by omega)
      refine And.intro ⟨by omega, by omega⟩ ?_
      intro v9 e10
      show s0 = s0 ∧ (True)
      exact ⟨rfl, (trivial)⟩
  ·
    have z63 : (Int32.ofInt 63).toInt = 63 := by decide
    refine ⟨Nat.le_of_ble_eq_true rfl, [], ?_, fun _ h => absurd h List.not_mem_nil⟩
    ·
      intro v1 e2
      have g3 : s0.1 49 1 = v1 := by rw [e2]
      intro v4 e5
      intro v6 e7
      have b8 := vg_and e7 (by omega)
      refine And.intro ⟨by omega, by omega⟩ ?_
      intro v9 e10
      show s0 = s0 ∧ (True)
      exact ⟨rfl, (trivial)⟩
  ·
    have z63 : (Int32.ofInt 63).toInt = 63 := by decide
    refine ⟨Nat.le_of_ble_eq_true rfl, [], ?_, fun _ h => absurd h List.not_mem_nil⟩
    ·
      intro v1 e2
      have g3 : s0.1 51 1 = v1 := by rw [e2]
      intro v4 e5
      intro v6 e7
      have b8 := vg_and e7 (by omega)
      refine And.intro ⟨by omega, by omega⟩ ?_
      intro v9 e10
      show s0 = s0 ∧ (True)
      exact ⟨rfl, (trivial)⟩
  ·
    have z63 : (Int32.ofInt 63).toInt = 63 := by decide
    refine ⟨Nat.le_of_ble_eq_true rfl, [], ?_, fun _ h => absurd h List.not_mem_nil⟩
    ·
      intro v1 e2
      have g3 : s0.1 53 1 = v1 := by rw [e2]
      intro v4 e5
      intro v6 e7
      have b8 := vg_and e7 (by omega)
      refine And.intro ⟨by omega, by omega⟩ ?_
      intro v9 e10
      show s0 = s0 ∧ (True)
      exact ⟨rfl, (trivial)⟩
def o_X4_least : List vg_I := [(0, .aload_n 0, 1, 0, 0, 0, 0), (1, .iconst 0, 1, 0, 0, 0, 0), (2, .invokevirtual 29, 3, 0, 4, 1, 829), (5, .istore_n 1, 1, 0, 0, 0, 0), (6, .iconst 1, 1, 0, 0, 0, 0), (7, .istore_n 2, 1, 0, 0, 0, 0), (8, .iload_n 2, 1, 0, 0, 0, 0), (9, .aload_n 0, 1, 0, 0, 0, 0), (10, .getfield 13, 3, 414, 4, 2, 0), (13, .if_icmp .ge 19, 3, 0, 0, 0, 0), (16, .iload_n 1, 1, 0, 0, 0, 0), (17, .aload_n 0, 1, 0, 0, 0, 0), (18, .iload_n 2, 1, 0, 0, 0, 0), (19, .invokevirtual 29, 3, 0, 4, 1, 829), (22, .invokestatic 23, 3, 1, 1, 2, 638), (25, .istore_n 1, 1, 0, 0, 0, 0), (26, .iinc 2 1, 3, 0, 0, 0, 0), (29, .goto (-21), 3, 0, 0, 0, 0), (32, .iload_n 1, 1, 0, 0, 0, 0), (33, .ireturn, 1, 0, 0, 0, 0)]
set_option maxRecDepth 100000 in
set_option maxHeartbeats 4000000 in
theorem c_X4_least (l : Launch) (G : vg_G) (hp : vg_Hp G) : vg_Ct l G vg_sh r_X4_least := by
  refine vg_meth hp vg_sh_ok r_X4_least k_X4_least rfl (fun h => by cases h) o_X4_least [r_X4_get, r_J9_min_7cf53] false (by decide +kernel) (by decide +kernel) ⟨_, _, rfl, rfl⟩ (List.forall_mem_cons.mpr ⟨⟨c_X4_get l G hp, Nat.le_of_ble_eq_true rfl, Nat.le_of_ble_eq_true rfl⟩, List.forall_mem_cons.mpr ⟨⟨c_J9_min_7cf53 l G hp, Nat.le_of_ble_eq_true rfl, Nat.le_of_ble_eq_true rfl⟩, fun _ h => absurd h List.not_mem_nil⟩⟩) (fun h => by cases h) 600 ?_
  intro as s0 hpre
  obtain ⟨r, rfl, hr, i0⟩ := hpre
  simp only [List.mem_cons, List.not_mem_nil, or_false] at hr
  rcases hr with rfl | rfl | rfl | rfl | rfl | rfl | rfl
  ·
    have z0 : (Int32.ofInt 0).toInt = 0 := by decide
    have z1 : (Int32.ofInt 1).toInt = 1 := by decide
    refine ⟨Nat.le_of_ble_eq_true rfl, [(8, [true, true, true], (fun L t => ∃ (x1 : Int32) (x2 : Int32), L = [some (.ref 41), some (.int x1), some (.int x2)] ∧ (1 : Int) ≤ x2.toInt ∧ x2.toInt ≤ (48 : Int) ∧ t = s0), (fun L _ => (0 + (48 - (vg_li L 2).toInt) * 1000000000000).toNat))], ?_, List.forall_mem_cons.mpr ⟨?_, fun _ h => absurd h List.not_mem_nil⟩⟩
    ·
      refine And.intro (Nat.le_of_ble_eq_true rfl) (And.intro ⟨41, (Int32.ofInt 0), rfl, by decide, i0⟩ ?_)
      intro v1 s3 h2
      have h2 : s3 = s0 ∧ (True) := h2
      have q6 := h2.1.symm
      subst q6
      exact ⟨rfl, ⟨v1, (Int32.ofInt 1), rfl, (by omega), (by omega), rfl⟩, trivial⟩
    ·
      intro L s11 hL
      obtain ⟨w7, w8, rfl, b9, b10, q14⟩ := hL
      have q14 := q14.symm
      subst q14
      intro v15 e16
      have g17 : s0.1 41 2 = v15 := by rw [e16]
      have b18 : (0 : Int) ≤ v15.toInt ∧ v15.toInt ≤ 48 := by rw [e16]; exact Iv_41_2 i0
      refine And.intro (fun c19 => ?_) (fun c19 => ?_)
      · have c19 : v15.toInt ≤ w8.toInt := c19
        show s0 = s0 ∧ (True)
        exact ⟨rfl, (trivial)⟩
      · have c19 : ¬ (v15.toInt ≤ w8.toInt) := c19
        refine And.intro (Nat.le_of_ble_eq_true rfl) (And.intro ⟨41, w8, rfl, by decide, i0⟩ ?_)
        intro v20 s22 h21
        have h21 : s22 = s0 ∧ (True) := h21
        have q25 := h21.1.symm
        subst q25
        refine And.intro (Nat.le_of_ble_eq_true rfl) (And.intro ⟨w7, v20, rfl, trivial⟩ ?_)
        intro v26 s28 h27
        have h27 : s28 = s0 ∧ (v26.toInt ≤ w7.toInt ∧ v26.toInt ≤ v20.toInt ∧ (v26.toInt = w7.toInt ∨ v26.toInt = v20.toInt)) := h27
        have q31 := h27.1.symm
        subst q31
        have q32 := h27.2
        intro v33 e34
        have b35 := vg_add e34 (by omega) (by omega)
        exact ⟨rfl, ⟨v26, v33, rfl, (by omega), (by omega), rfl⟩, (by show (0 + (48 - v33.toInt) * 1000000000000).toNat < (0 + (48 - w8.toInt) * 1000000000000).toNat; omega)⟩
  ·
    have z0 : (Int32.ofInt 0).toInt = 0 := by decide
    have z1 : (Int32.ofInt 1).toInt = 1 := by decide
    refine ⟨Nat.le_of_ble_eq_true rfl, [(8, [true, true, true], (fun L t => ∃ (x1 : Int32) (x2 : Int32), L = [some (.ref 43), some (.int x1), some (.int x2)] ∧ (1 : Int) ≤ x2.toInt ∧ x2.toInt ≤ (48 : Int) ∧ t = s0), (fun L _ => (0 + (48 - (vg_li L 2).toInt) * 1000000000000).toNat))], ?_, List.forall_mem_cons.mpr ⟨?_, fun _ h => absurd h List.not_mem_nil⟩⟩
    ·
      refine And.intro (Nat.le_of_ble_eq_true rfl) (And.intro ⟨43, (Int32.ofInt 0), rfl, by decide, i0⟩ ?_)
      intro v1 s3 h2
      have h2 : s3 = s0 ∧ (True) := h2
      have q6 := h2.1.symm
      subst q6
      exact ⟨rfl, ⟨v1, (Int32.ofInt 1), rfl, (by omega), (by omega), rfl⟩, trivial⟩
    ·
      intro L s11 hL
      obtain ⟨w7, w8, rfl, b9, b10, q14⟩ := hL
      have q14 := q14.symm
      subst q14
      intro v15 e16
      have g17 : s0.1 43 2 = v15 := by rw [e16]
      have b18 : (0 : Int) ≤ v15.toInt ∧ v15.toInt ≤ 48 := by rw [e16]; exact Iv_43_2 i0
      refine And.intro (fun c19 => ?_) (fun c19 => ?_)
      · have c19 : v15.toInt ≤ w8.toInt := c19
        show s0 = s0 ∧ (True)
        exact ⟨rfl, (trivial)⟩
      · have c19 : ¬ (v15.toInt ≤ w8.toInt) := c19
        refine And.intro (Nat.le_of_ble_eq_true rfl) (And.intro ⟨43, w8, rfl, by decide, i0⟩ ?_)
        intro v20 s22 h21
        have h21 : s22 = s0 ∧ (True) := h21
        have q25 := h21.1.symm
        subst q25
        refine And.intro (Nat.le_of_ble_eq_true rfl) (And.intro ⟨w7, v20, rfl, trivial⟩ ?_)
        intro v26 s28 h27
        have h27 : s28 = s0 ∧ (v26.toInt ≤ w7.toInt ∧ v26.toInt ≤ v20.toInt ∧ (v26.toInt = w7.toInt ∨ v26.toInt = v20.toInt)) := h27
        have q31 := h27.1.symm
        subst q31
        have q32 := h27.2
        intro v33 e34
        have b35 := vg_add e34 (by omega) (by omega)
        exact ⟨rfl, ⟨v26, v33, rfl, (by omega), (by omega), rfl⟩, (by show (0 + (48 - v33.toInt) * 1000000000000).toNat < (0 + (48 - w8.toInt) * 1000000000000).toNat; omega)⟩
  ·
    have z0 : (Int32.ofInt 0).toInt = 0 := by decide
    have z1 : (Int32.ofInt 1).toInt = 1 := by decide
    refine ⟨Nat.le_of_ble_eq_true rfl, [(8, [true, true, true], (fun L t => ∃ (x1 : Int32) (x2 : Int32), L = [some (.ref 45), some (.int x1), some (.int x2)] ∧ (1 : Int) ≤ x2.toInt ∧ x2.toInt ≤ (48 : Int) ∧ t = s0), (fun L _ => (0 + (48 - (vg_li L 2).toInt) * 1000000000000).toNat))], ?_, List.forall_mem_cons.mpr ⟨?_, fun _ h => absurd h List.not_mem_nil⟩⟩
    ·
      refine And.intro (Nat.le_of_ble_eq_true rfl) (And.intro ⟨45, (Int32.ofInt 0), rfl, by decide, i0⟩ ?_)
      intro v1 s3 h2
      have h2 : s3 = s0 ∧ (True) := h2
      have q6 := h2.1.symm
      subst q6
      exact ⟨rfl, ⟨v1, (Int32.ofInt 1), rfl, (by omega), (by omega), rfl⟩, trivial⟩
    ·
      intro L s11 hL
      obtain ⟨w7, w8, rfl, b9, b10, q14⟩ := hL
      have q14 := q14.symm
      subst q14
      intro v15 e16
      have g17 : s0.1 45 2 = v15 := by rw [e16]
      have b18 : (0 : Int) ≤ v15.toInt ∧ v15.toInt ≤ 48 := by rw [e16]; exact Iv_45_2 i0
      refine And.intro (fun c19 => ?_) (fun c19 => ?_)
      · have c19 : v15.toInt ≤ w8.toInt := c19
        show s0 = s0 ∧ (True)
        exact ⟨rfl, (trivial)⟩
      · have c19 : ¬ (v15.toInt ≤ w8.toInt) := c19
        refine And.intro (Nat.le_of_ble_eq_true rfl) (And.intro ⟨45, w8, rfl, by decide, i0⟩ ?_)
        intro v20 s22 h21
        have h21 : s22 = s0 ∧ (True) := h21
        have q25 := h21.1.symm
        subst q25
        refine And.intro (Nat.le_of_ble_eq_true rfl) (And.intro ⟨w7, v20, rfl, trivial⟩ ?_)
        intro v26 s28 h27
        have h27 : s28 = s0 ∧ (v26.toInt ≤ w7.toInt ∧ v26.toInt ≤ v20.toInt ∧ (v26.toInt = w7.toInt ∨ v26.toInt = v20.toInt)) := h27
        have q31 := h27.1.symm
        subst q31
        have q32 := h27.2
        intro v33 e34
        have b35 := vg_add e34 (by omega) (by omega)
        exact ⟨rfl, ⟨v26, v33, rfl, (by omega), (by omega), rfl⟩, (by show (0 + (48 - v33.toInt) * 1000000000000).toNat < (0 + (48 - w8.toInt) * 1000000000000).toNat; omega)⟩
  ·
    have z0 : (Int32.ofInt 0).toInt = 0 := by decide
    have z1 : (Int32.ofInt 1).toInt = 1 := by decide
    refine ⟨Nat.le_of_ble_eq_true rfl, [(8, [true, true, true], (fun L t => ∃ (x1 : Int32) (x2 : Int32), L = [some (.ref 47), some (.int x1), some (.int x2)] ∧ (1 : Int) ≤ x2.toInt ∧ x2.toInt ≤ (48 : Int) ∧ t = s0), (fun L _ => (0 + (48 - (vg_li L 2).toInt) * 1000000000000).toNat))], ?_, List.forall_mem_cons.mpr ⟨?_, fun _ h => absurd h List.not_mem_nil⟩⟩
    ·
      refine And.intro (Nat.le_of_ble_eq_true rfl) (And.intro ⟨47, (Int32.ofInt 0), rfl, by decide, i0⟩ ?_)
      intro v1 s3 h2
      have h2 : s3 = s0 ∧ (True) := h2
      have q6 := h2.1.symm
      subst q6
      exact ⟨rfl, ⟨v1, (Int32.ofInt 1), rfl, (by omega), (by omega), rfl⟩, trivial⟩
    ·
      intro L s11 hL
      obtain ⟨w7, w8, rfl, b9, b10, q14⟩ := hL
      have q14 := q14.symm
      subst q14
      intro v15 e16
      have g17 : s0.1 47 2 = v15 := by rw [e16]
      have b18 : (0 : Int) ≤ v15.toInt ∧ v15.toInt ≤ 48 := by rw [e16]; exact Iv_47_2 i0
      refine And.intro (fun c19 => ?_) (fun c19 => ?_)
      · have c19 : v15.toInt ≤ w8.toInt := c19
        show s0 = s0 ∧ (True)
        exact ⟨rfl, (trivial)⟩
      · have c19 : ¬ (v15.toInt ≤ w8.toInt) := c19
        refine And.intro (Nat.le_of_ble_eq_true rfl) (And.intro ⟨47, w8, rfl, by decide, i0⟩ ?_)
        intro v20 s22 h21
        have h21 : s22 = s0 ∧ (True) := h21
        have q25 := h21.1.symm
        subst q25
        refine And.intro (Nat.le_of_ble_eq_true rfl) (And.intro ⟨w7, v20, rfl, trivial⟩ ?_)
        intro v26 s28 h27
        have h27 : s28 = s0 ∧ (v26.toInt ≤ w7.toInt ∧ v26.toInt ≤ v20.toInt ∧ (v26.toInt = w7.toInt ∨ v26.toInt = v20.toInt)) := h27
        have q31 := h27.1.symm
        subst q31
        have q32 := h27.2
        intro v33 e34
        have b35 := vg_add e34 (by omega) (by omega)
        exact ⟨rfl, ⟨v26, v33, rfl, (by omega), (by omega), rfl⟩, (by show (0 + (48 - v33.toInt) * 1000000000000).toNat < (0 + (48 - w8.toInt) * 1000000000000).toNat; omega)⟩
  ·
    have z0 : (Int32.ofInt 0).toInt = 0 := by decide
    have z1 : (Int32.ofInt 1).toInt = 1 := by decide
    refine ⟨Nat.le_of_ble_eq_true rfl, [(8, [true, true, true], (fun L t => ∃ (x1 : Int32) (x2 : Int32), L = [some (.ref 49), some (.int x1), some (.int x2)] ∧ (1 : Int) ≤ x2.toInt ∧ x2.toInt ≤ (48 : Int) ∧ t = s0), (fun L _ => (0 + (48 - (vg_li L 2).toInt) * 1000000000000).toNat))], ?_, List.forall_mem_cons.mpr ⟨?_, fun _ h => absurd h List.not_mem_nil⟩⟩
    ·
      refine And.intro (Nat.le_of_ble_eq_true rfl) (And.intro ⟨49, (Int32.ofInt 0), rfl, by decide, i0⟩ ?_)
      intro v1 s3 h2
      have h2 : s3 = s0 ∧ (True) := h2
      have q6 := h2.1.symm
      subst q6
      exact ⟨rfl, ⟨v1, (Int32.ofInt 1), rfl, (by omega), (by omega), rfl⟩, trivial⟩
    ·
      intro L s11 hL
      obtain ⟨w7, w8, rfl, b9, b10, q14⟩ := hL
      have q14 := q14.symm
      subst q14
      intro v15 e16
      have g17 : s0.1 49 2 = v15 := by rw [e16]
      have b18 : (0 : Int) ≤ v15.toInt ∧ v15.toInt ≤ 48 := by rw [e16]; exact Iv_49_2 i0
      refine And.intro (fun c19 => ?_) (fun c19 => ?_)
      · have c19 : v15.toInt ≤ w8.toInt := c19
        show s0 = s0 ∧ (True)
        exact ⟨rfl, (trivial)⟩
      · have c19 : ¬ (v15.toInt ≤ w8.toInt) := c19
        refine And.intro (Nat.le_of_ble_eq_true rfl) (And.intro ⟨49, w8, rfl, by decide, i0⟩ ?_)
        intro v20 s22 h21
        have h21 : s22 = s0 ∧ (True) := h21
        have q25 := h21.1.symm
        subst q25
        refine And.intro (Nat.le_of_ble_eq_true rfl) (And.intro ⟨w7, v20, rfl, trivial⟩ ?_)
        intro v26 s28 h27
        have h27 : s28 = s0 ∧ (v26.toInt ≤ w7.toInt ∧ v26.toInt ≤ v20.toInt ∧ (v26.toInt = w7.toInt ∨ v26.toInt = v20.toInt)) := h27
        have q31 := h27.1.symm
        subst q31
        have q32 := h27.2
        intro v33 e34
        have b35 := vg_add e34 (by omega) (by omega)
        exact ⟨rfl, ⟨v26, v33, rfl, (by omega), (by omega), rfl⟩, (by show (0 + (48 - v33.toInt) * 1000000000000).toNat < (0 + (48 - w8.toInt) * 1000000000000).toNat; omega)⟩
  ·
    have z0 : (Int32.ofInt 0).toInt = 0 := by decide
    have z1 : (Int32.ofInt 1).toInt = 1 := by decide
    refine ⟨Nat.le_of_ble_eq_true rfl, [(8, [true, true, true], (fun L t => ∃ (x1 : Int32) (x2 : Int32), L = [some (.ref 51), some (.int x1), some (.int x2)] ∧ (1 : Int) ≤ x2.toInt ∧ x2.toInt ≤ (48 : Int) ∧ t = s0), (fun L _ => (0 + (48 - (vg_li L 2).toInt) * 1000000000000).toNat))], ?_, List.forall_mem_cons.mpr ⟨?_, fun _ h => absurd h List.not_mem_nil⟩⟩
    ·
      refine And.intro (Nat.le_of_ble_eq_true rfl) (And.intro ⟨51, (Int32.ofInt 0), rfl, by decide, i0⟩ ?_)
      intro v1 s3 h2
      have h2 : s3 = s0 ∧ (True) := h2
      have q6 := h2.1.symm
      subst q6
      exact ⟨rfl, ⟨v1, (Int32.ofInt 1), rfl, (by omega), (by omega), rfl⟩, trivial⟩
    ·
      intro L s11 hL
      obtain ⟨w7, w8, rfl, b9, b10, q14⟩ := hL
      have q14 := q14.symm
      subst q14
      intro v15 e16
      have g17 : s0.1 51 2 = v15 := by rw [e16]
      have b18 : (0 : Int) ≤ v15.toInt ∧ v15.toInt ≤ 48 := by rw [e16]; exact Iv_51_2 i0
      refine And.intro (fun c19 => ?_) (fun c19 => ?_)
      · have c19 : v15.toInt ≤ w8.toInt := c19
        show s0 = s0 ∧ (True)
        exact ⟨rfl, (trivial)⟩
      · have c19 : ¬ (v15.toInt ≤ w8.toInt) := c19
        refine And.intro (Nat.le_of_ble_eq_true rfl) (And.intro ⟨51, w8, rfl, by decide, i0⟩ ?_)
        intro v20 s22 h21
        have h21 : s22 = s0 ∧ (True) := h21
        have q25 := h21.1.symm
        subst q25
        refine And.intro (Nat.le_of_ble_eq_true rfl) (And.intro ⟨w7, v20, rfl, trivial⟩ ?_)
        intro v26 s28 h27
        have h27 : s28 = s0 ∧ (v26.toInt ≤ w7.toInt ∧ v26.toInt ≤ v20.toInt ∧ (v26.toInt = w7.toInt ∨ v26.toInt = v20.toInt)) := h27
        have q31 := h27.1.symm
        subst q31
        have q32 := h27.2
        intro v33 e34
        have b35 := vg_add e34 (by omega) (by omega)
        exact ⟨rfl, ⟨v26, v33, rfl, (by omega), (by omega), rfl⟩, (by show (0 + (48 - v33.toInt) * 1000000000000).toNat < (0 + (48 - w8.toInt) * 1000000000000).toNat; omega)⟩
  ·
    have z0 : (Int32.ofInt 0).toInt = 0 := by decide
    have z1 : (Int32.ofInt 1).toInt = 1 := by decide
    refine ⟨Nat.le_of_ble_eq_true rfl, [(8, [true, true, true], (fun L t => ∃ (x1 : Int32) (x2 : Int32), L = [some (.ref 53), some (.int x1), some (.int x2)] ∧ (1 : Int) ≤ x2.toInt ∧ x2.toInt ≤ (48 : Int) ∧ t = s0), (fun L _ => (0 + (48 - (vg_li L 2).toInt) * 1000000000000).toNat))], ?_, List.forall_mem_cons.mpr ⟨?_, fun _ h => absurd h List.not_mem_nil⟩⟩
    ·
      refine And.intro (Nat.le_of_ble_eq_true rfl) (And.intro ⟨53, (Int32.ofInt 0), rfl, by decide, i0⟩ ?_)
      intro v1 s3 h2
      have h2 : s3 = s0 ∧ (True) := h2
      have q6 := h2.1.symm
      subst q6
      exact ⟨rfl, ⟨v1, (Int32.ofInt 1), rfl, (by omega), (by omega), rfl⟩, trivial⟩
    ·
      intro L s11 hL
      obtain ⟨w7, w8, rfl, b9, b10, q14⟩ := hL
      have q14 := q14.symm
      subst q14
      intro v15 e16
      have g17 : s0.1 53 2 = v15 := by rw [e16]
      have b18 : (0 : Int) ≤ v15.toInt ∧ v15.toInt ≤ 48 := by rw [e16]; exact Iv_53_2 i0
      refine And.intro (fun c19 => ?_) (fun c19 => ?_)
      · have c19 : v15.toInt ≤ w8.toInt := c19
        show s0 = s0 ∧ (True)
        exact ⟨rfl, (trivial)⟩
      · have c19 : ¬ (v15.toInt ≤ w8.toInt) := c19
        refine And.intro (Nat.le_of_ble_eq_true rfl) (And.intro ⟨53, w8, rfl, by decide, i0⟩ ?_)
        intro v20 s22 h21
        have h21 : s22 = s0 ∧ (True) := h21
        have q25 := h21.1.symm
        subst q25
        refine And.intro (Nat.le_of_ble_eq_true rfl) (And.intro ⟨w7, v20, rfl, trivial⟩ ?_)
        intro v26 s28 h27
        have h27 : s28 = s0 ∧ (v26.toInt ≤ w7.toInt ∧ v26.toInt ≤ v20.toInt ∧ (v26.toInt = w7.toInt ∨ v26.toInt = v20.toInt)) := h27
        have q31 := h27.1.symm
        subst q31
        have q32 := h27.2
        intro v33 e34
        have b35 := vg_add e34 (by omega) (by omega)
        exact ⟨rfl, ⟨v26, v33, rfl, (by omega), (by omega), rfl⟩, (by show (0 + (48 - v33.toInt) * 1000000000000).toNat < (0 + (48 - w8.toInt) * 1000000000000).toNat; omega)⟩
def o_X4_greatest : List vg_I := [(0, .aload_n 0, 1, 0, 0, 0, 0), (1, .iconst 0, 1, 0, 0, 0, 0), (2, .invokevirtual 29, 3, 0, 4, 1, 829), (5, .istore_n 1, 1, 0, 0, 0, 0), (6, .iconst 1, 1, 0, 0, 0, 0), (7, .istore_n 2, 1, 0, 0, 0, 0), (8, .iload_n 2, 1, 0, 0, 0, 0), (9, .aload_n 0, 1, 0, 0, 0, 0), (10, .getfield 13, 3, 414, 4, 2, 0), (13, .if_icmp .ge 19, 3, 0, 0, 0, 0), (16, .iload_n 1, 1, 0, 0, 0, 0), (17, .aload_n 0, 1, 0, 0, 0, 0), (18, .iload_n 2, 1, 0, 0, 0, 0), (19, .invokevirtual 29, 3, 0, 4, 1, 829), (22, .invokestatic 33, 3, 1, 1, 2, 834), (25, .istore_n 1, 1, 0, 0, 0, 0), (26, .iinc 2 1, 3, 0, 0, 0, 0), (29, .goto (-21), 3, 0, 0, 0, 0), (32, .iload_n 1, 1, 0, 0, 0, 0), (33, .ireturn, 1, 0, 0, 0, 0)]
set_option maxRecDepth 100000 in
set_option maxHeartbeats 4000000 in
theorem c_X4_greatest (l : Launch) (G : vg_G) (hp : vg_Hp G) : vg_Ct l G vg_sh r_X4_greatest := by
  refine vg_meth hp vg_sh_ok r_X4_greatest k_X4_greatest rfl (fun h => by cases h) o_X4_greatest [r_X4_get, r_J9_max_7cf53] false (by decide +kernel) (by decide +kernel) ⟨_, _, rfl, rfl⟩ (List.forall_mem_cons.mpr ⟨⟨c_X4_get l G hp, Nat.le_of_ble_eq_true rfl, Nat.le_of_ble_eq_true rfl⟩, List.forall_mem_cons.mpr ⟨⟨c_J9_max_7cf53 l G hp, Nat.le_of_ble_eq_true rfl, Nat.le_of_ble_eq_true rfl⟩, fun _ h => absurd h List.not_mem_nil⟩⟩) (fun h => by cases h) 600 ?_
  intro as s0 hpre
  obtain ⟨r, rfl, hr, i0⟩ := hpre
  simp only [List.mem_cons, List.not_mem_nil, or_false] at hr
  rcases hr with rfl | rfl | rfl | rfl | rfl | rfl | rfl
  ·
    have z0 : (Int32.ofInt 0).toInt = 0 := by decide
    have z1 : (Int32.ofInt 1).toInt = 1 := by decide
    refine ⟨Nat.le_of_ble_eq_true rfl, [(8, [true, true, true], (fun L t => ∃ (x1 : Int32) (x2 : Int32), L = [some (.ref 41), some (.int x1), some (.int x2)] ∧ (1 : Int) ≤ x2.toInt ∧ x2.toInt ≤ (48 : Int) ∧ t = s0), (fun L _ => (0 + (48 - (vg_li L 2).toInt) * 1000000000000).toNat))], ?_, List.forall_mem_cons.mpr ⟨?_, fun _ h => absurd h List.not_mem_nil⟩⟩
    ·
      refine And.intro (Nat.le_of_ble_eq_true rfl) (And.intro ⟨41, (Int32.ofInt 0), rfl, by decide, i0⟩ ?_)
      intro v1 s3 h2
      have h2 : s3 = s0 ∧ (True) := h2
      have q6 := h2.1.symm
      subst q6
      exact ⟨rfl, ⟨v1, (Int32.ofInt 1), rfl, (by omega), (by omega), rfl⟩, trivial⟩
    ·
      intro L s11 hL
      obtain ⟨w7, w8, rfl, b9, b10, q14⟩ := hL
      have q14 := q14.symm
      subst q14
      intro v15 e16
      have g17 : s0.1 41 2 = v15 := by rw [e16]
      have b18 : (0 : Int) ≤ v15.toInt ∧ v15.toInt ≤ 48 := by rw [e16]; exact Iv_41_2 i0
      refine And.intro (fun c19 => ?_) (fun c19 => ?_)
      · have c19 : v15.toInt ≤ w8.toInt := c19
        show s0 = s0 ∧ (True)
        exact ⟨rfl, (trivial)⟩
      · have c19 : ¬ (v15.toInt ≤ w8.toInt) := c19
        refine And.intro (Nat.le_of_ble_eq_true rfl) (And.intro ⟨41, w8, rfl, by decide, i0⟩ ?_)
        intro v20 s22 h21
        have h21 : s22 = s0 ∧ (True) := h21
        have q25 := h21.1.symm
        subst q25
        refine And.intro (Nat.le_of_ble_eq_true rfl) (And.intro ⟨w7, v20, rfl, trivial⟩ ?_)
        intro v26 s28 h27
        have h27 : s28 = s0 ∧ (w7.toInt ≤ v26.toInt ∧ v20.toInt ≤ v26.toInt ∧ (v26.toInt = w7.toInt ∨ v26.toInt = v20.toInt)) := h27
        have q31 := h27.1.symm
        subst q31
        have q32 := h27.2
        intro v33 e34
        have b35 := vg_add e34 (by omega) (by omega)
        exact ⟨rfl, ⟨v26, v33, rfl, (by omega), (by omega), rfl⟩, (by show (0 + (48 - v33.toInt) * 1000000000000).toNat < (0 + (48 - w8.toInt) * 1000000000000).toNat; omega)⟩
  ·
    have z0 : (Int32.ofInt 0).toInt = 0 := by decide
    have z1 : (Int32.ofInt 1).toInt = 1 := by decide
    refine ⟨Nat.le_of_ble_eq_true rfl, [(8, [true, true, true], (fun L t => ∃ (x1 : Int32) (x2 : Int32), L = [some (.ref 43), some (.int x1), some (.int x2)] ∧ (1 : Int) ≤ x2.toInt ∧ x2.toInt ≤ (48 : Int) ∧ t = s0), (fun L _ => (0 + (48 - (vg_li L 2).toInt) * 1000000000000).toNat))], ?_, List.forall_mem_cons.mpr ⟨?_, fun _ h => absurd h List.not_mem_nil⟩⟩
    ·
      refine And.intro (Nat.le_of_ble_eq_true rfl) (And.intro ⟨43, (Int32.ofInt 0), rfl, by decide, i0⟩ ?_)
      intro v1 s3 h2
      have h2 : s3 = s0 ∧ (True) := h2
      have q6 := h2.1.symm
      subst q6
      exact ⟨rfl, ⟨v1, (Int32.ofInt 1), rfl, (by omega), (by omega), rfl⟩, trivial⟩
    ·
      intro L s11 hL
      obtain ⟨w7, w8, rfl, b9, b10, q14⟩ := hL
      have q14 := q14.symm
      subst q14
      intro v15 e16
      have g17 : s0.1 43 2 = v15 := by rw [e16]
      have b18 : (0 : Int) ≤ v15.toInt ∧ v15.toInt ≤ 48 := by rw [e16]; exact Iv_43_2 i0
      refine And.intro (fun c19 => ?_) (fun c19 => ?_)
      · have c19 : v15.toInt ≤ w8.toInt := c19
        show s0 = s0 ∧ (True)
        exact ⟨rfl, (trivial)⟩
      · have c19 : ¬ (v15.toInt ≤ w8.toInt) := c19
        refine And.intro (Nat.le_of_ble_eq_true rfl) (And.intro ⟨43, w8, rfl, by decide, i0⟩ ?_)
        intro v20 s22 h21
        have h21 : s22 = s0 ∧ (True) := h21
        have q25 := h21.1.symm
        subst q25
        refine And.intro (Nat.le_of_ble_eq_true rfl) (And.intro ⟨w7, v20, rfl, trivial⟩ ?_)
        intro v26 s28 h27
        have h27 : s28 = s0 ∧ (w7.toInt ≤ v26.toInt ∧ v20.toInt ≤ v26.toInt ∧ (v26.toInt = w7.toInt ∨ v26.toInt = v20.toInt)) := h27
        have q31 := h27.1.symm
        subst q31
        have q32 := h27.2
        intro v33 e34
        have b35 := vg_add e34 (by omega) (by omega)
        exact ⟨rfl, ⟨v26, v33, rfl, (by omega), (by omega), rfl⟩, (by show (0 + (48 - v33.toInt) * 1000000000000).toNat < (0 + (48 - w8.toInt) * 1000000000000).toNat; omega)⟩
  ·
    have z0 : (Int32.ofInt 0).toInt = 0 := by decide
    have z1 : (Int32.ofInt 1).toInt = 1 := by decide
    refine ⟨Nat.le_of_ble_eq_true rfl, [(8, [true, true, true], (fun L t => ∃ (x1 : Int32) (x2 : Int32), L = [some (.ref 45), some (.int x1), some (.int x2)] ∧ (1 : Int) ≤ x2.toInt ∧ x2.toInt ≤ (48 : Int) ∧ t = s0), (fun L _ => (0 + (48 - (vg_li L 2).toInt) * 1000000000000).toNat))], ?_, List.forall_mem_cons.mpr ⟨?_, fun _ h => absurd h List.not_mem_nil⟩⟩
    ·
      refine And.intro (Nat.le_of_ble_eq_true rfl) (And.intro ⟨45, (Int32.ofInt 0), rfl, by decide, i0⟩ ?_)
      intro v1 s3 h2
      have h2 : s3 = s0 ∧ (True) := h2
      have q6 := h2.1.symm
      subst q6
      exact ⟨rfl, ⟨v1, (Int32.ofInt 1), rfl, (by omega), (by omega), rfl⟩, trivial⟩
    ·
      intro L s11 hL
      obtain ⟨w7, w8, rfl, b9, b10, q14⟩ := hL
      have q14 := q14.symm
      subst q14
      intro v15 e16
      have g17 : s0.1 45 2 = v15 := by rw [e16]
      have b18 : (0 : Int) ≤ v15.toInt ∧ v15.toInt ≤ 48 := by rw [e16]; exact Iv_45_2 i0
      refine And.intro (fun c19 => ?_) (fun c19 => ?_)
      · have c19 : v15.toInt ≤ w8.toInt := c19
        show s0 = s0 ∧ (True)
        exact ⟨rfl, (trivial)⟩
      · have c19 : ¬ (v15.toInt ≤ w8.toInt) := c19
        refine And.intro (Nat.le_of_ble_eq_true rfl) (And.intro ⟨45, w8, rfl, by decide, i0⟩ ?_)
        intro v20 s22 h21
        have h21 : s22 = s0 ∧ (True) := h21
        have q25 := h21.1.symm
        subst q25
        refine And.intro (Nat.le_of_ble_eq_true rfl) (And.intro ⟨w7, v20, rfl, trivial⟩ ?_)
        intro v26 s28 h27
        have h27 : s28 = s0 ∧ (w7.toInt ≤ v26.toInt ∧ v20.toInt ≤ v26.toInt ∧ (v26.toInt = w7.toInt ∨ v26.toInt = v20.toInt)) := h27
        have q31 := h27.1.symm
        subst q31
        have q32 := h27.2
        intro v33 e34
        have b35 := vg_add e34 (by omega) (by omega)
        exact ⟨rfl, ⟨v26, v33, rfl, (by omega), (by omega), rfl⟩, (by show (0 + (48 - v33.toInt) * 1000000000000).toNat < (0 + (48 - w8.toInt) * 1000000000000).toNat; omega)⟩
  ·
    have z0 : (Int32.ofInt 0).toInt = 0 := by decide
    have z1 : (Int32.ofInt 1).toInt = 1 := by decide
    refine ⟨Nat.le_of_ble_eq_true rfl, [(8, [true, true, true], (fun L t => ∃ (x1 : Int32) (x2 : Int32), L = [some (.ref 47), some (.int x1), some (.int x2)] ∧ (1 : Int) ≤ x2.toInt ∧ x2.toInt ≤ (48 : Int) ∧ t = s0), (fun L _ => (0 + (48 - (vg_li L 2).toInt) * 1000000000000).toNat))], ?_, List.forall_mem_cons.mpr ⟨?_, fun _ h => absurd h List.not_mem_nil⟩⟩
    ·
      refine And.intro (Nat.le_of_ble_eq_true rfl) (And.intro ⟨47, (Int32.ofInt 0), rfl, by decide, i0⟩ ?_)
      intro v1 s3 h2
      have h2 : s3 = s0 ∧ (True) := h2
      have q6 := h2.1.symm
      subst q6
      exact ⟨rfl, ⟨v1, (Int32.ofInt 1), rfl, (by omega), (by omega), rfl⟩, trivial⟩
    ·
      intro L s11 hL
      obtain ⟨w7, w8, rfl, b9, b10, q14⟩ := hL
      have q14 := q14.symm
      subst q14
      intro v15 e16
      have g17 : s0.1 47 2 = v15 := by rw [e16]
      have b18 : (0 : Int) ≤ v15.toInt ∧ v15.toInt ≤ 48 := by rw [e16]; exact Iv_47_2 i0
      refine And.intro (fun c19 => ?_) (fun c19 => ?_)
      · have c19 : v15.toInt ≤ w8.toInt := c19
        show s0 = s0 ∧ (True)
        exact ⟨rfl, (trivial)⟩
      · have c19 : ¬ (v15.toInt ≤ w8.toInt) := c19
        refine And.intro (Nat.le_of_ble_eq_true rfl) (And.intro ⟨47, w8, rfl, by decide, i0⟩ ?_)
        intro v20 s22 h21
        have h21 : s22 = s0 ∧ (True) := h21
        have q25 := h21.1.symm
        subst q25
        refine And.intro (Nat.le_of_ble_eq_true rfl) (And.intro ⟨w7, v20, rfl, trivial⟩ ?_)
        intro v26 s28 h27
        have h27 : s28 = s0 ∧ (w7.toInt ≤ v26.toInt ∧ v20.toInt ≤ v26.toInt ∧ (v26.toInt = w7.toInt ∨ v26.toInt = v20.toInt)) := h27
        have q31 := h27.1.symm
        subst q31
        have q32 := h27.2
        intro v33 e34
        have b35 := vg_add e34 (by omega) (by omega)
        exact ⟨rfl, ⟨v26, v33, rfl, (by omega), (by omega), rfl⟩, (by show (0 + (48 - v33.toInt) * 1000000000000).toNat < (0 + (48 - w8.toInt) * 1000000000000).toNat; omega)⟩
  ·
    have z0 : (Int32.ofInt 0).toInt = 0 := by decide
    have z1 : (Int32.ofInt 1).toInt = 1 := by decide
    refine ⟨Nat.le_of_ble_eq_true rfl, [(8, [true, true, true], (fun L t => ∃ (x1 : Int32) (x2 : Int32), L = [some (.ref 49), some (.int x1), some (.int x2)] ∧ (1 : Int) ≤ x2.toInt ∧ x2.toInt ≤ (48 : Int) ∧ t = s0), (fun L _ => (0 + (48 - (vg_li L 2).toInt) * 1000000000000).toNat))], ?_, List.forall_mem_cons.mpr ⟨?_, fun _ h => absurd h List.not_mem_nil⟩⟩
    ·
      refine And.intro (Nat.le_of_ble_eq_true rfl) (And.intro ⟨49, (Int32.ofInt 0), rfl, by decide, i0⟩ ?_)
      intro v1 s3 h2
      have h2 : s3 = s0 ∧ (True) := h2
      have q6 := h2.1.symm
      subst q6
      exact ⟨rfl, ⟨v1, (Int32.ofInt 1), rfl, (by omega), (by omega), rfl⟩, trivial⟩
    ·
      intro L s11 hL
      obtain ⟨w7, w8, rfl, b9, b10, q14⟩ := hL
      have q14 := q14.symm
      subst q14
      intro v15 e16
      have g17 : s0.1 49 2 = v15 := by rw [e16]
      have b18 : (0 : Int) ≤ v15.toInt ∧ v15.toInt ≤ 48 := by rw [e16]; exact Iv_49_2 i0
      refine And.intro (fun c19 => ?_) (fun c19 => ?_)
      · have c19 : v15.toInt ≤ w8.toInt := c19
        show s0 = s0 ∧ (True)
        exact ⟨rfl, (trivial)⟩
      · have c19 : ¬ (v15.toInt ≤ w8.toInt) := c19
        refine And.intro (Nat.le_of_ble_eq_true rfl) (And.intro ⟨49, w8, rfl, by decide, i0⟩ ?_)
        intro v20 s22 h21
        have h21 : s22 = s0 ∧ (True) := h21
        have q25 := h21.1.symm
        subst q25
        refine And.intro (Nat.le_of_ble_eq_true rfl) (And.intro ⟨w7, v20, rfl, trivial⟩ ?_)
        intro v26 s28 h27
        have h27 : s28 = s0 ∧ (w7.toInt ≤ v26.toInt ∧ v20.toInt ≤ v26.toInt ∧ (v26.toInt = w7.toInt ∨ v26.toInt = v20.toInt)) := h27
        have q31 := h27.1.symm
        subst q31
        have q32 := h27.2
        intro v33 e34
        have b35 := vg_add e34 (by omega) (by omega)
        exact ⟨rfl, ⟨v26, v33, rfl, (by omega), (by omega), rfl⟩, (by show (0 + (48 - v33.toInt) * 1000000000000).toNat < (0 + (48 - w8.toInt) * 1000000000000).toNat; omega)⟩
  ·
    have z0 : (Int32.ofInt 0).toInt = 0 := by decide
    have z1 : (Int32.ofInt 1).toInt = 1 := by decide
    refine ⟨Nat.le_of_ble_eq_true rfl, [(8, [true, true, true], (fun L t => ∃ (x1 : Int32) (x2 : Int32), L = [some (.ref 51), some (.int x1), some (.int x2)] ∧ (1 : Int) ≤ x2.toInt ∧ x2.toInt ≤ (48 : Int) ∧ t = s0), (fun L _ => (0 + (48 - (vg_li L 2).toInt) * 1000000000000).toNat))], ?_, List.forall_mem_cons.mpr ⟨?_, fun _ h => absurd h List.not_mem_nil⟩⟩
    ·
      refine And.intro (Nat.le_of_ble_eq_true rfl) (And.intro ⟨51, (Int32.ofInt 0), rfl, by decide, i0⟩ ?_)
      intro v1 s3 h2
      have h2 : s3 = s0 ∧ (True) := h2
      have q6 := h2.1.symm
      subst q6
      exact ⟨rfl, ⟨v1, (Int32.ofInt 1), rfl, (by omega), (by omega), rfl⟩, trivial⟩
    ·
      intro L s11 hL
      obtain ⟨w7, w8, rfl, b9, b10, q14⟩ := hL
      have q14 := q14.symm
      subst q14
      intro v15 e16
      have g17 : s0.1 51 2 = v15 := by rw [e16]
      have b18 : (0 : Int) ≤ v15.toInt ∧ v15.toInt ≤ 48 := by rw [e16]; exact Iv_51_2 i0
      refine And.intro (fun c19 => ?_) (fun c19 => ?_)
      · have c19 : v15.toInt ≤ w8.toInt := c19
        show s0 = s0 ∧ (True)
        exact ⟨rfl, (trivial)⟩
      · have c19 : ¬ (v15.toInt ≤ w8.toInt) := c19
        refine And.intro (Nat.le_of_ble_eq_true rfl) (And.intro ⟨51, w8, rfl, by decide, i0⟩ ?_)
        intro v20 s22 h21
        have h21 : s22 = s0 ∧ (True) := h21
        have q25 := h21.1.symm
        subst q25
        refine And.intro (Nat.le_of_ble_eq_true rfl) (And.intro ⟨w7, v20, rfl, trivial⟩ ?_)
        intro v26 s28 h27
        have h27 : s28 = s0 ∧ (w7.toInt ≤ v26.toInt ∧ v20.toInt ≤ v26.toInt ∧ (v26.toInt = w7.toInt ∨ v26.toInt = v20.toInt)) := h27
        have q31 := h27.1.symm
        subst q31
        have q32 := h27.2
        intro v33 e34
        have b35 := vg_add e34 (by omega) (by omega)
        exact ⟨rfl, ⟨v26, v33, rfl, (by omega), (by omega), rfl⟩, (by show (0 + (48 - v33.toInt) * 1000000000000).toNat < (0 + (48 - w8.toInt) * 1000000000000).toNat; omega)⟩
  ·
    have z0 : (Int32.ofInt 0).toInt = 0 := by decide
    have z1 : (Int32.ofInt 1).toInt = 1 := by decide
    refine ⟨Nat.le_of_ble_eq_true rfl, [(8, [true, true, true], (fun L t => ∃ (x1 : Int32) (x2 : Int32), L = [some (.ref 53), some (.int x1), some (.int x2)] ∧ (1 : Int) ≤ x2.toInt ∧ x2.toInt ≤ (48 : Int) ∧ t = s0), (fun L _ => (0 + (48 - (vg_li L 2).toInt) * 1000000000000).toNat))], ?_, List.forall_mem_cons.mpr ⟨?_, fun _ h => absurd h List.not_mem_nil⟩⟩
    ·
      refine And.intro (Nat.le_of_ble_eq_true rfl) (And.intro ⟨53, (Int32.ofInt 0), rfl, by decide, i0⟩ ?_)
      intro v1 s3 h2
      have h2 : s3 = s0 ∧ (True) := h2
      have q6 := h2.1.symm
      subst q6
      exact ⟨rfl, ⟨v1, (Int32.ofInt 1), rfl, (by omega), (by omega), rfl⟩, trivial⟩
    ·
      intro L s11 hL
      obtain ⟨w7, w8, rfl, b9, b10, q14⟩ := hL
      have q14 := q14.symm
      subst q14
      intro v15 e16
      have g17 : s0.1 53 2 = v15 := by rw [e16]
      have b18 : (0 : Int) ≤ v15.toInt ∧ v15.toInt ≤ 48 := by rw [e16]; exact Iv_53_2 i0
      refine And.intro (fun c19 => ?_) (fun c19 => ?_)
      · have c19 : v15.toInt ≤ w8.toInt := c19
        show s0 = s0 ∧ (True)
        exact ⟨rfl, (trivial)⟩
      · have c19 : ¬ (v15.toInt ≤ w8.toInt) := c19
        refine And.intro (Nat.le_of_ble_eq_true rfl) (And.intro ⟨53, w8, rfl, by decide, i0⟩ ?_)
        intro v20 s22 h21
        have h21 : s22 = s0 ∧ (True) := h21
        have q25 := h21.1.symm
        subst q25
        refine And.intro (Nat.le_of_ble_eq_true rfl) (And.intro ⟨w7, v20, rfl, trivial⟩ ?_)
        intro v26 s28 h27
        have h27 : s28 = s0 ∧ (w7.toInt ≤ v26.toInt ∧ v20.toInt ≤ v26.toInt ∧ (v26.toInt = w7.toInt ∨ v26.toInt = v20.toInt)) := h27
        have q31 := h27.1.symm
        subst q31
        have q32 := h27.2
        intro v33 e34
        have b35 := vg_add e34 (by omega) (by omega)
        exact ⟨rfl, ⟨v26, v33, rfl, (by omega), (by omega), rfl⟩, (by show (0 + (48 - v33.toInt) * 1000000000000).toNat < (0 + (48 - w8.toInt) * 1000000000000).toNat; omega)⟩
def o_X4_total : List vg_I := [(0, .lconst 0, 1, 0, 0, 0, 0), (1, .lstore_n 1, 1, 0, 0, 0, 0), (2, .iconst 0, 1, 0, 0, 0, 0), (3, .istore_n 3, 1, 0, 0, 0, 0), (4, .iload_n 3, 1, 0, 0, 0, 0), (5, .aload_n 0, 1, 0, 0, 0, 0), (6, .getfield 13, 3, 414, 4, 2, 0), (9, .if_icmp .ge 18, 3, 0, 0, 0, 0), (12, .lload_n 1, 1, 0, 0, 0, 0), (13, .aload_n 0, 1, 0, 0, 0, 0), (14, .iload_n 3, 1, 0, 0, 0, 0), (15, .invokevirtual 29, 3, 0, 4, 1, 829), (18, .i2l, 1, 0, 0, 0, 0), (19, .ladd, 1, 0, 0, 0, 0), (20, .lstore_n 1, 1, 0, 0, 0, 0), (21, .iinc 3 1, 3, 0, 0, 0, 0), (24, .goto (-20), 3, 0, 0, 0, 0), (27, .lload_n 1, 1, 0, 0, 0, 0), (28, .lreturn, 1, 0, 0, 0, 0)]
set_option maxRecDepth 100000 in
set_option maxHeartbeats 4000000 in
theorem c_X4_total (l : Launch) (G : vg_G) (hp : vg_Hp G) : vg_Ct l G vg_sh r_X4_total := by
  refine vg_meth hp vg_sh_ok r_X4_total k_X4_total rfl (fun h => by cases h) o_X4_total [r_X4_get] false (by decide +kernel) (by decide +kernel) ⟨_, _, rfl, rfl⟩ (List.forall_mem_cons.mpr ⟨⟨c_X4_get l G hp, Nat.le_of_ble_eq_true rfl, Nat.le_of_ble_eq_true rfl⟩, fun _ h => absurd h List.not_mem_nil⟩) (fun h => by cases h) 600 ?_
  intro as s0 hpre
  obtain ⟨r, rfl, hr, i0⟩ := hpre
  simp only [List.mem_cons, List.not_mem_nil, or_false] at hr
  rcases hr with rfl | rfl | rfl | rfl | rfl | rfl | rfl
  ·
    have z0 : (Int32.ofInt 0).toInt = 0 := by decide
    have z1 : (Int32.ofInt 1).toInt = 1 := by decide
    refine ⟨Nat.le_of_ble_eq_true rfl, [(4, [true, true, false, true], (fun L t => ∃ (x1 : Int64) (x3 : Int32), L = [some (.ref 41), some (.long x1), none, some (.int x3)] ∧ (0 : Int) ≤ x3.toInt ∧ x3.toInt ≤ (48 : Int) ∧ t = s0), (fun L _ => (0 + (48 - (vg_li L 3).toInt) * 1000000000000).toNat))], ?_, List.forall_mem_cons.mpr ⟨?_, fun _ h => absurd h List.not_mem_nil⟩⟩
    ·
      exact ⟨rfl, ⟨(Int64.ofNat 0), (Int32.ofInt 0), rfl, (by omega), (by omega), rfl⟩, trivial⟩
    ·
      intro L s5 hL
      obtain ⟨w1, w2, rfl, b3, b4, q8⟩ := hL
      have q8 := q8.symm
      subst q8
      intro v9 e10
      have g11 : s0.1 41 2 = v9 := by rw [e10]
      have b12 : (0 : Int) ≤ v9.toInt ∧ v9.toInt ≤ 48 := by rw [e10]; exact Iv_41_2 i0
      refine And.intro (fun c13 => ?_) (fun c13 => ?_)
      · have c13 : v9.toInt ≤ w2.toInt := c13
        show s0 = s0 ∧ (True)
        exact ⟨rfl, (trivial)⟩
      · have c13 : ¬ (v9.toInt ≤ w2.toInt) := c13
        refine And.intro (Nat.le_of_ble_eq_true rfl) (And.intro ⟨41, w2, rfl, by decide, i0⟩ ?_)
        intro v14 s16 h15
        have h15 : s16 = s0 ∧ (True) := h15
        have q19 := h15.1.symm
        subst q19
        intro v20 e21
        intro v22 e23
        intro v24 e25
        have b26 := vg_add e25 (by omega) (by omega)
        exact ⟨rfl, ⟨v22, v24, rfl, (by omega), (by omega), rfl⟩, (by show (0 + (48 - v24.toInt) * 1000000000000).toNat < (0 + (48 - w2.toInt) * 1000000000000).toNat; omega)⟩
  ·
    have z0 : (Int32.ofInt 0).toInt = 0 := by decide
    have z1 : (Int32.ofInt 1).toInt = 1 := by decide
    refine ⟨Nat.le_of_ble_eq_true rfl, [(4, [true, true, false, true], (fun L t => ∃ (x1 : Int64) (x3 : Int32), L = [some (.ref 43), some (.long x1), none, some (.int x3)] ∧ (0 : Int) ≤ x3.toInt ∧ x3.toInt ≤ (48 : Int) ∧ t = s0), (fun L _ => (0 + (48 - (vg_li L 3).toInt) * 1000000000000).toNat))], ?_, List.forall_mem_cons.mpr ⟨?_, fun _ h => absurd h List.not_mem_nil⟩⟩
    ·
      exact ⟨rfl, ⟨(Int64.ofNat 0), (Int32.ofInt 0), rfl, (by omega), (by omega), rfl⟩, trivial⟩
    ·
      intro L s5 hL
      obtain ⟨w1, w2, rfl, b3, b4, q8⟩ := hL
      have q8 := q8.symm
      subst q8
      intro v9 e10
      have g11 : s0.1 43 2 = v9 := by rw [e10]
      have b12 : (0 : Int) ≤ v9.toInt ∧ v9.toInt ≤ 48 := by rw [e10]; exact Iv_43_2 i0
      refine And.intro (fun c13 => ?_) (fun c13 => ?_)
      · have c13 : v9.toInt ≤ w2.toInt := c13
        show s0 = s0 ∧ (True)
        exact ⟨rfl, (trivial)⟩
      · have c13 : ¬ (v9.toInt ≤ w2.toInt) := c13
        refine And.intro (Nat.le_of_ble_eq_true rfl) (And.intro ⟨43, w2, rfl, by decide, i0⟩ ?_)
        intro v14 s16 h15
        have h15 : s16 = s0 ∧ (True) := h15
        have q19 := h15.1.symm
        subst q19
        intro v20 e21
        intro v22 e23
        intro v24 e25
        have b26 := vg_add e25 (by omega) (by omega)
        exact ⟨rfl, ⟨v22, v24, rfl, (by omega), (by omega), rfl⟩, (by show (0 + (48 - v24.toInt) * 1000000000000).toNat < (0 + (48 - w2.toInt) * 1000000000000).toNat; omega)⟩
  ·
    have z0 : (Int32.ofInt 0).toInt = 0 := by decide
    have z1 : (Int32.ofInt 1).toInt = 1 := by decide
    refine ⟨Nat.le_of_ble_eq_true rfl, [(4, [true, true, false, true], (fun L t => ∃ (x1 : Int64) (x3 : Int32), L = [some (.ref 45), some (.long x1), none, some (.int x3)] ∧ (0 : Int) ≤ x3.toInt ∧ x3.toInt ≤ (48 : Int) ∧ t = s0), (fun L _ => (0 + (48 - (vg_li L 3).toInt) * 1000000000000).toNat))], ?_, List.forall_mem_cons.mpr ⟨?_, fun _ h => absurd h List.not_mem_nil⟩⟩
    ·
      exact ⟨rfl, ⟨(Int64.ofNat 0), (Int32.ofInt 0), rfl, (by omega), (by omega), rfl⟩, trivial⟩
    ·
      intro L s5 hL
      obtain ⟨w1, w2, rfl, b3, b4, q8⟩ := hL
      have q8 := q8.symm
      subst q8
      intro v9 e10
      have g11 : s0.1 45 2 = v9 := by rw [e10]
      have b12 : (0 : Int) ≤ v9.toInt ∧ v9.toInt ≤ 48 := by rw [e10]; exact Iv_45_2 i0
      refine And.intro (fun c13 => ?_) (fun c13 => ?_)
      · have c13 : v9.toInt ≤ w2.toInt := c13
        show s0 = s0 ∧ (True)
        exact ⟨rfl, (trivial)⟩
      · have c13 : ¬ (v9.toInt ≤ w2.toInt) := c13
        refine And.intro (Nat.le_of_ble_eq_true rfl) (And.intro ⟨45, w2, rfl, by decide, i0⟩ ?_)
        intro v14 s16 h15
        have h15 : s16 = s0 ∧ (True) := h15
        have q19 := h15.1.symm
        subst q19
        intro v20 e21
        intro v22 e23
        intro v24 e25
        have b26 := vg_add e25 (by omega) (by omega)
        exact ⟨rfl, ⟨v22, v24, rfl, (by omega), (by omega), rfl⟩, (by show (0 + (48 - v24.toInt) * 1000000000000).toNat < (0 + (48 - w2.toInt) * 1000000000000).toNat; omega)⟩
  ·
    have z0 : (Int32.ofInt 0).toInt = 0 := by decide
    have z1 : (Int32.ofInt 1).toInt = 1 := by decide
    refine ⟨Nat.le_of_ble_eq_true rfl, [(4, [true, true, false, true], (fun L t => ∃ (x1 : Int64) (x3 : Int32), L = [some (.ref 47), some (.long x1), none, some (.int x3)] ∧ (0 : Int) ≤ x3.toInt ∧ x3.toInt ≤ (48 : Int) ∧ t = s0), (fun L _ => (0 + (48 - (vg_li L 3).toInt) * 1000000000000).toNat))], ?_, List.forall_mem_cons.mpr ⟨?_, fun _ h => absurd h List.not_mem_nil⟩⟩
    ·
      exact ⟨rfl, ⟨(Int64.ofNat 0), (Int32.ofInt 0), rfl, (by omega), (by omega), rfl⟩, trivial⟩
    ·
      intro L s5 hL
      obtain ⟨w1, w2, rfl, b3, b4, q8⟩ := hL
      have q8 := q8.symm
      subst q8
      intro v9 e10
      have g11 : s0.1 47 2 = v9 := by rw [e10]
      have b12 : (0 : Int) ≤ v9.toInt ∧ v9.toInt ≤ 48 := by rw [e10]; exact Iv_47_2 i0
      refine And.intro (fun c13 => ?_) (fun c13 => ?_)
      · have c13 : v9.toInt ≤ w2.toInt := c13
        show s0 = s0 ∧ (True)
        exact ⟨rfl, (trivial)⟩
      · have c13 : ¬ (v9.toInt ≤ w2.toInt) := c13
        refine And.intro (Nat.le_of_ble_eq_true rfl) (And.intro ⟨47, w2, rfl, by decide, i0⟩ ?_)
        intro v14 s16 h15
        have h15 : s16 = s0 ∧ (True) := h15
        have q19 := h15.1.symm
        subst q19
        intro v20 e21
        intro v22 e23
        intro v24 e25
        have b26 := vg_add e25 (by omega) (by omega)
        exact ⟨rfl, ⟨v22, v24, rfl, (by omega), (by omega), rfl⟩, (by show (0 + (48 - v24.toInt) * 1000000000000).toNat < (0 + (48 - w2.toInt) * 1000000000000).toNat; omega)⟩
  ·
    have z0 : (Int32.ofInt 0).toInt = 0 := by decide
    have z1 : (Int32.ofInt 1).toInt = 1 := by decide
    refine ⟨Nat.le_of_ble_eq_true rfl, [(4, [true, true, false, true], (fun L t => ∃ (x1 : Int64) (x3 : Int32), L = [some (.ref 49), some (.long x1), none, some (.int x3)] ∧ (0 : Int) ≤ x3.toInt ∧ x3.toInt ≤ (48 : Int) ∧ t = s0), (fun L _ => (0 + (48 - (vg_li L 3).toInt) * 1000000000000).toNat))], ?_, List.forall_mem_cons.mpr ⟨?_, fun _ h => absurd h List.not_mem_nil⟩⟩
    ·
      exact ⟨rfl, ⟨(Int64.ofNat 0), (Int32.ofInt 0), rfl, (by omega), (by omega), rfl⟩, trivial⟩
    ·
      intro L s5 hL
      obtain ⟨w1, w2, rfl, b3, b4, q8⟩ := hL
      have q8 := q8.symm
      subst q8
      intro v9 e10
      have g11 : s0.1 49 2 = v9 := by rw [e10]
      have b12 : (0 : Int) ≤ v9.toInt ∧ v9.toInt ≤ 48 := by rw [e10]; exact Iv_49_2 i0
      refine And.intro (fun c13 => ?_) (fun c13 => ?_)
      · have c13 : v9.toInt ≤ w2.toInt := c13
        show s0 = s0 ∧ (True)
        exact ⟨rfl, (trivial)⟩
      · have c13 : ¬ (v9.toInt ≤ w2.toInt) := c13
        refine And.intro (Nat.le_of_ble_eq_true rfl) (And.intro ⟨49, w2, rfl, by decide, i0⟩ ?_)
        intro v14 s16 h15
        have h15 : s16 = s0 ∧ (True) := h15
        have q19 := h15.1.symm
        subst q19
        intro v20 e21
        intro v22 e23
        intro v24 e25
        have b26 := vg_add e25 (by omega) (by omega)
        exact ⟨rfl, ⟨v22, v24, rfl, (by omega), (by omega), rfl⟩, (by show (0 + (48 - v24.toInt) * 1000000000000).toNat < (0 + (48 - w2.toInt) * 1000000000000).toNat; omega)⟩
  ·
    have z0 : (Int32.ofInt 0).toInt = 0 := by decide
    have z1 : (Int32.ofInt 1).toInt = 1 := by decide
    refine ⟨Nat.le_of_ble_eq_true rfl, [(4, [true, true, false, true], (fun L t => ∃ (x1 : Int64) (x3 : Int32), L = [some (.ref 51), some (.long x1), none, some (.int x3)] ∧ (0 : Int) ≤ x3.toInt ∧ x3.toInt ≤ (48 : Int) ∧ t = s0), (fun L _ => (0 + (48 - (vg_li L 3).toInt) * 1000000000000).toNat))], ?_, List.forall_mem_cons.mpr ⟨?_, fun _ h => absurd h List.not_mem_nil⟩⟩
    ·
      exact ⟨rfl, ⟨(Int64.ofNat 0), (Int32.ofInt 0), rfl, (by omega), (by omega), rfl⟩, trivial⟩
    ·
      intro L s5 hL
      obtain ⟨w1, w2, rfl, b3, b4, q8⟩ := hL
      have q8 := q8.symm
      subst q8
      intro v9 e10
      have g11 : s0.1 51 2 = v9 := by rw [e10]
      have b12 : (0 : Int) ≤ v9.toInt ∧ v9.toInt ≤ 48 := by rw [e10]; exact Iv_51_2 i0
      refine And.intro (fun c13 => ?_) (fun c13 => ?_)
      · have c13 : v9.toInt ≤ w2.toInt := c13
        show s0 = s0 ∧ (True)
        exact ⟨rfl, (trivial)⟩
      · have c13 : ¬ (v9.toInt ≤ w2.toInt) := c13
        refine And.intro (Nat.le_of_ble_eq_true rfl) (And.intro ⟨51, w2, rfl, by decide, i0⟩ ?_)
        intro v14 s16 h15
        have h15 : s16 = s0 ∧ (True) := h15
        have q19 := h15.1.symm
        subst q19
        intro v20 e21
        intro v22 e23
        intro v24 e25
        have b26 := vg_add e25 (by omega) (by omega)
        exact ⟨rfl, ⟨v22, v24, rfl, (by omega), (by omega), rfl⟩, (by show (0 + (48 - v24.toInt) * 1000000000000).toNat < (0 + (48 - w2.toInt) * 1000000000000).toNat; omega)⟩
  ·
    have z0 : (Int32.ofInt 0).toInt = 0 := by decide
    have z1 : (Int32.ofInt 1).toInt = 1 := by decide
    refine ⟨Nat.le_of_ble_eq_true rfl, [(4, [true, true, false, true], (fun L t => ∃ (x1 : Int64) (x3 : Int32), L = [some (.ref 53), some (.long x1), none, some (.int x3)] ∧ (0 : Int) ≤ x3.toInt ∧ x3.toInt ≤ (48 : Int) ∧ t = s0), (fun L _ => (0 + (48 - (vg_li L 3).toInt) * 1000000000000).toNat))], ?_, List.forall_mem_cons.mpr ⟨?_, fun _ h => absurd h List.not_mem_nil⟩⟩
    ·
      exact ⟨rfl, ⟨(Int64.ofNat 0), (Int32.ofInt 0), rfl, (by omega), (by omega), rfl⟩, trivial⟩
    ·
      intro L s5 hL
      obtain ⟨w1, w2, rfl, b3, b4, q8⟩ := hL
      have q8 := q8.symm
      subst q8
      intro v9 e10
      have g11 : s0.1 53 2 = v9 := by rw [e10]
      have b12 : (0 : Int) ≤ v9.toInt ∧ v9.toInt ≤ 48 := by rw [e10]; exact Iv_53_2 i0
      refine And.intro (fun c13 => ?_) (fun c13 => ?_)
      · have c13 : v9.toInt ≤ w2.toInt := c13
        show s0 = s0 ∧ (True)
        exact ⟨rfl, (trivial)⟩
      · have c13 : ¬ (v9.toInt ≤ w2.toInt) := c13
        refine And.intro (Nat.le_of_ble_eq_true rfl) (And.intro ⟨53, w2, rfl, by decide, i0⟩ ?_)
        intro v14 s16 h15
        have h15 : s16 = s0 ∧ (True) := h15
        have q19 := h15.1.symm
        subst q19
        intro v20 e21
        intro v22 e23
        intro v24 e25
        have b26 := vg_add e25 (by omega) (by omega)
        exact ⟨rfl, ⟨v22, v24, rfl, (by omega), (by omega), rfl⟩, (by show (0 + (48 - v24.toInt) * 1000000000000).toNat < (0 + (48 - w2.toInt) * 1000000000000).toNat; omega)⟩
def o_X4_nearLatest : List vg_I := [(0, .iconst 0, 1, 0, 0, 0, 0), (1, .istore_n 2, 1, 0, 0, 0, 0), (2, .iload_n 2, 1, 0, 0, 0, 0), (3, .aload_n 0, 1, 0, 0, 0, 0), (4, .getfield 13, 3, 414, 4, 2, 0), (7, .if_icmp .ge 31, 3, 0, 0, 0, 0), (10, .aload_n 0, 1, 0, 0, 0, 0), (11, .iload_n 2, 1, 0, 0, 0, 0), (12, .invokevirtual 29, 3, 0, 4, 1, 829), (15, .i2l, 1, 0, 0, 0, 0), (16, .aload_n 0, 1, 0, 0, 0, 0), (17, .iconst 0, 1, 0, 0, 0, 0), (18, .invokevirtual 29, 3, 0, 4, 1, 829), (21, .i2l, 1, 0, 0, 0, 0), (22, .lsub, 1, 0, 0, 0, 0), (23, .invokestatic 36, 3, 1, 1, 1, 847), (26, .iload_n 1, 1, 0, 0, 0, 0), (27, .i2l, 1, 0, 0, 0, 0), (28, .lcmp, 1, 0, 0, 0, 0), (29, .ifCond .gt 9, 3, 0, 0, 0, 0), (32, .iinc 2 1, 3, 0, 0, 0, 0), (35, .goto (-33), 3, 0, 0, 0, 0), (38, .iload_n 2, 1, 0, 0, 0, 0), (39, .ireturn, 1, 0, 0, 0, 0)]
set_option maxRecDepth 100000 in
set_option maxHeartbeats 4000000 in
theorem c_X4_nearLatest (l : Launch) (G : vg_G) (hp : vg_Hp G) : vg_Ct l G vg_sh r_X4_nearLatest := by
  refine vg_meth hp vg_sh_ok r_X4_nearLatest k_X4_nearLatest rfl (fun h => by cases h) o_X4_nearLatest [r_X4_get, r_J9_abs_067f4] false (by decide +kernel) (by decide +kernel) ⟨_, _, rfl, rfl⟩ (List.forall_mem_cons.mpr ⟨⟨c_X4_get l G hp, Nat.le_of_ble_eq_true rfl, Nat.le_of_ble_eq_true rfl⟩, List.forall_mem_cons.mpr ⟨⟨c_J9_abs_067f4 l G hp, Nat.le_of_ble_eq_true rfl, Nat.le_of_ble_eq_true rfl⟩, fun _ h => absurd h List.not_mem_nil⟩⟩) (fun h => by cases h) 600 ?_
  intro as s0 hpre
  obtain ⟨r, a1, rfl, hr, i0⟩ := hpre
  simp only [List.mem_cons, List.not_mem_nil, or_false] at hr
  rcases hr with rfl | rfl | rfl | rfl | rfl | rfl | rfl
  ·
    have z0 : (Int32.ofInt 0).toInt = 0 := by decide
    have z1 : (Int32.ofInt 1).toInt = 1 := by decide
    refine ⟨Nat.le_of_ble_eq_true rfl, [(2, [true, true, true], (fun L t => ∃ (x2 : Int32), L = [some (.ref 41), some (.int a1), some (.int x2)] ∧ (0 : Int) ≤ x2.toInt ∧ x2.toInt ≤ (48 : Int) ∧ t = s0), (fun L _ => (0 + (48 - (vg_li L 2).toInt) * 1000000000000).toNat))], ?_, List.forall_mem_cons.mpr ⟨?_, fun _ h => absurd h List.not_mem_nil⟩⟩
    ·
      exact ⟨rfl, ⟨(Int32.ofInt 0), rfl, (by omega), (by omega), rfl⟩, trivial⟩
    ·
      intro L s4 hL
      obtain ⟨w1, rfl, b2, b3, q7⟩ := hL
      have q7 := q7.symm
      subst q7
      intro v8 e9
      have g10 : s0.1 41 2 = v8 := by rw [e9]
      have b11 : (0 : Int) ≤ v8.toInt ∧ v8.toInt ≤ 48 := by rw [e9]; exact Iv_41_2 i0
      refine And.intro (fun c12 => ?_) (fun c12 => ?_)
      · have c12 : v8.toInt ≤ w1.toInt := c12
        show s0 = s0 ∧ (True)
        exact ⟨rfl, (trivial)⟩
      · have c12 : ¬ (v8.toInt ≤ w1.toInt) := c12
        refine And.intro (Nat.le_of_ble_eq_true rfl) (And.intro ⟨41, w1, rfl, by decide, i0⟩ ?_)
        intro v13 s15 h14
        have h14 : s15 = s0 ∧ (True) := h14
        have q18 := h14.1.symm
        subst q18
        intro v19 e20
        refine And.intro (Nat.le_of_ble_eq_true rfl) (And.intro ⟨41, (Int32.ofInt 0), rfl, by decide, i0⟩ ?_)
        intro v21 s23 h22
        have h22 : s23 = s0 ∧ (True) := h22
        have q26 := h22.1.symm
        subst q26
        intro v27 e28
        intro v29 e30
        refine And.intro (Nat.le_of_ble_eq_true rfl) (And.intro ⟨v29, rfl, trivial⟩ ?_)
        intro v31 s33 h32
        have h32 : s33 = s0 ∧ (True) := h32
        have q36 := h32.1.symm
        subst q36
        intro v37 e38
        intro v39 e40
        refine And.intro (fun c41 => ?_) (fun c41 => ?_)
        · have c41 : 0 < v39.toInt := c41
          show s0 = s0 ∧ (True)
          exact ⟨rfl, (trivial)⟩
        · have c41 : ¬ (0 < v39.toInt) := c41
          intro v42 e43
          have b44 := vg_add e43 (by omega) (by omega)
          exact ⟨rfl, ⟨v42, rfl, (by omega), (by omega), rfl⟩, (by show (0 + (48 - v42.toInt) * 1000000000000).toNat < (0 + (48 - w1.toInt) * 1000000000000).toNat; omega)⟩
  ·
    have z0 : (Int32.ofInt 0).toInt = 0 := by decide
    have z1 : (Int32.ofInt 1).toInt = 1 := by decide
    refine ⟨Nat.le_of_ble_eq_true rfl, [(2, [true, true, true], (fun L t => ∃ (x2 : Int32), L = [some (.ref 43), some (.int a1), some (.int x2)] ∧ (0 : Int) ≤ x2.toInt ∧ x2.toInt ≤ (48 : Int) ∧ t = s0), (fun L _ => (0 + (48 - (vg_li L 2).toInt) * 1000000000000).toNat))], ?_, List.forall_mem_cons.mpr ⟨?_, fun _ h => absurd h List.not_mem_nil⟩⟩
    ·
      exact ⟨rfl, ⟨(Int32.ofInt 0), rfl, (by omega), (by omega), rfl⟩, trivial⟩
    ·
      intro L s4 hL
      obtain ⟨w1, rfl, b2, b3, q7⟩ := hL
      have q7 := q7.symm
      subst q7
      intro v8 e9
      have g10 : s0.1 43 2 = v8 := by rw [e9]
      have b11 : (0 : Int) ≤ v8.toInt ∧ v8.toInt ≤ 48 := by rw [e9]; exact Iv_43_2 i0
      refine And.intro (fun c12 => ?_) (fun c12 => ?_)
      · have c12 : v8.toInt ≤ w1.toInt := c12
        show s0 = s0 ∧ (True)
        exact ⟨rfl, (trivial)⟩
      · have c12 : ¬ (v8.toInt ≤ w1.toInt) := c12
        refine And.intro (Nat.le_of_ble_eq_true rfl) (And.intro ⟨43, w1, rfl, by decide, i0⟩ ?_)
        intro v13 s15 h14
        have h14 : s15 = s0 ∧ (True) := h14
        have q18 := h14.1.symm
        subst q18
        intro v19 e20
        refine And.intro (Nat.le_of_ble_eq_true rfl) (And.intro ⟨43, (Int32.ofInt 0), rfl, by decide, i0⟩ ?_)
        intro v21 s23 h22
        have h22 : s23 = s0 ∧ (True) := h22
        have q26 := h22.1.symm
        subst q26
        intro v27 e28
        intro v29 e30
        refine And.intro (Nat.le_of_ble_eq_true rfl) (And.intro ⟨v29, rfl, trivial⟩ ?_)
        intro v31 s33 h32
        have h32 : s33 = s0 ∧ (True) := h32
        have q36 := h32.1.symm
        subst q36
        intro v37 e38
        intro v39 e40
        refine And.intro (fun c41 => ?_) (fun c41 => ?_)
        · have c41 : 0 < v39.toInt := c41
          show s0 = s0 ∧ (True)
          exact ⟨rfl, (trivial)⟩
        · have c41 : ¬ (0 < v39.toInt) := c41
          intro v42 e43
          have b44 := vg_add e43 (by omega) (by omega)
          exact ⟨rfl, ⟨v42, rfl, (by omega), (by omega), rfl⟩, (by show (0 + (48 - v42.toInt) * 1000000000000).toNat < (0 + (48 - w1.toInt) * 1000000000000).toNat; omega)⟩
  ·
    have z0 : (Int32.ofInt 0).toInt = 0 := by decide
    have z1 : (Int32.ofInt 1).toInt = 1 := by decide
    refine ⟨Nat.le_of_ble_eq_true rfl, [(2, [true, true, true], (fun L t => ∃ (x2 : Int32), L = [some (.ref 45), some (.int a1), some (.int x2)] ∧ (0 : Int) ≤ x2.toInt ∧ x2.toInt ≤ (48 : Int) ∧ t = s0), (fun L _ => (0 + (48 - (vg_li L 2).toInt) * 1000000000000).toNat))], ?_, List.forall_mem_cons.mpr ⟨?_, fun _ h => absurd h List.not_mem_nil⟩⟩
    ·
      exact ⟨rfl, ⟨(Int32.ofInt 0), rfl, (by omega), (by omega), rfl⟩, trivial⟩
    ·
      intro L s4 hL
      obtain ⟨w1, rfl, b2, b3, q7⟩ := hL
      have q7 := q7.symm
      subst q7
      intro v8 e9
      have g10 : s0.1 45 2 = v8 := by rw [e9]
      have b11 : (0 : Int) ≤ v8.toInt ∧ v8.toInt ≤ 48 := by rw [e9]; exact Iv_45_2 i0
      refine And.intro (fun c12 => ?_) (fun c12 => ?_)
      · have c12 : v8.toInt ≤ w1.toInt := c12
        show s0 = s0 ∧ (True)
        exact ⟨rfl, (trivial)⟩
      · have c12 : ¬ (v8.toInt ≤ w1.toInt) := c12
        refine And.intro (Nat.le_of_ble_eq_true rfl) (And.intro ⟨45, w1, rfl, by decide, i0⟩ ?_)
        intro v13 s15 h14
        have h14 : s15 = s0 ∧ (True) := h14
        have q18 := h14.1.symm
        subst q18
        intro v19 e20
        refine And.intro (Nat.le_of_ble_eq_true rfl) (And.intro ⟨45, (Int32.ofInt 0), rfl, by decide, i0⟩ ?_)
        intro v21 s23 h22
        have h22 : s23 = s0 ∧ (True) := h22
        have q26 := h22.1.symm
        subst q26
        intro v27 e28
        intro v29 e30
        refine And.intro (Nat.le_of_ble_eq_true rfl) (And.intro ⟨v29, rfl, trivial⟩ ?_)
        intro v31 s33 h32
        have h32 : s33 = s0 ∧ (True) := h32
        have q36 := h32.1.symm
        subst q36
        intro v37 e38
        intro v39 e40
        refine And.intro (fun c41 => ?_) (fun c41 => ?_)
        · have c41 : 0 < v39.toInt := c41
          show s0 = s0 ∧ (True)
          exact ⟨rfl, (trivial)⟩
        · have c41 : ¬ (0 < v39.toInt) := c41
          intro v42 e43
          have b44 := vg_add e43 (by omega) (by omega)
          exact ⟨rfl, ⟨v42, rfl, (by omega), (by omega), rfl⟩, (by show (0 + (48 - v42.toInt) * 1000000000000).toNat < (0 + (48 - w1.toInt) * 1000000000000).toNat; omega)⟩
  ·
    have z0 : (Int32.ofInt 0).toInt = 0 := by decide
    have z1 : (Int32.ofInt 1).toInt = 1 := by decide
    refine ⟨Nat.le_of_ble_eq_true rfl, [(2, [true, true, true], (fun L t => ∃ (x2 : Int32), L = [some (.ref 47), some (.int a1), some (.int x2)] ∧ (0 : Int) ≤ x2.toInt ∧ x2.toInt ≤ (48 : Int) ∧ t = s0), (fun L _ => (0 + (48 - (vg_li L 2).toInt) * 1000000000000).toNat))], ?_, List.forall_mem_cons.mpr ⟨?_, fun _ h => absurd h List.not_mem_nil⟩⟩
    ·
      exact ⟨rfl, ⟨(Int32.ofInt 0), rfl, (by omega), (by omega), rfl⟩, trivial⟩
    ·
      intro L s4 hL
      obtain ⟨w1, rfl, b2, b3, q7⟩ := hL
      have q7 := q7.symm
      subst q7
      intro v8 e9
      have g10 : s0.1 47 2 = v8 := by rw [e9]
      have b11 : (0 : Int) ≤ v8.toInt ∧ v8.toInt ≤ 48 := by rw [e9]; exact Iv_47_2 i0
      refine And.intro (fun c12 => ?_) (fun c12 => ?_)
      · have c12 : v8.toInt ≤ w1.toInt := c12
        show s0 = s0 ∧ (True)
        exact ⟨rfl, (trivial)⟩
      · have c12 : ¬ (v8.toInt ≤ w1.toInt) := c12
        refine And.intro (Nat.le_of_ble_eq_true rfl) (And.intro ⟨47, w1, rfl, by decide, i0⟩ ?_)
        intro v13 s15 h14
        have h14 : s15 = s0 ∧ (True) := h14
        have q18 := h14.1.symm
        subst q18
        intro v19 e20
        refine And.intro (Nat.le_of_ble_eq_true rfl) (And.intro ⟨47, (Int32.ofInt 0), rfl, by decide, i0⟩ ?_)
        intro v21 s23 h22
        have h22 : s23 = s0 ∧ (True) := h22
        have q26 := h22.1.symm
        subst q26
        intro v27 e28
        intro v29 e30
        refine And.intro (Nat.le_of_ble_eq_true rfl) (And.intro ⟨v29, rfl, trivial⟩ ?_)
        intro v31 s33 h32
        have h32 : s33 = s0 ∧ (True) := h32
        have q36 := h32.1.symm
        subst q36
        intro v37 e38
        intro v39 e40
        refine And.intro (fun c41 => ?_) (fun c41 => ?_)
        · have c41 : 0 < v39.toInt := c41
          show s0 = s0 ∧ (True)
          exact ⟨rfl, (trivial)⟩
        · have c41 : ¬ (0 < v39.toInt) := c41
          intro v42 e43
          have b44 := vg_add e43 (by omega) (by omega)
          exact ⟨rfl, ⟨v42, rfl, (by omega), (by omega), rfl⟩, (by show (0 + (48 - v42.toInt) * 1000000000000).toNat < (0 + (48 - w1.toInt) * 1000000000000).toNat; omega)⟩
  ·
    have z0 : (Int32.ofInt 0).toInt = 0 := by decide
    have z1 : (Int32.ofInt 1).toInt = 1 := by decide
    refine ⟨Nat.le_of_ble_eq_true rfl, [(2, [true, true, true], (fun L t => ∃ (x2 : Int32), L = [some (.ref 49), some (.int a1), some (.int x2)] ∧ (0 : Int) ≤ x2.toInt ∧ x2.toInt ≤ (48 : Int) ∧ t = s0), (fun L _ => (0 + (48 - (vg_li L 2).toInt) * 1000000000000).toNat))], ?_, List.forall_mem_cons.mpr ⟨?_, fun _ h => absurd h List.not_mem_nil⟩⟩
    ·
      exact ⟨rfl, ⟨(Int32.ofInt 0), rfl, (by omega), (by omega), rfl⟩, trivial⟩
    ·
      intro L s4 hL
      obtain ⟨w1, rfl, b2, b3, q7⟩ := hL
      have q7 := q7.symm
      subst q7
      intro v8 e9
      have g10 : s0.1 49 2 = v8 := by rw [e9]
      have b11 : (0 : Int) ≤ v8.toInt ∧ v8.toInt ≤ 48 := by rw [e9]; exact Iv_49_2 i0
      refine And.intro (fun c12 => ?_) (fun c12 => ?_)
      · have c12 : v8.toInt ≤ w1.toInt := c12
        show s0 = s0 ∧ (True)
        exact ⟨rfl, (trivial)⟩
      · have c12 : ¬ (v8.toInt ≤ w1.toInt) := c12
        refine And.intro (Nat.le_of_ble_eq_true rfl) (And.intro ⟨49, w1, rfl, by decide, i0⟩ ?_)
        intro v13 s15 h14
        have h14 : s15 = s0 ∧ (True) := h14
        have q18 := h14.1.symm
        subst q18
        intro v19 e20
        refine And.intro (Nat.le_of_ble_eq_true rfl) (And.intro ⟨49, (Int32.ofInt 0), rfl, by decide, i0⟩ ?_)
        intro v21 s23 h22
        have h22 : s23 = s0 ∧ (True) := h22
        have q26 := h22.1.symm
        subst q26
        intro v27 e28
        intro v29 e30
        refine And.intro (Nat.le_of_ble_eq_true rfl) (And.intro ⟨v29, rfl, trivial⟩ ?_)
        intro v31 s33 h32
        have h32 : s33 = s0 ∧ (True) := h32
        have q36 := h32.1.symm
        subst q36
        intro v37 e38
        intro v39 e40
        refine And.intro (fun c41 => ?_) (fun c41 => ?_)
        · have c41 : 0 < v39.toInt := c41
          show s0 = s0 ∧ (True)
          exact ⟨rfl, (trivial)⟩
        · have c41 : ¬ (0 < v39.toInt) := c41
          intro v42 e43
          have b44 := vg_add e43 (by omega) (by omega)
          exact ⟨rfl, ⟨v42, rfl, (by omega), (by omega), rfl⟩, (by show (0 + (48 - v42.toInt) * 1000000000000).toNat < (0 + (48 - w1.toInt) * 1000000000000).toNat; omega)⟩
  ·
    have z0 : (Int32.ofInt 0).toInt = 0 := by decide
    have z1 : (Int32.ofInt 1).toInt = 1 := by decide
    refine ⟨Nat.le_of_ble_eq_true rfl, [(2, [true, true, true], (fun L t => ∃ (x2 : Int32), L = [some (.ref 51), some (.int a1), some (.int x2)] ∧ (0 : Int) ≤ x2.toInt ∧ x2.toInt ≤ (48 : Int) ∧ t = s0), (fun L _ => (0 + (48 - (vg_li L 2).toInt) * 1000000000000).toNat))], ?_, List.forall_mem_cons.mpr ⟨?_, fun _ h => absurd h List.not_mem_nil⟩⟩
    ·
      exact ⟨rfl, ⟨(Int32.ofInt 0), rfl, (by omega), (by omega), rfl⟩, trivial⟩
    ·
      intro L s4 hL
      obtain ⟨w1, rfl, b2, b3, q7⟩ := hL
      have q7 := q7.symm
      subst q7
      intro v8 e9
      have g10 : s0.1 51 2 = v8 := by rw [e9]
      have b11 : (0 : Int) ≤ v8.toInt ∧ v8.toInt ≤ 48 := by rw [e9]; exact Iv_51_2 i0
      refine And.intro (fun c12 => ?_) (fun c12 => ?_)
      · have c12 : v8.toInt ≤ w1.toInt := c12
        show s0 = s0 ∧ (True)
        exact ⟨rfl, (trivial)⟩
      · have c12 : ¬ (v8.toInt ≤ w1.toInt) := c12
        refine And.intro (Nat.le_of_ble_eq_true rfl) (And.intro ⟨51, w1, rfl, by decide, i0⟩ ?_)
        intro v13 s15 h14
        have h14 : s15 = s0 ∧ (True) := h14
        have q18 := h14.1.symm
        subst q18
        intro v19 e20
        refine And.intro (Nat.le_of_ble_eq_true rfl) (And.intro ⟨51, (Int32.ofInt 0), rfl, by decide, i0⟩ ?_)
        intro v21 s23 h22
        have h22 : s23 = s0 ∧ (True) := h22
        have q26 := h22.1.symm
        subst q26
        intro v27 e28
        intro v29 e30
        refine And.intro (Nat.le_of_ble_eq_true rfl) (And.intro ⟨v29, rfl, trivial⟩ ?_)
        intro v31 s33 h32
        have h32 : s33 = s0 ∧ (True) := h32
        have q36 := h32.1.symm
        subst q36
        intro v37 e38
        intro v39 e40
        refine And.intro (fun c41 => ?_) (fun c41 => ?_)
        · have c41 : 0 < v39.toInt := c41
          show s0 = s0 ∧ (True)
          exact ⟨rfl, (trivial)⟩
        · have c41 : ¬ (0 < v39.toInt) := c41
          intro v42 e43
          have b44 := vg_add e43 (by omega) (by omega)
          exact ⟨rfl, ⟨v42, rfl, (by omega), (by omega), rfl⟩, (by show (0 + (48 - v42.toInt) * 1000000000000).toNat < (0 + (48 - w1.toInt) * 1000000000000).toNat; omega)⟩
  ·
    have z0 : (Int32.ofInt 0).toInt = 0 := by decide
    have z1 : (Int32.ofInt 1).toInt = 1 := by decide
    refine ⟨Nat.le_of_ble_eq_true rfl, [(2, [true, true, true], (fun L t => ∃ (x2 : Int32), L = [some (.ref 53), some (.int a1), some (.int x2)] ∧ (0 : Int) ≤ x2.toInt ∧ x2.toInt ≤ (48 : Int) ∧ t = s0), (fun L _ => (0 + (48 - (vg_li L 2).toInt) * 1000000000000).toNat))], ?_, List.forall_mem_cons.mpr ⟨?_, fun _ h => absurd h List.not_mem_nil⟩⟩
    ·
      exact ⟨rfl, ⟨(Int32.ofInt 0), rfl, (by omega), (by omega), rfl⟩, trivial⟩
    ·
      intro L s4 hL
      obtain ⟨w1, rfl, b2, b3, q7⟩ := hL
      have q7 := q7.symm
      subst q7
      intro v8 e9
      have g10 : s0.1 53 2 = v8 := by rw [e9]
      have b11 : (0 : Int) ≤ v8.toInt ∧ v8.toInt ≤ 48 := by rw [e9]; exact Iv_53_2 i0
      refine And.intro (fun c12 => ?_) (fun c12 => ?_)
      · have c12 : v8.toInt ≤ w1.toInt := c12
        show s0 = s0 ∧ (True)
        exact ⟨rfl, (trivial)⟩
      · have c12 : ¬ (v8.toInt ≤ w1.toInt) := c12
        refine And.intro (Nat.le_of_ble_eq_true rfl) (And.intro ⟨53, w1, rfl, by decide, i0⟩ ?_)
        intro v13 s15 h14
        have h14 : s15 = s0 ∧ (True) := h14
        have q18 := h14.1.symm
        subst q18
        intro v19 e20
        refine And.intro (Nat.le_of_ble_eq_true rfl) (And.intro ⟨53, (Int32.ofInt 0), rfl, by decide, i0⟩ ?_)
        intro v21 s23 h22
        have h22 : s23 = s0 ∧ (True) := h22
        have q26 := h22.1.symm
        subst q26
        intro v27 e28
        intro v29 e30
        refine And.intro (Nat.le_of_ble_eq_true rfl) (And.intro ⟨v29, rfl, trivial⟩ ?_)
        intro v31 s33 h32
        have h32 : s33 = s0 ∧ (True) := h32
        have q36 := h32.1.symm
        subst q36
        intro v37 e38
        intro v39 e40
        refine And.intro (fun c41 => ?_) (fun c41 => ?_)
        · have c41 : 0 < v39.toInt := c41
          show s0 = s0 ∧ (True)
          exact ⟨rfl, (trivial)⟩
        · have c41 : ¬ (0 < v39.toInt) := c41
          intro v42 e43
          have b44 := vg_add e43 (by omega) (by omega)
          exact ⟨rfl, ⟨v42, rfl, (by omega), (by omega), rfl⟩, (by show (0 + (48 - v42.toInt) * 1000000000000).toNat < (0 + (48 - w1.toInt) * 1000000000000).toNat; omega)⟩
def o_X4_beatOf : List vg_I := [(0, .aload_n 0, 1, 0, 0, 0, 0), (1, .getfield 13, 3, 414, 4, 2, 0), (4, .i2l, 1, 0, 0, 0, 0), (5, .lstore_n 2, 1, 0, 0, 0, 0), (6, .aload_n 0, 1, 0, 0, 0, 0), (7, .invokevirtual 40, 3, 0, 4, 0, 927), (10, .lstore 4, 2, 0, 0, 0, 0), (12, .lconst 0, 1, 0, 0, 0, 0), (13, .lstore 6, 2, 0, 0, 0, 0), (15, .iconst 0, 1, 0, 0, 0, 0), (16, .istore 8, 2, 0, 0, 0, 0), (18, .iload 8, 2, 0, 0, 0, 0), (20, .iload_n 1, 1, 0, 0, 0, 0), (21, .iadd, 1, 0, 0, 0, 0), (22, .aload_n 0, 1, 0, 0, 0, 0), (23, .getfield 13, 3, 414, 4, 2, 0), (26, .if_icmp .ge 41, 3, 0, 0, 0, 0), (29, .lload 6, 2, 0, 0, 0, 0), (31, .lload_n 2, 1, 0, 0, 0, 0), (32, .aload_n 0, 1, 0, 0, 0, 0), (33, .iload 8, 2, 0, 0, 0, 0), (35, .invokevirtual 29, 3, 1, 4, 1, 829), (38, .i2l, 1, 0, 0, 0, 0), (39, .lmul, 1, 0, 0, 0, 0), (40, .lload 4, 2, 0, 0, 0, 0), (42, .lsub, 1, 0, 0, 0, 0), (43, .lload_n 2, 1, 0, 0, 0, 0), (44, .aload_n 0, 1, 0, 0, 0, 0), (45, .iload 8, 2, 0, 0, 0, 0), (47, .iload_n 1, 1, 0, 0, 0, 0), (48, .iadd, 1, 0, 0, 0, 0), (49, .invokevirtual 29, 3, 1, 4, 1, 829), (52, .i2l, 1, 0, 0, 0, 0), (53, .lmul, 1, 0, 0, 0, 0), (54, .lload 4, 2, 0, 0, 0, 0), (56, .lsub, 1, 0, 0, 0, 0), (57, .lmul, 1, 0, 0, 0, 0), (58, .ladd, 1, 0, 0, 0, 0), (59, .lstore 6, 2, 0, 0, 0, 0), (61, .iinc 8 1, 3, 0, 0, 0, 0), (64, .goto (-46), 3, 0, 0, 0, 0), (67, .lload 6, 2, 0, 0, 0, 0), (69, .lreturn, 1, 0, 0, 0, 0)]
set_option maxRecDepth 100000 in
set_option maxHeartbeats 4000000 in
theorem c_X4_beatOf (l : Launch) (G : vg_G) (hp : vg_Hp G) : vg_Ct l G vg_sh r_X4_beatOf := by
  refine vg_meth hp vg_sh_ok r_X4_beatOf k_X4_beatOf rfl (fun h => by cases h) o_X4_beatOf [r_X4_total, r_X4_get] false (by decide +kernel) (by decide +kernel) ⟨_, _, rfl, rfl⟩ (List.forall_mem_cons.mpr ⟨⟨c_X4_total l G hp, Nat.le_of_ble_eq_true rfl, Nat.le_of_ble_eq_true rfl⟩, List.forall_mem_cons.mpr ⟨⟨c_X4_get l G hp, Nat.le_of_ble_eq_true rfl, Nat.le_of_ble_eq_true rfl⟩, fun _ h => absurd h List.not_mem_nil⟩⟩) (fun h => by cases h) 600 ?_
  intro as s0 hpre
  obtain ⟨r, a1, rfl, hr, i0, p0⟩ := hpre
  simp only [List.mem_cons, List.not_mem_nil, or_false] at hr
  rcases hr with rfl | rfl | rfl | rfl | rfl | rfl | rfl
  ·
    have z0 : (Int32.ofInt 0).toInt = 0 := by decide
    have z1 : (Int32.ofInt 1).toInt = 1 := by decide
    refine ⟨Nat.le_of_ble_eq_true rfl, [(18, [true, true, true, false, true, false, true, false, true], (fun L t => ∃ (x2 : Int64) (x4 : Int64) (x6 : Int64) (x8 : Int32), L = [some (.ref 41), some (.int a1), some (.long x2), none, some (.long x4), none, some (.long x6), none, some (.int x8)] ∧ (0 : Int) ≤ x8.toInt ∧ x8.toInt ≤ (48 : Int) ∧ t = s0), (fun L _ => (48 - (vg_li L 8).toInt).toNat))], ?_, List.forall_mem_cons.mpr ⟨?_, fun _ h => absurd h List.not_mem_nil⟩⟩
    ·
      intro v1 e2
      have g3 : s0.1 41 2 = v1 := by rw [e2]
      have b4 : (0 : Int) ≤ v1.toInt ∧ v1.toInt ≤ 48 := by rw [e2]; exact Iv_41_2 i0
      intro v5 e6
      have b7 := vg_i2l e6
      refine And.intro (Nat.le_of_ble_eq_true rfl) (And.intro ⟨41, rfl, by decide, i0⟩ ?_)
      intro v8 s10 h9
      have h9 : s10 = s0 ∧ (True) := h9
      have q13 := h9.1.symm
      subst q13
      exact ⟨rfl, ⟨v5, v8, (Int64.ofNat 0), (Int32.ofInt 0), rfl, (by omega), (by omega), rfl⟩, trivial⟩
    ·
      intro L s20 hL
      obtain ⟨w14, w15, w16, w17, rfl, b18, b19, q23⟩ := hL
      have q23 := q23.symm
      subst q23
      intro v24 e25
      have b26 := vg_add e25 (by omega) (by omega)
      intro v27 e28
      have g29 : s0.1 41 2 = v27 := by rw [e28]
      have b30 : (0 : Int) ≤ v27.toInt ∧ v27.toInt ≤ 48 := by rw [e28]; exact Iv_41_2 i0
      refine And.intro (fun c31 => ?_) (fun c31 => ?_)
      · have c31 : v27.toInt ≤ v24.toInt := c31
        show s0 = s0 ∧ (True)
        exact ⟨rfl, (trivial)⟩
      · have c31 : ¬ (v27.toInt ≤ v24.toInt) := c31
        refine And.intro (Nat.le_of_ble_eq_true rfl) (And.intro ⟨41, w17, rfl, by decide, i0⟩ ?_)
        intro v32 s34 h33
        have h33 : s34 = s0 ∧ (True) := h33
        have q37 := h33.1.symm
        subst q37
        intro v38 e39
        intro v40 e41
        intro v42 e43
        intro v44 e45
        have b46 := vg_add e45 (by omega) (by omega)
        refine And.intro (Nat.le_of_ble_eq_true rfl) (And.intro ⟨41, v44, rfl, by decide, i0⟩ ?_)
        intro v47 s49 h48
        have h48 : s49 = s0 ∧ (True) := h48
        have q52 := h48.1.symm
        subst q52
        intro v53 e54
        intro v55 e56
        intro v57 e58
        intro v59 e60
        intro v61 e62
        intro v63 e64
        have b65 := vg_add e64 (by omega) (by omega)
        exact ⟨rfl, ⟨w14, w15, v61, v63, rfl, (by omega), (by omega), rfl⟩, (by show (48 - v63.toInt).toNat < (48 - w17.toInt).toNat; omega)⟩
  ·
    have z0 : (Int32.ofInt 0).toInt = 0 := by decide
    have z1 : (Int32.ofInt 1).toInt = 1 := by decide
    refine ⟨Nat.le_of_ble_eq_true rfl, [(18, [true, true, true, false, true, false, true, false, true], (fun L t => ∃ (x2 : Int64) (x4 : Int64) (x6 : Int64) (x8 : Int32), L = [some (.ref 43), some (.int a1), some (.long x2), none, some (.long x4), none, some (.long x6), none, some (.int x8)] ∧ (0 : Int) ≤ x8.toInt ∧ x8.toInt ≤ (48 : Int) ∧ t = s0), (fun L _ => (48 - (vg_li L 8).toInt).toNat))], ?_, List.forall_mem_cons.mpr ⟨?_, fun _ h => absurd h List.not_mem_nil⟩⟩
    ·
      intro v1 e2
      have g3 : s0.1 43 2 = v1 := by rw [e2]
      have b4 : (0 : Int) ≤ v1.toInt ∧ v1.toInt ≤ 48 := by rw [e2]; exact Iv_43_2 i0
      intro v5 e6
      have b7 := vg_i2l e6
      refine And.intro (Nat.le_of_ble_eq_true rfl) (And.intro ⟨43, rfl, by decide, i0⟩ ?_)
      intro v8 s10 h9
      have h9 : s10 = s0 ∧ (True) := h9
      have q13 := h9.1.symm
      subst q13
      exact ⟨rfl, ⟨v5, v8, (Int64.ofNat 0), (Int32.ofInt 0), rfl, (by omega), (by omega), rfl⟩, trivial⟩
    ·
      intro L s20 hL
      obtain ⟨w14, w15, w16, w17, rfl, b18, b19, q23⟩ := hL
      have q23 := q23.symm
      subst q23
      intro v24 e25
      have b26 := vg_add e25 (by omega) (by omega)
      intro v27 e28
      have g29 : s0.1 43 2 = v27 := by rw [e28]
      have b30 : (0 : Int) ≤ v27.toInt ∧ v27.toInt ≤ 48 := by rw [e28]; exact Iv_43_2 i0
      refine And.intro (fun c31 => ?_) (fun c31 => ?_)
      · have c31 : v27.toInt ≤ v24.toInt := c31
        show s0 = s0 ∧ (True)
        exact ⟨rfl, (trivial)⟩
      · have c31 : ¬ (v27.toInt ≤ v24.toInt) := c31
        refine And.intro (Nat.le_of_ble_eq_true rfl) (And.intro ⟨43, w17, rfl, by decide, i0⟩ ?_)
        intro v32 s34 h33
        have h33 : s34 = s0 ∧ (True) := h33
        have q37 := h33.1.symm
        subst q37
        intro v38 e39
        intro v40 e41
        intro v42 e43
        intro v44 e45
        have b46 := vg_add e45 (by omega) (by omega)
        refine And.intro (Nat.le_of_ble_eq_true rfl) (And.intro ⟨43, v44, rfl, by decide, i0⟩ ?_)
        intro v47 s49 h48
        have h48 : s49 = s0 ∧ (True) := h48
        have q52 := h48.1.symm
        subst q52
        intro v53 e54
        intro v55 e56
        intro v57 e58
        intro v59 e60
        intro v61 e62
        intro v63 e64
        have b65 := vg_add e64 (by omega) (by omega)
        exact ⟨rfl, ⟨w14, w15, v61, v63, rfl, (by omega), (by omega), rfl⟩, (by show (48 - v63.toInt).toNat < (48 - w17.toInt).toNat; omega)⟩
  ·
    have z0 : (Int32.ofInt 0).toInt = 0 := by decide
    have z1 : (Int32.ofInt 1).toInt = 1 := by decide
    refine ⟨Nat.le_of_ble_eq_true rfl, [(18, [true, true, true, false, true, false, true, false, true], (fun L t => ∃ (x2 : Int64) (x4 : Int64) (x6 : Int64) (x8 : Int32), L = [some (.ref 45), some (.int a1), some (.long x2), none, some (.long x4), none, some (.long x6), none, some (.int x8)] ∧ (0 : Int) ≤ x8.toInt ∧ x8.toInt ≤ (48 : Int) ∧ t = s0), (fun L _ => (48 - (vg_li L 8).toInt).toNat))], ?_, List.forall_mem_cons.mpr ⟨?_, fun _ h => absurd h List.not_mem_nil⟩⟩
    ·
      intro v1 e2
      have g3 : s0.1 45 2 = v1 := by rw [e2]
      have b4 : (0 : Int) ≤ v1.toInt ∧ v1.toInt ≤ 48 := by rw [e2]; exact Iv_45_2 i0
      intro v5 e6
      have b7 := vg_i2l e6
      refine And.intro (Nat.le_of_ble_eq_true rfl) (And.intro ⟨45, rfl, by decide, i0⟩ ?_)
      intro v8 s10 h9
      have h9 : s10 = s0 ∧ (True) := h9
      have q13 := h9.1.symm
      subst q13
      exact ⟨rfl, ⟨v5, v8, (Int64.ofNat 0), (Int32.ofInt 0), rfl, (by omega), (by omega), rfl⟩, trivial⟩
    ·
      intro L s20 hL
      obtain ⟨w14, w15, w16, w17, rfl, b18, b19, q23⟩ := hL
      have q23 := q23.symm
      subst q23
      intro v24 e25
      have b26 := vg_add e25 (by omega) (by omega)
      intro v27 e28
      have g29 : s0.1 45 2 = v27 := by rw [e28]
      have b30 : (0 : Int) ≤ v27.toInt ∧ v27.toInt ≤ 48 := by rw [e28]; exact Iv_45_2 i0
      refine And.intro (fun c31 => ?_) (fun c31 => ?_)
      · have c31 : v27.toInt ≤ v24.toInt := c31
        show s0 = s0 ∧ (True)
        exact ⟨rfl, (trivial)⟩
      · have c31 : ¬ (v27.toInt ≤ v24.toInt) := c31
        refine And.intro (Nat.le_of_ble_eq_true rfl) (And.intro ⟨45, w17, rfl, by decide, i0⟩ ?_)
        intro v32 s34 h33
        have h33 : s34 = s0 ∧ (True) := h33
        have q37 := h33.1.symm
        subst q37
        intro v38 e39
        intro v40 e41
        intro v42 e43
        intro v44 e45
        have b46 := vg_add e45 (by omega) (by omega)
        refine And.intro (Nat.le_of_ble_eq_true rfl) (And.intro ⟨45, v44, rfl, by decide, i0⟩ ?_)
        intro v47 s49 h48
        have h48 : s49 = s0 ∧ (True) := h48
        have q52 := h48.1.symm
        subst q52
        intro v53 e54
        intro v55 e56
        intro v57 e58
        intro v59 e60
        intro v61 e62
        intro v63 e64
        have b65 := vg_add e64 (by omega) (by omega)
        exact ⟨rfl, ⟨w14, w15, v61, v63, rfl, (by omega), (by omega), rfl⟩, (by show (48 - v63.toInt).toNat < (48 - w17.toInt).toNat; omega)⟩
  ·
    have z0 : (Int32.ofInt 0).toInt = 0 := by decide
    have z1 : (Int32.ofInt 1).toInt = 1 := by decide
    refine ⟨Nat.le_of_ble_eq_true rfl, [(18, [true, true, true, false, true, false, true, false, true], (fun L t => ∃ (x2 : Int64) (x4 : Int64) (x6 : Int64) (x8 : Int32), L = [some (.ref 47), some (.int a1), some (.long x2), none, some (.long x4), none, some (.long x6), none, some (.int x8)] ∧ (0 : Int) ≤ x8.toInt ∧ x8.toInt ≤ (48 : Int) ∧ t = s0), (fun L _ => (48 - (vg_li L 8).toInt).toNat))], ?_, List.forall_mem_cons.mpr ⟨?_, fun _ h => absurd h List.not_mem_nil⟩⟩
    ·
      intro v1 e2
      have g3 : s0.1 47 2 = v1 := by rw [e2]
      have b4 : (0 : Int) ≤ v1.toInt ∧ v1.toInt ≤ 48 := by rw [e2]; exact Iv_47_2 i0
      intro v5 e6
      have b7 := vg_i2l e6
      refine And.intro (Nat.le_of_ble_eq_true rfl) (And.intro ⟨47, rfl, by decide, i0⟩ ?_)
      intro v8 s10 h9
      have h9 : s10 = s0 ∧ (True) := h9
      have q13 := h9.1.symm
      subst q13
      exact ⟨rfl, ⟨v5, v8, (Int64.ofNat 0), (Int32.ofInt 0), rfl, (by omega), (by omega), rfl⟩, trivial⟩
    ·
      intro L s20 hL
      obtain ⟨w14, w15, w16, w17, rfl, b18, b19, q23⟩ := hL
      have q23 := q23.symm
      subst q23
      intro v24 e25
      have b26 := vg_add e25 (by omega) (by omega)
      intro v27 e28
      have g29 : s0.1 47 2 = v27 := by rw [e28]
      have b30 : (0 : Int) ≤ v27.toInt ∧ v27.toInt ≤ 48 := by rw [e28]; exact Iv_47_2 i0
      refine And.intro (fun c31 => ?_) (fun c31 => ?_)
      · have c31 : v27.toInt ≤ v24.toInt := c31
        show s0 = s0 ∧ (True)
        exact ⟨rfl, (trivial)⟩
      · have c31 : ¬ (v27.toInt ≤ v24.toInt) := c31
        refine And.intro (Nat.le_of_ble_eq_true rfl) (And.intro ⟨47, w17, rfl, by decide, i0⟩ ?_)
        intro v32 s34 h33
        have h33 : s34 = s0 ∧ (True) := h33
        have q37 := h33.1.symm
        subst q37
        intro v38 e39
        intro v40 e41
        intro v42 e43
        intro v44 e45
        have b46 := vg_add e45 (by omega) (by omega)
        refine And.intro (Nat.le_of_ble_eq_true rfl) (And.intro ⟨47, v44, rfl, by decide, i0⟩ ?_)
        intro v47 s49 h48
        have h48 : s49 = s0 ∧ (True) := h48
        have q52 := h48.1.symm
        subst q52
        intro v53 e54
        intro v55 e56
        intro v57 e58
        intro v59 e60
        intro v61 e62
        intro v63 e64
        have b65 := vg_add e64 (by omega) (by omega)
        exact ⟨rfl, ⟨w14, w15, v61, v63, rfl, (by omega), (by omega), rfl⟩, (by show (48 - v63.toInt).toNat < (48 - w17.toInt).toNat; omega)⟩
  ·
    have z0 : (Int32.ofInt 0).toInt = 0 := by decide
    have z1 : (Int32.ofInt 1).toInt = 1 := by decide
    refine ⟨Nat.le_of_ble_eq_true rfl, [(18, [true, true, true, false, true, false, true, false, true], (fun L t => ∃ (x2 : Int64) (x4 : Int64) (x6 : Int64) (x8 : Int32), L = [some (.ref 49), some (.int a1), some (.long x2), none, some (.long x4), none, some (.long x6), none, some (.int x8)] ∧ (0 : Int) ≤ x8.toInt ∧ x8.toInt ≤ (48 : Int) ∧ t = s0), (fun L _ => (48 - (vg_li L 8).toInt).toNat))], ?_, List.forall_mem_cons.mpr ⟨?_, fun _ h => absurd h List.not_mem_nil⟩⟩
    ·
      intro v1 e2
      have g3 : s0.1 49 2 = v1 := by rw [e2]
      have b4 : (0 : Int) ≤ v1.toInt ∧ v1.toInt ≤ 48 := by rw [e2]; exact Iv_49_2 i0
      intro v5 e6
      have b7 := vg_i2l e6
      refine And.intro (Nat.le_of_ble_eq_true rfl) (And.intro ⟨49, rfl, by decide, i0⟩ ?_)
      intro v8 s10 h9
      have h9 : s10 = s0 ∧ (True) := h9
      have q13 := h9.1.symm
      subst q13
      exact ⟨rfl, ⟨v5, v8, (Int64.ofNat 0), (Int32.ofInt 0), rfl, (by omega), (by omega), rfl⟩, trivial⟩
    ·
      intro L s20 hL
      obtain ⟨w14, w15, w16, w17, rfl, b18, b19, q23⟩ := hL
      have q23 := q23.symm
      subst q23
      intro v24 e25
      have b26 := vg_add e25 (by omega) (by omega)
      intro v27 e28
      have g29 : s0.1 49 2 = v27 := by rw [e28]
      have b30 : (0 : Int) ≤ v27.toInt ∧ v27.toInt ≤ 48 := by rw [e28]; exact Iv_49_2 i0
      refine And.intro (fun c31 => ?_) (fun c31 => ?_)
      · have c31 : v27.toInt ≤ v24.toInt := c31
        show s0 = s0 ∧ (True)
        exact ⟨rfl, (trivial)⟩
      · have c31 : ¬ (v27.toInt ≤ v24.toInt) := c31
        refine And.intro (Nat.le_of_ble_eq_true rfl) (And.intro ⟨49, w17, rfl, by decide, i0⟩ ?_)
        intro v32 s34 h33
        have h33 : s34 = s0 ∧ (True) := h33
        have q37 := h33.1.symm
        subst q37
        intro v38 e39
        intro v40 e41
        intro v42 e43
        intro v44 e45
        have b46 := vg_add e45 (by omega) (by omega)
        refine And.intro (Nat.le_of_ble_eq_true rfl) (And.intro ⟨49, v44, rfl, by decide, i0⟩ ?_)
        intro v47 s49 h48
        have h48 : s49 = s0 ∧ (True) := h48
        have q52 := h48.1.symm
        subst q52
        intro v53 e54
        intro v55 e56
        intro v57 e58
        intro v59 e60
        intro v61 e62
        intro v63 e64
        have b65 := vg_add e64 (by omega) (by omega)
        exact ⟨rfl, ⟨w14, w15, v61, v63, rfl, (by omega), (by omega), rfl⟩, (by show (48 - v63.toInt).toNat < (48 - w17.toInt).toNat; omega)⟩
  ·
    have z0 : (Int32.ofInt 0).toInt = 0 := by decide
    have z1 : (Int32.ofInt 1).toInt = 1 := by decide
    refine ⟨Nat.le_of_ble_eq_true rfl, [(18, [true, true, true, false, true, false, true, false, true], (fun L t => ∃ (x2 : Int64) (x4 : Int64) (x6 : Int64) (x8 : Int32), L = [some (.ref 51), some (.int a1), some (.long x2), none, some (.long x4), none, some (.long x6), none, some (.int x8)] ∧ (0 : Int) ≤ x8.toInt ∧ x8.toInt ≤ (48 : Int) ∧ t = s0), (fun L _ => (48 - (vg_li L 8).toInt).toNat))], ?_, List.forall_mem_cons.mpr ⟨?_, fun _ h => absurd h List.not_mem_nil⟩⟩
    ·
      intro v1 e2
      have g3 : s0.1 51 2 = v1 := by rw [e2]
      have b4 : (0 : Int) ≤ v1.toInt ∧ v1.toInt ≤ 48 := by rw [e2]; exact Iv_51_2 i0
      intro v5 e6
      have b7 := vg_i2l e6
      refine And.intro (Nat.le_of_ble_eq_true rfl) (And.intro ⟨51, rfl, by decide, i0⟩ ?_)
      intro v8 s10 h9
      have h9 : s10 = s0 ∧ (True) := h9
      have q13 := h9.1.symm
      subst q13
      exact ⟨rfl, ⟨v5, v8, (Int64.ofNat 0), (Int32.ofInt 0), rfl, (by omega), (by omega), rfl⟩, trivial⟩
    ·
      intro L s20 hL
      obtain ⟨w14, w15, w16, w17, rfl, b18, b19, q23⟩ := hL
      have q23 := q23.symm
      subst q23
      intro v24 e25
      have b26 := vg_add e25 (by omega) (by omega)
      intro v27 e28
      have g29 : s0.1 51 2 = v27 := by rw [e28]
      have b30 : (0 : Int) ≤ v27.toInt ∧ v27.toInt ≤ 48 := by rw [e28]; exact Iv_51_2 i0
      refine And.intro (fun c31 => ?_) (fun c31 => ?_)
      · have c31 : v27.toInt ≤ v24.toInt := c31
        show s0 = s0 ∧ (True)
        exact ⟨rfl, (trivial)⟩
      · have c31 : ¬ (v27.toInt ≤ v24.toInt) := c31
        refine And.intro (Nat.le_of_ble_eq_true rfl) (And.intro ⟨51, w17, rfl, by decide, i0⟩ ?_)
        intro v32 s34 h33
        have h33 : s34 = s0 ∧ (True) := h33
        have q37 := h33.1.symm
        subst q37
        intro v38 e39
        intro v40 e41
        intro v42 e43
        intro v44 e45
        have b46 := vg_add e45 (by omega) (by omega)
        refine And.intro (Nat.le_of_ble_eq_true rfl) (And.intro ⟨51, v44, rfl, by decide, i0⟩ ?_)
        intro v47 s49 h48
        have h48 : s49 = s0 ∧ (True) := h48
        have q52 := h48.1.symm
        subst q52
        intro v53 e54
        intro v55 e56
        intro v57 e58
        intro v59 e60
        intro v61 e62
        intro v63 e64
        have b65 := vg_add e64 (by omega) (by omega)
        exact ⟨rfl, ⟨w14, w15, v61, v63, rfl, (by omega), (by omega), rfl⟩, (by show (48 - v63.toInt).toNat < (48 - w17.toInt).toNat; omega)⟩
  ·
    have z0 : (Int32.ofInt 0).toInt = 0 := by decide
    have z1 : (Int32.ofInt 1).toInt = 1 := by decide
    refine ⟨Nat.le_of_ble_eq_true rfl, [(18, [true, true, true, false, true, false, true, false, true], (fun L t => ∃ (x2 : Int64) (x4 : Int64) (x6 : Int64) (x8 : Int32), L = [some (.ref 53), some (.int a1), some (.long x2), none, some (.long x4), none, some (.long x6), none, some (.int x8)] ∧ (0 : Int) ≤ x8.toInt ∧ x8.toInt ≤ (48 : Int) ∧ t = s0), (fun L _ => (48 - (vg_li L 8).toInt).toNat))], ?_, List.forall_mem_cons.mpr ⟨?_, fun _ h => absurd h List.not_mem_nil⟩⟩
    ·
      intro v1 e2
      have g3 : s0.1 53 2 = v1 := by rw [e2]
      have b4 : (0 : Int) ≤ v1.toInt ∧ v1.toInt ≤ 48 := by rw [e2]; exact Iv_53_2 i0
      intro v5 e6
      have b7 := vg_i2l e6
      refine And.intro (Nat.le_of_ble_eq_true rfl) (And.intro ⟨53, rfl, by decide, i0⟩ ?_)
      intro v8 s10 h9
      have h9 : s10 = s0 ∧ (True) := h9
      have q13 := h9.1.symm
      subst q13
      exact ⟨rfl, ⟨v5, v8, (Int64.ofNat 0), (Int32.ofInt 0), rfl, (by omega), (by omega), rfl⟩, trivial⟩
    ·
      intro L s20 hL
      obtain ⟨w14, w15, w16, w17, rfl, b18, b19, q23⟩ := hL
      have q23 := q23.symm
      subst q23
      intro v24 e25
      have b26 := vg_add e25 (by omega) (by omega)
      intro v27 e28
      have g29 : s0.1 53 2 = v27 := by rw [e28]
      have b30 : (0 : Int) ≤ v27.toInt ∧ v27.toInt ≤ 48 := by rw [e28]; exact Iv_53_2 i0
      refine And.intro (fun c31 => ?_) (fun c31 => ?_)
      · have c31 : v27.toInt ≤ v24.toInt := c31
        show s0 = s0 ∧ (True)
        exact ⟨rfl, (trivial)⟩
      · have c31 : ¬ (v27.toInt ≤ v24.toInt) := c31
        refine And.intro (Nat.le_of_ble_eq_true rfl) (And.intro ⟨53, w17, rfl, by decide, i0⟩ ?_)
        intro v32 s34 h33
        have h33 : s34 = s0 ∧ (True) := h33
        have q37 := h33.1.symm
        subst q37
        intro v38 e39
        intro v40 e41
        intro v42 e43
        intro v44 e45
        have b46 := vg_add e45 (by omega) (by omega)
        refine And.intro (Nat.le_of_ble_eq_true rfl) (And.intro ⟨53, v44, rfl, by decide, i0⟩ ?_)
        intro v47 s49 h48
        have h48 : s49 = s0 ∧ (True) := h48
        have q52 := h48.1.symm
        subst q52
        intro v53 e54
        intro v55 e56
        intro v57 e58
        intro v59 e60
        intro v61 e62
        intro v63 e64
        have b65 := vg_add e64 (by omega) (by omega)
        exact ⟨rfl, ⟨w14, w15, v61, v63, rfl, (by omega), (by omega), rfl⟩, (by show (48 - v63.toInt).toNat < (48 - w17.toInt).toNat; omega)⟩
def o_X4_greatestBeat : List vg_I := [(0, .iload_n 1, 1, 0, 0, 0, 0), (1, .istore_n 3, 1, 0, 0, 0, 0), (2, .aload_n 0, 1, 0, 0, 0, 0), (3, .iload_n 1, 1, 0, 0, 0, 0), (4, .invokevirtual 44, 3, 0, 4, 1, 936), (7, .lstore 4, 2, 0, 0, 0, 0), (9, .iload_n 1, 1, 0, 0, 0, 0), (10, .iconst 1, 1, 0, 0, 0, 0), (11, .iadd, 1, 0, 0, 0, 0), (12, .istore 6, 2, 0, 0, 0, 0), (14, .iload 6, 2, 0, 0, 0, 0), (16, .iload_n 2, 1, 0, 0, 0, 0), (17, .if_icmp .gt 32, 3, 0, 0, 0, 0), (20, .aload_n 0, 1, 0, 0, 0, 0), (21, .iload 6, 2, 0, 0, 0, 0), (23, .invokevirtual 44, 3, 0, 4, 1, 936), (26, .lstore 7, 2, 0, 0, 0, 0), (28, .lload 7, 2, 0, 0, 0, 0), (30, .lload 4, 2, 0, 0, 0, 0), (32, .lcmp, 1, 0, 0, 0, 0), (33, .ifCond .le 10, 3, 0, 0, 0, 0), (36, .lload 7, 2, 0, 0, 0, 0), (38, .lstore 4, 2, 0, 0, 0, 0), (40, .iload 6, 2, 0, 0, 0, 0), (42, .istore_n 3, 1, 0, 0, 0, 0), (43, .iinc 6 1, 3, 0, 0, 0, 0), (46, .goto (-32), 3, 0, 0, 0, 0), (49, .iload_n 3, 1, 0, 0, 0, 0), (50, .ireturn, 1, 0, 0, 0, 0)]
set_option maxRecDepth 100000 in
set_option maxHeartbeats 4000000 in
theorem c_X4_greatestBeat (l : Launch) (G : vg_G) (hp : vg_Hp G) : vg_Ct l G vg_sh r_X4_greatestBeat := by
  refine vg_meth hp vg_sh_ok r_X4_greatestBeat k_X4_greatestBeat rfl (fun h => by cases h) o_X4_greatestBeat [r_X4_beatOf] false (by decide +kernel) (by decide +kernel) ⟨_, _, rfl, rfl⟩ (List.forall_mem_cons.mpr ⟨⟨c_X4_beatOf l G hp, Nat.le_of_ble_eq_true rfl, Nat.le_of_ble_eq_true rfl⟩, fun _ h => absurd h List.not_mem_nil⟩) (fun h => by cases h) 600 ?_
  intro as s0 hpre
  obtain ⟨r, a1, a2, rfl, hr, i0, p0⟩ := hpre
  simp only [List.mem_cons, List.not_mem_nil, or_false] at hr
  rcases hr with rfl | rfl | rfl | rfl | rfl | rfl | rfl
  ·
    have z1 : (Int32.ofInt 1).toInt = 1 := by decide
    refine ⟨Nat.le_of_ble_eq_true rfl, [(14, [true, false, true, true, true, false, true, false, false], (fun L t => ∃ (x3 : Int32) (x4 : Int64) (x6 : Int32), L = [some (.ref 41), none, some (.int a2), some (.int x3), some (.long x4), none, some (.int x6), none, none] ∧ (1 : Int) ≤ x6.toInt ∧ x6.toInt ≤ (25 : Int) ∧ t = s0), (fun L _ => (0 + (25 - (vg_li L 6).toInt) * 1000000000000).toNat))], ?_, List.forall_mem_cons.mpr ⟨?_, fun _ h => absurd h List.not_mem_nil⟩⟩
    ·
      refine And.intro (Nat.le_of_ble_eq_true rfl) (And.intro ⟨41, a1, rfl, by decide, i0, by omega⟩ ?_)
      intro v1 s3 h2
      have h2 : s3 = s0 ∧ (True) := h2
      have q6 := h2.1.symm
      subst q6
      intro v7 e8
      have b9 := vg_add e8 (by omega) (by omega)
      exact ⟨rfl, ⟨a1, v1, v7, rfl, (by omega), (by omega), rfl⟩, trivial⟩
    ·
      intro L s15 hL
      obtain ⟨w10, w11, w12, rfl, b13, b14, q18⟩ := hL
      have q18 := q18.symm
      subst q18
      refine And.intro (fun c19 => ?_) (fun c19 => ?_)
      · have c19 : a2.toInt < w12.toInt := c19
        show s0 = s0 ∧ (True)
        exact ⟨rfl, (trivial)⟩
      · have c19 : ¬ (a2.toInt < w12.toInt) := c19
        refine And.intro (Nat.le_of_ble_eq_true rfl) (And.intro ⟨41, w12, rfl, by decide, i0, by omega⟩ ?_)
        intro v20 s22 h21
        have h21 : s22 = s0 ∧ (True) := h21
        have q25 := h21.1.symm
        subst q25
        intro v26 e27
        refine And.intro (fun c28 => ?_) (fun c28 => ?_)
        · have c28 : v26.toInt ≤ 0 := c28
          intro v29 e30
          have b31 := vg_add e30 (by omega) (by omega)
          exact ⟨rfl, ⟨w10, w11, v29, rfl, (by omega), (by omega), rfl⟩, (by show (0 + (25 - v29.toInt) * 1000000000000).toNat < (0 + (25 - w12.toInt) * 1000000000000).toNat; omega)⟩
        · have c28 : ¬ (v26.toInt ≤ 0) := c28
          intro v32 e33
          have b34 := vg_add e33 (by omega) (by omega)
          exact ⟨rfl, ⟨w12, v20, v32, rfl, (by omega), (by omega), rfl⟩, (by show (0 + (25 - v32.toInt) * 1000000000000).toNat < (0 + (25 - w12.toInt) * 1000000000000).toNat; omega)⟩
  ·
    have z1 : (Int32.ofInt 1).toInt = 1 := by decide
    refine ⟨Nat.le_of_ble_eq_true rfl, [(14, [true, false, true, true, true, false, true, false, false], (fun L t => ∃ (x3 : Int32) (x4 : Int64) (x6 : Int32), L = [some (.ref 43), none, some (.int a2), some (.int x3), some (.long x4), none, some (.int x6), none, none] ∧ (1 : Int) ≤ x6.toInt ∧ x6.toInt ≤ (25 : Int) ∧ t = s0), (fun L _ => (0 + (25 - (vg_li L 6).toInt) * 1000000000000).toNat))], ?_, List.forall_mem_cons.mpr ⟨?_, fun _ h => absurd h List.not_mem_nil⟩⟩
    ·
      refine And.intro (Nat.le_of_ble_eq_true rfl) (And.intro ⟨43, a1, rfl, by decide, i0, by omega⟩ ?_)
      intro v1 s3 h2
      have h2 : s3 = s0 ∧ (True) := h2
      have q6 := h2.1.symm
      subst q6
      intro v7 e8
      have b9 := vg_add e8 (by omega) (by omega)
      exact ⟨rfl, ⟨a1, v1, v7, rfl, (by omega), (by omega), rfl⟩, trivial⟩
    ·
      intro L s15 hL
      obtain ⟨w10, w11, w12, rfl, b13, b14, q18⟩ := hL
      have q18 := q18.symm
      subst q18
      refine And.intro (fun c19 => ?_) (fun c19 => ?_)
      · have c19 : a2.toInt < w12.toInt := c19
        show s0 = s0 ∧ (True)
        exact ⟨rfl, (trivial)⟩
      · have c19 : ¬ (a2.toInt < w12.toInt) := c19
        refine And.intro (Nat.le_of_ble_eq_true rfl) (And.intro ⟨43, w12, rfl, by decide, i0, by omega⟩ ?_)
        intro v20 s22 h21
        have h21 : s22 = s0 ∧ (True) := h21
        have q25 := h21.1.symm
        subst q25
        intro v26 e27
        refine And.intro (fun c28 => ?_) (fun c28 => ?_)
        · have c28 : v26.toInt ≤ 0 := c28
          intro v29 e30
          have b31 := vg_add e30 (by omega) (by omega)
          exact ⟨rfl, ⟨w10, w11, v29, rfl, (by omega), (by omega), rfl⟩, (by show (0 + (25 - v29.toInt) * 1000000000000).toNat < (0 + (25 - w12.toInt) * 1000000000000).toNat; omega)⟩
        · have c28 : ¬ (v26.toInt ≤ 0) := c28
          intro v32 e33
          have b34 := vg_add e33 (by omega) (by omega)
          exact ⟨rfl, ⟨w12, v20, v32, rfl, (by omega), (by omega), rfl⟩, (by show (0 + (25 - v32.toInt) * 1000000000000).toNat < (0 + (25 - w12.toInt) * 1000000000000).toNat; omega)⟩
  ·
    have z1 : (Int32.ofInt 1).toInt = 1 := by decide
    refine ⟨Nat.le_of_ble_eq_true rfl, [(14, [true, false, true, true, true, false, true, false, false], (fun L t => ∃ (x3 : Int32) (x4 : Int64) (x6 : Int32), L = [some (.ref 45), none, some (.int a2), some (.int x3), some (.long x4), none, some (.int x6), none, none] ∧ (1 : Int) ≤ x6.toInt ∧ x6.toInt ≤ (25 : Int) ∧ t = s0), (fun L _ => (0 + (25 - (vg_li L 6).toInt) * 1000000000000).toNat))], ?_, List.forall_mem_cons.mpr ⟨?_, fun _ h => absurd h List.not_mem_nil⟩⟩
    ·
      refine And.intro (Nat.le_of_ble_eq_true rfl) (And.intro ⟨45, a1, rfl, by decide, i0, by omega⟩ ?_)
      intro v1 s3 h2
      have h2 : s3 = s0 ∧ (True) := h2
      have q6 := h2.1.symm
      subst q6
      intro v7 e8
      have b9 := vg_add e8 (by omega) (by omega)
      exact ⟨rfl, ⟨a1, v1, v7, rfl, (by omega), (by omega), rfl⟩, trivial⟩
    ·
      intro L s15 hL
      obtain ⟨w10, w11, w12, rfl, b13, b14, q18⟩ := hL
      have q18 := q18.symm
      subst q18
      refine And.intro (fun c19 => ?_) (fun c19 => ?_)
      · have c19 : a2.toInt < w12.toInt := c19
        show s0 = s0 ∧ (True)
        exact ⟨rfl, (trivial)⟩
      · have c19 : ¬ (a2.toInt < w12.toInt) := c19
        refine And.intro (Nat.le_of_ble_eq_true rfl) (And.intro ⟨45, w12, rfl, by decide, i0, by omega⟩ ?_)
        intro v20 s22 h21
        have h21 : s22 = s0 ∧ (True) := h21
        have q25 := h21.1.symm
        subst q25
        intro v26 e27
        refine And.intro (fun c28 => ?_) (fun c28 => ?_)
        · have c28 : v26.toInt ≤ 0 := c28
          intro v29 e30
          have b31 := vg_add e30 (by omega) (by omega)
          exact ⟨rfl, ⟨w10, w11, v29, rfl, (by omega), (by omega), rfl⟩, (by show (0 + (25 - v29.toInt) * 1000000000000).toNat < (0 + (25 - w12.toInt) * 1000000000000).toNat; omega)⟩
        · have c28 : ¬ (v26.toInt ≤ 0) := c28
          intro v32 e33
          have b34 := vg_add e33 (by omega) (by omega)
          exact ⟨rfl, ⟨w12, v20, v32, rfl, (by omega), (by omega), rfl⟩, (by show (0 + (25 - v32.toInt) * 1000000000000).toNat < (0 + (25 - w12.toInt) * 1000000000000).toNat; omega)⟩
  ·
    have z1 : (Int32.ofInt 1).toInt = 1 := by decide
    refine ⟨Nat.le_of_ble_eq_true rfl, [(14, [true, false, true, true, true, false, true, false, false], (fun L t => ∃ (x3 : Int32) (x4 : Int64) (x6 : Int32), L = [some (.ref 47), none, some (.int a2), some (.int x3), some (.long x4), none, some (.int x6), none, none] ∧ (1 : Int) ≤ x6.toInt ∧ x6.toInt ≤ (25 : Int) ∧ t = s0), (fun L _ => (0 + (25 - (vg_li L 6).toInt) * 1000000000000).toNat))], ?_, List.forall_mem_cons.mpr ⟨?_, fun _ h => absurd h List.not_mem_nil⟩⟩
    ·
      refine And.intro (Nat.le_of_ble_eq_true rfl) (And.intro ⟨47, a1, rfl, by decide, i0, by omega⟩ ?_)
      intro v1 s3 h2
      have h2 : s3 = s0 ∧ (True) := h2
      have q6 := h2.1.symm
      subst q6
      intro v7 e8
      have b9 := vg_add e8 (by omega) (by omega)
      exact ⟨rfl, ⟨a1, v1, v7, rfl, (by omega), (by omega), rfl⟩, trivial⟩
    ·
      intro L s15 hL
      obtain ⟨w10, w11, w12, rfl, b13, b14, q18⟩ := hL
      have q18 := q18.symm
      subst q18
      refine And.intro (fun c19 => ?_) (fun c19 => ?_)
      · have c19 : a2.toInt < w12.toInt := c19
        show s0 = s0 ∧ (True)
        exact ⟨rfl, (trivial)⟩
      · have c19 : ¬ (a2.toInt < w12.toInt) := c19
        refine And.intro (Nat.le_of_ble_eq_true rfl) (And.intro ⟨47, w12, rfl, by decide, i0, by omega⟩ ?_)
        intro v20 s22 h21
        have h21 : s22 = s0 ∧ (True) := h21
        have q25 := h21.1.symm
        subst q25
        intro v26 e27
        refine And.intro (fun c28 => ?_) (fun c28 => ?_)
        · have c28 : v26.toInt ≤ 0 := c28
          intro v29 e30
          have b31 := vg_add e30 (by omega) (by omega)
          exact ⟨rfl, ⟨w10, w11, v29, rfl, (by omega), (by omega), rfl⟩, (by show (0 + (25 - v29.toInt) * 1000000000000).toNat < (0 + (25 - w12.toInt) * 1000000000000).toNat; omega)⟩
        · have c28 : ¬ (v26.toInt ≤ 0) := c28
          intro v32 e33
          have b34 := vg_add e33 (by omega) (by omega)
          exact ⟨rfl, ⟨w12, v20, v32, rfl, (by omega), (by omega), rfl⟩, (by show (0 + (25 - v32.toInt) * 1000000000000).toNat < (0 + (25 - w12.toInt) * 1000000000000).toNat; omega)⟩
  ·
    have z1 : (Int32.ofInt 1).toInt = 1 := by decide
    refine ⟨Nat.le_of_ble_eq_true rfl, [(14, [true, false, true, true, true, false, true, false, false], (fun L t => ∃ (x3 : Int32) (x4 : Int64) (x6 : Int32), L = [some (.ref 49), none, some (.int a2), some (.int x3), some (.long x4), none, some (.int x6), none, none] ∧ (1 : Int) ≤ x6.toInt ∧ x6.toInt ≤ (25 : Int) ∧ t = s0), (fun L _ => (0 + (25 - (vg_li L 6).toInt) * 1000000000000).toNat))], ?_, List.forall_mem_cons.mpr ⟨?_, fun _ h => absurd h List.not_mem_nil⟩⟩
    ·
      refine And.intro (Nat.le_of_ble_eq_true rfl) (And.intro ⟨49, a1, rfl, by decide, i0, by omega⟩ ?_)
      intro v1 s3 h2
      have h2 : s3 = s0 ∧ (True) := h2
      have q6 := h2.1.symm
      subst q6
      intro v7 e8
      have b9 := vg_add e8 (by omega) (by omega)
      exact ⟨rfl, ⟨a1, v1, v7, rfl, (by omega), (by omega), rfl⟩, trivial⟩
    ·
      intro L s15 hL
      obtain ⟨w10, w11, w12, rfl, b13, b14, q18⟩ := hL
      have q18 := q18.symm
      subst q18
      refine And.intro (fun c19 => ?_) (fun c19 => ?_)
      · have c19 : a2.toInt < w12.toInt := c19
        show s0 = s0 ∧ (True)
        exact ⟨rfl, (trivial)⟩
      · have c19 : ¬ (a2.toInt < w12.toInt) := c19
        refine And.intro (Nat.le_of_ble_eq_true rfl) (And.intro ⟨49, w12, rfl, by decide, i0, by omega⟩ ?_)
        intro v20 s22 h21
        have h21 : s22 = s0 ∧ (True) := h21
        have q25 := h21.1.symm
        subst q25
        intro v26 e27
        refine And.intro (fun c28 => ?_) (fun c28 => ?_)
        · have c28 : v26.toInt ≤ 0 := c28
          intro v29 e30
          have b31 := vg_add e30 (by omega) (by omega)
          exact ⟨rfl, ⟨w10, w11, v29, rfl, (by omega), (by omega), rfl⟩, (by show (0 + (25 - v29.toInt) * 1000000000000).toNat < (0 + (25 - w12.toInt) * 1000000000000).toNat; omega)⟩
        · have c28 : ¬ (v26.toInt ≤ 0) := c28
          intro v32 e33
          have b34 := vg_add e33 (by omega) (by omega)
          exact ⟨rfl, ⟨w12, v20, v32, rfl, (by omega), (by omega), rfl⟩, (by show (0 + (25 - v32.toInt) * 1000000000000).toNat < (0 + (25 - w12.toInt) * 1000000000000).toNat; omega)⟩
  ·
    have z1 : (Int32.ofInt 1).toInt = 1 := by decide
    refine ⟨Nat.le_of_ble_eq_true rfl, [(14, [true, false, true, true, true, false, true, false, false], (fun L t => ∃ (x3 : Int32) (x4 : Int64) (x6 : Int32), L = [some (.ref 51), none, some (.int a2), some (.int x3), some (.long x4), none, some (.int x6), none, none] ∧ (1 : Int) ≤ x6.toInt ∧ x6.toInt ≤ (25 : Int) ∧ t = s0), (fun L _ => (0 + (25 - (vg_li L 6).toInt) * 1000000000000).toNat))], ?_, List.forall_mem_cons.mpr ⟨?_, fun _ h => absurd h List.not_mem_nil⟩⟩
    ·
      refine And.intro (Nat.le_of_ble_eq_true rfl) (And.intro ⟨51, a1, rfl, by decide, i0, by omega⟩ ?_)
      intro v1 s3 h2
      have h2 : s3 = s0 ∧ (True) := h2
      have q6 := h2.1.symm
      subst q6
      intro v7 e8
      have b9 := vg_add e8 (by omega) (by omega)
      exact ⟨rfl, ⟨a1, v1, v7, rfl, (by omega), (by omega), rfl⟩, trivial⟩
    ·
      intro L s15 hL
      obtain ⟨w10, w11, w12, rfl, b13, b14, q18⟩ := hL
      have q18 := q18.symm
      subst q18
      refine And.intro (fun c19 => ?_) (fun c19 => ?_)
      · have c19 : a2.toInt < w12.toInt := c19
        show s0 = s0 ∧ (True)
        exact ⟨rfl, (trivial)⟩
      · have c19 : ¬ (a2.toInt < w12.toInt) := c19
        refine And.intro (Nat.le_of_ble_eq_true rfl) (And.intro ⟨51, w12, rfl, by decide, i0, by omega⟩ ?_)
        intro v20 s22 h21
        have h21 : s22 = s0 ∧ (True) := h21
        have q25 := h21.1.symm
        subst q25
        intro v26 e27
        refine And.intro (fun c28 => ?_) (fun c28 => ?_)
        · have c28 : v26.toInt ≤ 0 := c28
          intro v29 e30
          have b31 := vg_add e30 (by omega) (by omega)
          exact ⟨rfl, ⟨w10, w11, v29, rfl, (by omega), (by omega), rfl⟩, (by show (0 + (25 - v29.toInt) * 1000000000000).toNat < (0 + (25 - w12.toInt) * 1000000000000).toNat; omega)⟩
        · have c28 : ¬ (v26.toInt ≤ 0) := c28
          intro v32 e33
          have b34 := vg_add e33 (by omega) (by omega)
          exact ⟨rfl, ⟨w12, v20, v32, rfl, (by omega), (by omega), rfl⟩, (by show (0 + (25 - v32.toInt) * 1000000000000).toNat < (0 + (25 - w12.toInt) * 1000000000000).toNat; omega)⟩
  ·
    have z1 : (Int32.ofInt 1).toInt = 1 := by decide
    refine ⟨Nat.le_of_ble_eq_true rfl, [(14, [true, false, true, true, true, false, true, false, false], (fun L t => ∃ (x3 : Int32) (x4 : Int64) (x6 : Int32), L = [some (.ref 53), none, some (.int a2), some (.int x3), some (.long x4), none, some (.int x6), none, none] ∧ (1 : Int) ≤ x6.toInt ∧ x6.toInt ≤ (25 : Int) ∧ t = s0), (fun L _ => (0 + (25 - (vg_li L 6).toInt) * 1000000000000).toNat))], ?_, List.forall_mem_cons.mpr ⟨?_, fun _ h => absurd h List.not_mem_nil⟩⟩
    ·
      refine And.intro (Nat.le_of_ble_eq_true rfl) (And.intro ⟨53, a1, rfl, by decide, i0, by omega⟩ ?_)
      intro v1 s3 h2
      have h2 : s3 = s0 ∧ (True) := h2
      have q6 := h2.1.symm
      subst q6
      intro v7 e8
      have b9 := vg_add e8 (by omega) (by omega)
      exact ⟨rfl, ⟨a1, v1, v7, rfl, (by omega), (by omega), rfl⟩, trivial⟩
    ·
      intro L s15 hL
      obtain ⟨w10, w11, w12, rfl, b13, b14, q18⟩ := hL
      have q18 := q18.symm
      subst q18
      refine And.intro (fun c19 => ?_) (fun c19 => ?_)
      · have c19 : a2.toInt < w12.toInt := c19
        show s0 = s0 ∧ (True)
        exact ⟨rfl, (trivial)⟩
      · have c19 : ¬ (a2.toInt < w12.toInt) := c19
        refine And.intro (Nat.le_of_ble_eq_true rfl) (And.intro ⟨53, w12, rfl, by decide, i0, by omega⟩ ?_)
        intro v20 s22 h21
        have h21 : s22 = s0 ∧ (True) := h21
        have q25 := h21.1.symm
        subst q25
        intro v26 e27
        refine And.intro (fun c28 => ?_) (fun c28 => ?_)
        · have c28 : v26.toInt ≤ 0 := c28
          intro v29 e30
          have b31 := vg_add e30 (by omega) (by omega)
          exact ⟨rfl, ⟨w10, w11, v29, rfl, (by omega), (by omega), rfl⟩, (by show (0 + (25 - v29.toInt) * 1000000000000).toNat < (0 + (25 - w12.toInt) * 1000000000000).toNat; omega)⟩
        · have c28 : ¬ (v26.toInt ≤ 0) := c28
          intro v32 e33
          have b34 := vg_add e33 (by omega) (by omega)
          exact ⟨rfl, ⟨w12, v20, v32, rfl, (by omega), (by omega), rfl⟩, (by show (0 + (25 - v32.toInt) * 1000000000000).toNat < (0 + (25 - w12.toInt) * 1000000000000).toNat; omega)⟩
