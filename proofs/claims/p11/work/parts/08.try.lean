def o_J9_max_7cf53 : List vg_I := [(0, .iload_n 0, 1, 0, 0, 0, 0), (1, .iload_n 1, 1, 0, 0, 0, 0), (2, .if_icmp .lt 7, 3, 0, 0, 0, 0), (5, .iload_n 0, 1, 0, 0, 0, 0), (6, .goto 4, 3, 0, 0, 0, 0), (9, .iload_n 1, 1, 0, 0, 0, 0), (10, .ireturn, 1, 0, 0, 0, 0)]
set_option maxRecDepth 100000 in
set_option maxHeartbeats 4000000 in
theorem c_J9_max_7cf53 (l : Launch) (G : vg_G) (hp : vg_Hp G) : vg_Ct l G vg_sh r_J9_max_7cf53 := by
  refine vg_meth hp vg_sh_ok r_J9_max_7cf53 k_J9_max_7cf53 rfl (fun h => by cases h) o_J9_max_7cf53 [] false (by decide +kernel) (by decide +kernel) ⟨_, _, rfl, rfl⟩ (fun _ h => absurd h List.not_mem_nil) (fun h => by cases h) 600 ?_
  intro as s0 hpre
  obtain ⟨a1, a2, rfl, -⟩ := hpre
  refine ⟨Nat.le_of_ble_eq_true rfl, [], ?_, fun _ h => absurd h List.not_mem_nil⟩
  ·
    refine And.intro (fun c1 => ?_) (fun c1 => ?_)
    · have c1 : a1.toInt < a2.toInt := c1
      show s0 = s0 ∧ (a1.toInt ≤ a2.toInt ∧ a2.toInt ≤ a2.toInt ∧ (a2.toInt = a1.toInt ∨ a2.toInt = a2.toInt))
      exact ⟨rfl, (by first | trivial | omega | assumption)⟩
    · have c1 : ¬ (a1.toInt < a2.toInt) := c1
      show s0 = s0 ∧ (a1.toInt ≤ a1.toInt ∧ a2.toInt ≤ a1.toInt ∧ (a1.toInt = a1.toInt ∨ a1.toInt = a2.toInt))
      exact ⟨rfl, (by first | trivial | omega | assumption)⟩
def o_J9_min_7cf53 : List vg_I := [(0, .iload_n 0, 1, 0, 0, 0, 0), (1, .iload_n 1, 1, 0, 0, 0, 0), (2, .if_icmp .gt 7, 3, 0, 0, 0, 0), (5, .iload_n 0, 1, 0, 0, 0, 0), (6, .goto 4, 3, 0, 0, 0, 0), (9, .iload_n 1, 1, 0, 0, 0, 0), (10, .ireturn, 1, 0, 0, 0, 0)]
set_option maxRecDepth 100000 in
set_option maxHeartbeats 4000000 in
theorem c_J9_min_7cf53 (l : Launch) (G : vg_G) (hp : vg_Hp G) : vg_Ct l G vg_sh r_J9_min_7cf53 := by
  refine vg_meth hp vg_sh_ok r_J9_min_7cf53 k_J9_min_7cf53 rfl (fun h => by cases h) o_J9_min_7cf53 [] false (by decide +kernel) (by decide +kernel) ⟨_, _, rfl, rfl⟩ (fun _ h => absurd h List.not_mem_nil) (fun h => by cases h) 600 ?_
  intro as s0 hpre
  obtain ⟨a1, a2, rfl, -⟩ := hpre
  refine ⟨Nat.le_of_ble_eq_true rfl, [], ?_, fun _ h => absurd h List.not_mem_nil⟩
  ·
    refine And.intro (fun c1 => ?_) (fun c1 => ?_)
    · have c1 : a2.toInt < a1.toInt := c1
      show s0 = s0 ∧ (a2.toInt ≤ a1.toInt ∧ a2.toInt ≤ a2.toInt ∧ (a2.toInt = a1.toInt ∨ a2.toInt = a2.toInt))
      exact ⟨rfl, (by first | trivial | omega | assumption)⟩
    · have c1 : ¬ (a2.toInt < a1.toInt) := c1
      show s0 = s0 ∧ (a1.toInt ≤ a1.toInt ∧ a1.toInt ≤ a2.toInt ∧ (a1.toInt = a1.toInt ∨ a1.toInt = a2.toInt))
      exact ⟨rfl, (by first | trivial | omega | assumption)⟩
def o_X4_clear : List vg_I := [(0, .aload_n 0, 1, 0, 0, 0, 0), (1, .iconst 0, 1, 0, 0, 0, 0), (2, .putfield 13, 3, 414, 4, 2, 0), (5, .aload_n 0, 1, 0, 0, 0, 0), (6, .iconst 0, 1, 0, 0, 0, 0), (7, .putfield 17, 3, 416, 4, 3, 0), (10, .return_, 1, 0, 0, 0, 0)]
set_option maxRecDepth 100000 in
set_option maxHeartbeats 4000000 in
theorem c_X4_clear (l : Launch) (G : vg_G) (hp : vg_Hp G) : vg_Ct l G vg_sh r_X4_clear := by
  refine vg_meth hp vg_sh_ok r_X4_clear k_X4_clear rfl (fun h => by cases h) o_X4_clear [] false (by decide +kernel) (by decide +kernel) ⟨_, _, rfl, rfl⟩ (fun _ h => absurd h List.not_mem_nil) (fun h => by cases h) 600 ?_
  intro as s0 hpre
  obtain ⟨r, rfl, hr, i0⟩ := hpre
  simp only [List.mem_cons, List.not_mem_nil, or_false] at hr
  rcases hr with rfl | rfl | rfl | rfl | rfl | rfl | rfl
  ·
    have z0 : (Int32.ofInt 0).toInt = 0 := by decide
    refine ⟨Nat.le_of_ble_eq_true rfl, [], ?_, fun _ h => absurd h List.not_mem_nil⟩
    ·
      intro s1 e2
      have i3 : Iv s1 := Iv.c1 (lo := 0) (hi := 48) i0 e2 rfl (by omega) (by omega)
      have k4 : Kp s0 s1 := Kp.u1 Kp.rf e2 rfl
      intro s5 e6
      have i7 : Iv s5 := Iv.u1 i3 e6 rfl
      have k8 : Kp s0 s5 := Kp.u1 k4 e6 rfl
      show Iv s5 ∧ Kp s0 s5 ∧ (True)
      exact ⟨i7, k8, (trivial)⟩
  ·
    have z0 : (Int32.ofInt 0).toInt = 0 := by decide
    refine ⟨Nat.le_of_ble_eq_true rfl, [], ?_, fun _ h => absurd h List.not_mem_nil⟩
    ·
      intro s1 e2
      have i3 : Iv s1 := Iv.c1 (lo := 0) (hi := 48) i0 e2 rfl (by omega) (by omega)
      have k4 : Kp s0 s1 := Kp.u1 Kp.rf e2 rfl
      intro s5 e6
      have i7 : Iv s5 := Iv.u1 i3 e6 rfl
      have k8 : Kp s0 s5 := Kp.u1 k4 e6 rfl
      show Iv s5 ∧ Kp s0 s5 ∧ (True)
      exact ⟨i7, k8, (trivial)⟩
  ·
    have z0 : (Int32.ofInt 0).toInt = 0 := by decide
    refine ⟨Nat.le_of_ble_eq_true rfl, [], ?_, fun _ h => absurd h List.not_mem_nil⟩
    ·
      intro s1 e2
      have i3 : Iv s1 := Iv.c1 (lo := 0) (hi := 48) i0 e2 rfl (by omega) (by omega)
      have k4 : Kp s0 s1 := Kp.u1 Kp.rf e2 rfl
      intro s5 e6
      have i7 : Iv s5 := Iv.u1 i3 e6 rfl
      have k8 : Kp s0 s5 := Kp.u1 k4 e6 rfl
      show Iv s5 ∧ Kp s0 s5 ∧ (True)
      exact ⟨i7, k8, (trivial)⟩
  ·
    have z0 : (Int32.ofInt 0).toInt = 0 := by decide
    refine ⟨Nat.le_of_ble_eq_true rfl, [], ?_, fun _ h => absurd h List.not_mem_nil⟩
    ·
      intro s1 e2
      have i3 : Iv s1 := Iv.c1 (lo := 0) (hi := 48) i0 e2 rfl (by omega) (by omega)
      have k4 : Kp s0 s1 := Kp.u1 Kp.rf e2 rfl
      intro s5 e6
      have i7 : Iv s5 := Iv.u1 i3 e6 rfl
      have k8 : Kp s0 s5 := Kp.u1 k4 e6 rfl
      show Iv s5 ∧ Kp s0 s5 ∧ (True)
      exact ⟨i7, k8, (trivial)⟩
  ·
    have z0 : (Int32.ofInt 0).toInt = 0 := by decide
    refine ⟨Nat.le_of_ble_eq_true rfl, [], ?_, fun _ h => absurd h List.not_mem_nil⟩
    ·
      intro s1 e2
      have i3 : Iv s1 := Iv.c1 (lo := 0) (hi := 48) i0 e2 rfl (by omega) (by omega)
      have k4 : Kp s0 s1 := Kp.u1 Kp.rf e2 rfl
      intro s5 e6
      have i7 : Iv s5 := Iv.u1 i3 e6 rfl
      have k8 : Kp s0 s5 := Kp.u1 k4 e6 rfl
      show Iv s5 ∧ Kp s0 s5 ∧ (True)
      exact ⟨i7, k8, (trivial)⟩
  ·
    have z0 : (Int32.ofInt 0).toInt = 0 := by decide
    refine ⟨Nat.le_of_ble_eq_true rfl, [], ?_, fun _ h => absurd h List.not_mem_nil⟩
    ·
      intro s1 e2
      have i3 : Iv s1 := Iv.c1 (lo := 0) (hi := 48) i0 e2 rfl (by omega) (by omega)
      have k4 : Kp s0 s1 := Kp.u1 Kp.rf e2 rfl
      intro s5 e6
      have i7 : Iv s5 := Iv.u1 i3 e6 rfl
      have k8 : Kp s0 s5 := Kp.u1 k4 e6 rfl
      show Iv s5 ∧ Kp s0 s5 ∧ (True)
      exact ⟨i7, k8, (trivial)⟩
  ·
    have z0 : (Int32.ofInt 0).toInt = 0 := by decide
    refine ⟨Nat.le_of_ble_eq_true rfl, [], ?_, fun _ h => absurd h List.not_mem_nil⟩
    ·
      intro s1 e2
      have i3 : Iv s1 := Iv.c1 (lo := 0) (hi := 48) i0 e2 rfl (by omega) (by omega)
      have k4 : Kp s0 s1 := Kp.u1 Kp.rf e2 rfl
      intro s5 e6
      have i7 : Iv s5 := Iv.u1 i3 e6 rfl
      have k8 : Kp s0 s5 := Kp.u1 k4 e6 rfl
      show Iv s5 ∧ Kp s0 s5 ∧ (True)
      exact ⟨i7, k8, (trivial)⟩
def o_X4_get : List vg_I := [(0, .aload_n 0, 1, 0, 0, 0, 0), (1, .getfield 9, 3, 412, 4, 0, 0), (4, .aload_n 0, 1, 0, 0, 0, 0), (5, .getfield 20, 3, 413, 4, 1, 0), (8, .iload_n 1, 1, 0, 0, 0, 0), (9, .isub, 1, 0, 0, 0, 0), (10, .bipush 63, 2, 0, 0, 0, 0), (12, .iand, 1, 0, 0, 0, 0), (13, .iaload, 1, 0, 0, 0, 0), (14, .ireturn, 1, 0, 0, 0, 0)]
set_option maxRecDepth 100000 in
set_option maxHeartbeats 4000000 in
theorem c_X4_get (l : Launch) (G : vg_G) (hp : vg_Hp G) : vg_Ct l G vg_sh r_X4_get := by
  refine vg_meth hp vg_sh_ok r_X4_get k_X4_get rfl (fun h => by cases h) o_X4_get [] false (by decide +kernel) (by decide +kernel) ⟨_, _, rfl, rfl⟩ (fun _ h => absurd h List.not_mem_nil) (fun h => by cases h) 600 ?_
  intro as s0 hpre
  obtain ⟨r, a1, rfl, hr, i0⟩ := hpre
  simp only [List.mem_cons, List.not_mem_nil, or_false] at hr
  rcases hr with rfl | rfl | rfl | rfl | rfl | rfl | rfl
  ·
    have z63 : (Int32.ofInt 63).toInt = 63 := by decide
    refine ⟨Nat.le_of_ble_eq_true rfl, [], ?_, fun _ h => absurd h List.not_mem_nil⟩
    ·
      intro v1 e2
      have g3 : s0.1 41 1 = v1 := by rw [e2]
      intro v4 e5
      intro v6 e7
      have b8 := vg_and e7 (by omega)
      refine And.intro ⟨by omega, by omega⟩ ?_
      intro v9 e10
      show s0 = s0 ∧ (True)
      exact ⟨rfl, (trivial)⟩
  ·
    have z63 : (Int32.ofInt 63).toInt = 63 := by decide
    refine ⟨Nat.le_of_ble_eq_true rfl, [], ?_, fun _ h => absurd h List.not_mem_nil⟩
    ·
      intro v1 e2
      have g3 : s0.1 43 1 = v1 := by rw [e2]
      intro v4 e5
      intro v6 e7
      have b8 := vg_and e7 (by omega)
      refine And.intro ⟨by omega, by omega⟩ ?_
      intro v9 e10
      show s0 = s0 ∧ (True)
      exact ⟨rfl, (trivial)⟩
  ·
    have z63 : (Int32.ofInt 63).toInt = 63 := by decide
    refine ⟨Nat.le_of_ble_eq_true rfl, [], ?_, fun _ h => absurd h List.not_mem_nil⟩
    ·
      intro v1 e2
      have g3 : s0.1 45 1 = v1 := by rw [e2]
      intro v4 e5
      intro v6 e7
      have b8 := vg_and e7 (by omega)
      refine And.intro ⟨by omega, by omega⟩ ?_
      intro v9 e10
      show s0 = s0 ∧ (True)
      exact ⟨rfl, (trivial)⟩
  ·
    have z63 : (Int32.ofInt 63).toInt = 63 := by decide
    refine ⟨Nat.le_of_ble_eq_true rfl, [], ?_, fun _ h => absurd h List.not_mem_nil⟩
    ·
      intro v1 e2
      have g3 : s0.1 47 1 = v1 := by rw [e2]
      intro v4 e5
      intro v6 e7
      have b8 := vg_and e7 (by omega)
      refine And.intro ⟨by omega, by omega⟩ ?_
      intro v9 e10
      show s0 = s0 ∧ (True)
      exact ⟨rfl, (trivial)⟩
  ·
    have z63 : (Int32.ofInt 63).toInt = 63 := by decide
    refine ⟨Nat.le_of_ble_eq_true rfl, [], ?_, fun _ h => absurd h List.not_mem_nil⟩
    ·
      intro v1 e2
      have g3 : s0.1 49 1 = v1 := by rw [e2]
      intro v4 e5
      intro v6 e7
      have b8 := vg_and e7 (by omega)
      refine And.intro ⟨by omega, by omega⟩ ?_
      intro v9 e10
      show s0 = s0 ∧ (True)
      exact ⟨rfl, (trivial)⟩
  ·
    have z63 : (Int32.ofInt 63).toInt = 63 := by decide
    refine ⟨Nat.le_of_ble_eq_true rfl, [], ?_, fun _ h => absurd h List.not_mem_nil⟩
    ·
      intro v1 e2
      have g3 : s0.1 51 1 = v1 := by rw [e2]
      intro v4 e5
      intro v6 e7
      have b8 := vg_and e7 (by omega)
      refine And.intro ⟨by omega, by omega⟩ ?_
      intro v9 e10
      show s0 = s0 ∧ (True)
      exact ⟨rfl, (trivial)⟩
  ·
    have z63 : (Int32.ofInt 63).toInt = 63 := by decide
    refine ⟨Nat.le_of_ble_eq_true rfl, [], ?_, fun _ h => absurd h List.not_mem_nil⟩
    ·
      intro v1 e2
      have g3 : s0.1 53 1 = v1 := by rw [e2]
      intro v4 e5
      intro v6 e7
      have b8 := vg_and e7 (by omega)
      refine And.intro ⟨by omega, by omega⟩ ?_
      intro v9 e10
      show s0 = s0 ∧ (True)
      exact ⟨rfl, (trivial)⟩
def o_X4_put : List vg_I := [(0, .aload_n 0, 1, 0, 0, 0, 0), (1, .aload_n 0, 1, 0, 0, 0, 0), (2, .getfield 20, 3, 413, 4, 1, 0), (5, .iconst 1, 1, 0, 0, 0, 0), (6, .iadd, 1, 0, 0, 0, 0), (7, .bipush 63, 2, 0, 0, 0, 0), (9, .iand, 1, 0, 0, 0, 0), (10, .putfield 20, 3, 413, 4, 1, 0), (13, .aload_n 0, 1, 0, 0, 0, 0), (14, .getfield 9, 3, 412, 4, 0, 0), (17, .aload_n 0, 1, 0, 0, 0, 0), (18, .getfield 20, 3, 413, 4, 1, 0), (21, .iload_n 1, 1, 0, 0, 0, 0), (22, .iastore, 1, 0, 0, 0, 0), (23, .aload_n 0, 1, 0, 0, 0, 0), (24, .bipush 48, 2, 0, 0, 0, 0), (26, .aload_n 0, 1, 0, 0, 0, 0), (27, .getfield 13, 3, 414, 4, 2, 0), (30, .iconst 1, 1, 0, 0, 0, 0), (31, .iadd, 1, 0, 0, 0, 0), (32, .invokestatic 23, 3, 0, 1, 2, 638), (35, .putfield 13, 3, 414, 4, 2, 0), (38, .aload_n 0, 1, 0, 0, 0, 0), (39, .dup, 1, 0, 0, 0, 0), (40, .getfield 17, 3, 416, 4, 3, 0), (43, .iconst 1, 1, 0, 0, 0, 0), (44, .iadd, 1, 0, 0, 0, 0), (45, .putfield 17, 3, 416, 4, 3, 0), (48, .return_, 1, 0, 0, 0, 0)]
set_option maxRecDepth 100000 in
set_option maxHeartbeats 4000000 in
theorem c_X4_put (l : Launch) (G : vg_G) (hp : vg_Hp G) : vg_Ct l G vg_sh r_X4_put := by
  refine vg_meth hp vg_sh_ok r_X4_put k_X4_put rfl (fun h => by cases h) o_X4_put [r_J9_min_7cf53] false (by decide +kernel) (by decide +kernel) ⟨_, _, rfl, rfl⟩ (List.forall_mem_cons.mpr ⟨⟨c_J9_min_7cf53 l G hp, Nat.le_of_ble_eq_true rfl, Nat.le_of_ble_eq_true rfl⟩, fun _ h => absurd h List.not_mem_nil⟩) (fun h => by cases h) 600 ?_
  intro as s0 hpre
  obtain ⟨r, a1, rfl, hr, i0⟩ := hpre
  simp only [List.mem_cons, List.not_mem_nil, or_false] at hr
  rcases hr with rfl | rfl | rfl | rfl | rfl | rfl | rfl
  ·
    have z1 : (Int32.ofInt 1).toInt = 1 := by decide
    have z48 : (Int32.ofInt 48).toInt = 48 := by decide
    have z63 : (Int32.ofInt 63).toInt = 63 := by decide
    refine ⟨Nat.le_of_ble_eq_true rfl, [], ?_, fun _ h => absurd h List.not_mem_nil⟩
    ·
      intro v1 e2
      have g3 : s0.1 41 1 = v1 := by rw [e2]
      intro v4 e5
      intro v6 e7
      have b8 := vg_and e7 (by omega)
      intro s9 e10
      have i11 : Iv s9 := Iv.u1 i0 e10 rfl
      have k12 : Kp s0 s9 := Kp.u1 Kp.rf e10 rfl
      intro v13 e14
      have w15 : v6 = v13 := by rw [e14, e10]; exact vg_u1_self.symm
      subst w15
      refine And.intro ⟨by omega, by omega⟩ ?_
      intro s16 e17
      have i18 : Iv s16 := Iv.a1 i11 e17 rfl
      have k19 : Kp s0 s16 := Kp.u1 k12 e17 rfl
      intro v20 e21
      have g22 : s0.1 41 2 = v20 := by rw [e21, e17, vg_u1_ne (a := 41) (k := 42) (by decide), e10, vg_u1_at (a := 41) (b := 2) (k := 41) (i := 1) (by decide)]
      have b23 : (0 : Int) ≤ v20.toInt ∧ v20.toInt ≤ 48 := by rw [e21]; exact Iv_41_2 i18
      intro v24 e25
      have b26 := vg_add e25 (by omega) (by omega)
      refine And.intro (Nat.le_of_ble_eq_true rfl) (And.intro ⟨(Int32.ofInt 48), v24, rfl, trivial⟩ ?_)
      intro v27 s29 h28
      have h28 : s29 = s16 ∧ (v27.toInt ≤ (Int32.ofInt 48).toInt ∧ v27.toInt ≤ v24.toInt ∧ (v27.toInt = (Int32.ofInt 48).toInt ∨ v27.toInt = v24.toInt)) := h28
      have i30 : Iv s29 := by rw [h28.1]; exact i18
      have k31 : Kp s0 s29 := by rw [h28.1]; exact k19
      have q32 := h28.2
      intro s33 e34
      have i35 : Iv s33 := Iv.c1 (lo := 0) (hi := 48) i30 e34 rfl (by omega) (by omega)
      have k36 : Kp s0 s33 := Kp.u1 k31 e34 rfl
      intro v37 e38
      have g39 : s29.1 41 3 = v37 := by rw [e38, e34, vg_u1_at (a := 41) (b := 3) (k := 41) (i := 2) (by decide)]
      intro v40 e41
      intro s42 e43
      have i44 : Iv s42 := Iv.u1 i35 e43 rfl
      have k45 : Kp s0 s42 := Kp.u1 k36 e43 rfl
      show Iv s42 ∧ Kp s0 s42 ∧ (True)
      exact ⟨i44, k45, (trivial)⟩
  ·
    have z1 : (Int32.ofInt 1).toInt = 1 := by decide
    have z48 : (Int32.ofInt 48).toInt = 48 := by decide
    have z63 : (Int32.ofInt 63).toInt = 63 := by decide
    refine ⟨Nat.le_of_ble_eq_true rfl, [], ?_, fun _ h => absurd h List.not_mem_nil⟩
    ·
      intro v1 e2
      have g3 : s0.1 43 1 = v1 := by rw [e2]
      intro v4 e5
      intro v6 e7
      have b8 := vg_and e7 (by omega)
      intro s9 e10
      have i11 : Iv s9 := Iv.u1 i0 e10 rfl
      have k12 : Kp s0 s9 := Kp.u1 Kp.rf e10 rfl
      intro v13 e14
      have w15 : v6 = v13 := by rw [e14, e10]; exact vg_u1_self.symm
      subst w15
      refine And.intro ⟨by omega, by omega⟩ ?_
      intro s16 e17
      have i18 : Iv s16 := Iv.a1 i11 e17 rfl
      have k19 : Kp s0 s16 := Kp.u1 k12 e17 rfl
      intro v20 e21
      have g22 : s0.1 43 2 = v20 := by rw [e21, e17, vg_u1_ne (a := 43) (k := 44) (by decide), e10, vg_u1_at (a := 43) (b := 2) (k := 43) (i := 1) (by decide)]
      have b23 : (0 : Int) ≤ v20.toInt ∧ v20.toInt ≤ 48 := by rw [e21]; exact Iv_43_2 i18
      intro v24 e25
      have b26 := vg_add e25 (by omega) (by omega)
      refine And.intro (Nat.le_of_ble_eq_true rfl) (And.intro ⟨(Int32.ofInt 48), v24, rfl, trivial⟩ ?_)
      intro v27 s29 h28
      have h28 : s29 = s16 ∧ (v27.toInt ≤ (Int32.ofInt 48).toInt ∧ v27.toInt ≤ v24.toInt ∧ (v27.toInt = (Int32.ofInt 48).toInt ∨ v27.toInt = v24.toInt)) := h28
      have i30 : Iv s29 := by rw [h28.1]; exact i18
      have k31 : Kp s0 s29 := by rw [h28.1]; exact k19
      have q32 := h28.2
      intro s33 e34
      have i35 : Iv s33 := Iv.c1 (lo := 0) (hi := 48) i30 e34 rfl (by omega) (by omega)
      have k36 : Kp s0 s33 := Kp.u1 k31 e34 rfl
      intro v37 e38
      have g39 : s29.1 43 3 = v37 := by rw [e38, e34, vg_u1_at (a := 43) (b := 3) (k := 43) (i := 2) (by decide)]
      intro v40 e41
      intro s42 e43
      have i44 : Iv s42 := Iv.u1 i35 e43 rfl
      have k45 : Kp s0 s42 := Kp.u1 k36 e43 rfl
      show Iv s42 ∧ Kp s0 s42 ∧ (True)
      exact ⟨i44, k45, (trivial)⟩
  ·
    have z1 : (Int32.ofInt 1).toInt = 1 := by decide
    have z48 : (Int32.ofInt 48).toInt = 48 := by decide
    have z63 : (Int32.ofInt 63).toInt = 63 := by decide
    refine ⟨Nat.le_of_ble_eq_true rfl, [], ?_, fun _ h => absurd h List.not_mem_nil⟩
    ·
      intro v1 e2
      have g3 : s0.1 45 1 = v1 := by rw [e2]
      intro v4 e5
      intro v6 e7
      have b8 := vg_and e7 (by omega)
      intro s9 e10
      have i11 : Iv s9 := Iv.u1 i0 e10 rfl
      have k12 : Kp s0 s9 := Kp.u1 Kp.rf e10 rfl
      intro v13 e14
      have w15 : v6 = v13 := by rw [e14, e10]; exact vg_u1_self.symm
      subst w15
      refine And.intro ⟨by omega, by omega⟩ ?_
      intro s16 e17
      have i18 : Iv s16 := Iv.a1 i11 e17 rfl
      have k19 : Kp s0 s16 := Kp.u1 k12 e17 rfl
      intro v20 e21
      have g22 : s0.1 45 2 = v20 := by rw [e21, e17, vg_u1_ne (a := 45) (k := 46) (by decide), e10, vg_u1_at (a := 45) (b := 2) (k := 45) (i := 1) (by decide)]
      have b23 : (0 : Int) ≤ v20.toInt ∧ v20.toInt ≤ 48 := by rw [e21]; exact Iv_45_2 i18
      intro v24 e25
      have b26 := vg_add e25 (by omega) (by omega)
      refine And.intro (Nat.le_of_ble_eq_true rfl) (And.intro ⟨(Int32.ofInt 48), v24, rfl, trivial⟩ ?_)
      intro v27 s29 h28
      have h28 : s29 = s16 ∧ (v27.toInt ≤ (Int32.ofInt 48).toInt ∧ v27.toInt ≤ v24.toInt ∧ (v27.toInt = (Int32.ofInt 48).toInt ∨ v27.toInt = v24.toInt)) := h28
      have i30 : Iv s29 := by rw [h28.1]; exact i18
      have k31 : Kp s0 s29 := by rw [h28.1]; exact k19
      have q32 := h28.2
      intro s33 e34
      have i35 : Iv s33 := Iv.c1 (lo := 0) (hi := 48) i30 e34 rfl (by omega) (by omega)
      have k36 : Kp s0 s33 := Kp.u1 k31 e34 rfl
      intro v37 e38
      have g39 : s29.1 45 3 = v37 := by rw [e38, e34, vg_u1_at (a := 45) (b := 3) (k := 45) (i := 2) (by decide)]
      intro v40 e41
      intro s42 e43
      have i44 : Iv s42 := Iv.u1 i35 e43 rfl
      have k45 : Kp s0 s42 := Kp.u1 k36 e43 rfl
      show Iv s42 ∧ Kp s0 s42 ∧ (True)
      exact ⟨i44, k45, (trivial)⟩
  ·
    have z1 : (Int32.ofInt 1).toInt = 1 := by decide
    have z48 : (Int32.ofInt 48).toInt = 48 := by decide
    have z63 : (Int32.ofInt 63).toInt = 63 := by decide
    refine ⟨Nat.le_of_ble_eq_true rfl, [], ?_, fun _ h => absurd h List.not_mem_nil⟩
    ·
      intro v1 e2
      have g3 : s0.1 47 1 = v1 := by rw [e2]
      intro v4 e5
      intro v6 e7
      have b8 := vg_and e7 (by omega)
      intro s9 e10
      have i11 : Iv s9 := Iv.u1 i0 e10 rfl
      have k12 : Kp s0 s9 := Kp.u1 Kp.rf e10 rfl
      intro v13 e14
      have w15 : v6 = v13 := by rw [e14, e10]; exact vg_u1_self.symm
      subst w15
      refine And.intro ⟨by omega, by omega⟩ ?_
      intro s16 e17
      have i18 : Iv s16 := Iv.a1 i11 e17 rfl
      have k19 : Kp s0 s16 := Kp.u1 k12 e17 rfl
      intro v20 e21
      have g22 : s0.1 47 2 = v20 := by rw [e21, e17, vg_u1_ne (a := 47) (k := 48) (by decide), e10, vg_u1_at (a := 47) (b := 2) (k := 47) (i := 1) (by decide)]
      have b23 : (0 : Int) ≤ v20.toInt ∧ v20.toInt ≤ 48 := by rw [e21]; exact Iv_47_2 i18
      intro v24 e25
      have b26 := vg_add e25 (by omega) (by omega)
      refine And.intro (Nat.le_of_ble_eq_true rfl) (And.intro ⟨(Int32.ofInt 48), v24, rfl, trivial⟩ ?_)
      intro v27 s29 h28
      have h28 : s29 = s16 ∧ (v27.toInt ≤ (Int32.ofInt 48).toInt ∧ v27.toInt ≤ v24.toInt ∧ (v27.toInt = (Int32.ofInt 48).toInt ∨ v27.toInt = v24.toInt)) := h28
      have i30 : Iv s29 := by rw [h28.1]; exact i18
      have k31 : Kp s0 s29 := by rw [h28.1]; exact k19
      have q32 := h28.2
      intro s33 e34
      have i35 : Iv s33 := Iv.c1 (lo := 0) (hi := 48) i30 e34 rfl (by omega) (by omega)
      have k36 : Kp s0 s33 := Kp.u1 k31 e34 rfl
      intro v37 e38
      have g39 : s29.1 47 3 = v37 := by rw [e38, e34, vg_u1_at (a := 47) (b := 3) (k := 47) (i := 2) (by decide)]
      intro v40 e41
      intro s42 e43
      have i44 : Iv s42 := Iv.u1 i35 e43 rfl
      have k45 : Kp s0 s42 := Kp.u1 k36 e43 rfl
      show Iv s42 ∧ Kp s0 s42 ∧ (True)
      exact ⟨i44, k45, (trivial)⟩
  ·
    have z1 : (Int32.ofInt 1).toInt = 1 := by decide
    have z48 : (Int32.ofInt 48).toInt = 48 := by decide
    have z63 : (Int32.ofInt 63).toInt = 63 := by decide
    refine ⟨Nat.le_of_ble_eq_true rfl, [], ?_, fun _ h => absurd h List.not_mem_nil⟩
    ·
      intro v1 e2
      have g3 : s0.1 49 1 = v1 := by rw [e2]
      intro v4 e5
      intro v6 e7
      have b8 := vg_and e7 (by omega)
      intro s9 e10
      have i11 : Iv s9 := Iv.u1 i0 e10 rfl
      have k12 : Kp s0 s9 := Kp.u1 Kp.rf e10 rfl
      intro v13 e14
      have w15 : v6 = v13 := by rw [e14, e10]; exact vg_u1_self.symm
      subst w15
      refine And.intro ⟨by omega, by omega⟩ ?_
      intro s16 e17
      have i18 : Iv s16 := Iv.a1 i11 e17 rfl
      have k19 : Kp s0 s16 := Kp.u1 k12 e17 rfl
      intro v20 e21
      have g22 : s0.1 49 2 = v20 := by rw [e21, e17, vg_u1_ne (a := 49) (k := 50) (by decide), e10, vg_u1_at (a := 49) (b := 2) (k := 49) (i := 1) (by decide)]
      have b23 : (0 : Int) ≤ v20.toInt ∧ v20.toInt ≤ 48 := by rw [e21]; exact Iv_49_2 i18
      intro v24 e25
      have b26 := vg_add e25 (by omega) (by omega)
      refine And.intro (Nat.le_of_ble_eq_true rfl) (And.intro ⟨(Int32.ofInt 48), v24, rfl, trivial⟩ ?_)
      intro v27 s29 h28
      have h28 : s29 = s16 ∧ (v27.toInt ≤ (Int32.ofInt 48).toInt ∧ v27.toInt ≤ v24.toInt ∧ (v27.toInt = (Int32.ofInt 48).toInt ∨ v27.toInt = v24.toInt)) := h28
      have i30 : Iv s29 := by rw [h28.1]; exact i18
      have k31 : Kp s0 s29 := by rw [h28.1]; exact k19
      have q32 := h28.2
      intro s33 e34
      have i35 : Iv s33 := Iv.c1 (lo := 0) (hi := 48) i30 e34 rfl (by omega) (by omega)
      have k36 : Kp s0 s33 := Kp.u1 k31 e34 rfl
      intro v37 e38
      have g39 : s29.1 49 3 = v37 := by rw [e38, e34, vg_u1_at (a := 49) (b := 3) (k := 49) (i := 2) (by decide)]
      intro v40 e41
      intro s42 e43
      have i44 : Iv s42 := Iv.u1 i35 e43 rfl
      have k45 : Kp s0 s42 := Kp.u1 k36 e43 rfl
      show Iv s42 ∧ Kp s0 s42 ∧ (True)
      exact ⟨i44, k45, (trivial)⟩
  ·
    have z1 : (Int32.ofInt 1).toInt = 1 := by decide
    have z48 : (Int32.ofInt 48).toInt = 48 := by decide
    have z63 : (Int32.ofInt 63).toInt = 63 := by decide
    refine ⟨Nat.le_of_ble_eq_true rfl, [], ?_, fun _ h => absurd h List.not_mem_nil⟩
    ·
      intro v1 e2
      have g3 : s0.1 51 1 = v1 := by rw [e2]
      intro v4 e5
      intro v6 e7
      have b8 := vg_and e7 (by omega)
      intro s9 e10
      have i11 : Iv s9 := Iv.u1 i0 e10 rfl
      have k12 : Kp s0 s9 := Kp.u1 Kp.rf e10 rfl
      intro v13 e14
      have w15 : v6 = v13 := by rw [e14, e10]; exact vg_u1_self.symm
      subst w15
      refine And.intro ⟨by omega, by omega⟩ ?_
      intro s16 e17
      have i18 : Iv s16 := Iv.a1 i11 e17 rfl
      have k19 : Kp s0 s16 := Kp.u1 k12 e17 rfl
      intro v20 e21
      have g22 : s0.1 51 2 = v20 := by rw [e21, e17, vg_u1_ne (a := 51) (k := 52) (by decide), e10, vg_u1_at (a := 51) (b := 2) (k := 51) (i := 1) (by decide)]
      have b23 : (0 : Int) ≤ v20.toInt ∧ v20.toInt ≤ 48 := by rw [e21]; exact Iv_51_2 i18
      intro v24 e25
      have b26 := vg_add e25 (by omega) (by omega)
      refine And.intro (Nat.le_of_ble_eq_true rfl) (And.intro ⟨(Int32.ofInt 48), v24, rfl, trivial⟩ ?_)
      intro v27 s29 h28
      have h28 : s29 = s16 ∧ (v27.toInt ≤ (Int32.ofInt 48).toInt ∧ v27.toInt ≤ v24.toInt ∧ (v27.toInt = (Int32.ofInt 48).toInt ∨ v27.toInt = v24.toInt)) := h28
      have i30 : Iv s29 := by rw [h28.1]; exact i18
      have k31 : Kp s0 s29 := by rw [h28.1]; exact k19
      have q32 := h28.2
      intro s33 e34
      have i35 : Iv s33 := Iv.c1 (lo := 0) (hi := 48) i30 e34 rfl (by omega) (by omega)
      have k36 : Kp s0 s33 := Kp.u1 k31 e34 rfl
      intro v37 e38
      have g39 : s29.1 51 3 = v37 := by rw [e38, e34, vg_u1_at (a := 51) (b := 3) (k := 51) (i := 2) (by decide)]
      intro v40 e41
      intro s42 e43
      have i44 : Iv s42 := Iv.u1 i35 e43 rfl
      have k45 : Kp s0 s42 := Kp.u1 k36 e43 rfl
      show Iv s42 ∧ Kp s0 s42 ∧ (True)
      exact ⟨i44, k45, (trivial)⟩
  ·
    have z1 : (Int32.ofInt 1).toInt = 1 := by decide
    have z48 : (Int32.ofInt 48).toInt = 48 := by decide
    have z63 : (Int32.ofInt 63).toInt = 63 := by decide
    refine ⟨Nat.le_of_ble_eq_true rfl, [], ?_, fun _ h => absurd h List.not_mem_nil⟩
    ·
      intro v1 e2
      have g3 : s0.1 53 1 = v1 := by rw [e2]
      intro v4 e5
      intro v6 e7
      have b8 := vg_and e7 (by omega)
      intro s9 e10
      have i11 : Iv s9 := Iv.u1 i0 e10 rfl
      have k12 : Kp s0 s9 := Kp.u1 Kp.rf e10 rfl
      intro v13 e14
      have w15 : v6 = v13 := by rw [e14, e10]; exact vg_u1_self.symm
      subst w15
      refine And.intro ⟨by omega, by omega⟩ ?_
      intro s16 e17
      have i18 : Iv s16 := Iv.a1 i11 e17 rfl
      have k19 : Kp s0 s16 := Kp.u1 k12 e17 rfl
      intro v20 e21
      have g22 : s0.1 53 2 = v20 := by rw [e21, e17, vg_u1_ne (a := 53) (k := 54) (by decide), e10, vg_u1_at (a := 53) (b := 2) (k := 53) (i := 1) (by decide)]
      have b23 : (0 : Int) ≤ v20.toInt ∧ v20.toInt ≤ 48 := by rw [e21]; exact Iv_53_2 i18
      intro v24 e25
      have b26 := vg_add e25 (by omega) (by omega)
      refine And.intro (Nat.le_of_ble_eq_true rfl) (And.intro ⟨(Int32.ofInt 48), v24, rfl, trivial⟩ ?_)
      intro v27 s29 h28
      have h28 : s29 = s16 ∧ (v27.toInt ≤ (Int32.ofInt 48).toInt ∧ v27.toInt ≤ v24.toInt ∧ (v27.toInt = (Int32.ofInt 48).toInt ∨ v27.toInt = v24.toInt)) := h28
      have i30 : Iv s29 := by rw [h28.1]; exact i18
      have k31 : Kp s0 s29 := by rw [h28.1]; exact k19
      have q32 := h28.2
      intro s33 e34
      have i35 : Iv s33 := Iv.c1 (lo := 0) (hi := 48) i30 e34 rfl (by omega) (by omega)
      have k36 : Kp s0 s33 := Kp.u1 k31 e34 rfl
      intro v37 e38
      have g39 : s29.1 53 3 = v37 := by rw [e38, e34, vg_u1_at (a := 53) (b := 3) (k := 53) (i := 2) (by decide)]
      intro v40 e41
      intro s42 e43
      have i44 : Iv s42 := Iv.u1 i35 e43 rfl
      have k45 : Kp s0 s42 := Kp.u1 k36 e43 rfl
      show Iv s42 ∧ Kp s0 s42 ∧ (True)
      exact ⟨i44, k45, (trivial)⟩
