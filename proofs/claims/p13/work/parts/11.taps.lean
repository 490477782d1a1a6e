def o_X3_begin : List vg_I := [(0, .aload_n 0, 1, 0, 0, 0, 0), (1, .getfield 9, 3, 395, 3, 1, 0), (4, .iconst 0, 1, 0, 0, 0, 0), (5, .invokestatic 13, 3, 0, 1, 2, 519), (8, .aload_n 0, 1, 0, 0, 0, 0), (9, .iconst 0, 1, 0, 0, 0, 0), (10, .putfield 19, 3, 396, 3, 2, 0), (13, .aload_n 0, 1, 0, 0, 0, 0), (14, .iconst 0, 1, 0, 0, 0, 0), (15, .putfield 23, 3, 397, 3, 3, 1), (18, .return_, 1, 0, 0, 0, 0)]
set_option maxRecDepth 100000 in
set_option maxHeartbeats 4000000 in
theorem c_X3_begin (l : Launch) (G : vg_G) (hp : vg_Hp G) : vg_Ct l G vg_sh r_X3_begin := by
  refine vg_meth hp vg_sh_ok r_X3_begin k_X3_begin rfl (fun h => by cases h) o_X3_begin [r_J7_fill_53178] false (by decide +kernel) (by decide +kernel) ⟨_, _, rfl, rfl⟩ (List.forall_mem_cons.mpr ⟨⟨c_J7_fill_53178 l G hp, Nat.le_of_ble_eq_true rfl, Nat.le_of_ble_eq_true rfl⟩, fun _ h => absurd h List.not_mem_nil⟩) (fun h => by cases h) 600 ?_
  intro as s0 hpre
  obtain ⟨r, rfl, hr, i0⟩ := hpre
  simp only [List.mem_cons, List.not_mem_nil, or_false] at hr
  rcases hr with rfl | rfl | rfl
  ·
    have z0 : (Int32.ofInt 0).toInt = 0 := by decide
    refine ⟨Nat.le_of_ble_eq_true rfl, [], ?_, fun _ h => absurd h List.not_mem_nil⟩
    ·
      refine And.intro (Nat.le_of_ble_eq_true rfl) (And.intro ⟨36, (Int32.ofInt 0), rfl, by decide, i0⟩ ?_)
      intro s2 h1
      have h1 : Iv s2 ∧ Kp s0 s2 ∧ (True) := h1
      have i3 := h1.1
      have k4 : Kp s0 s2 := Kx.tr Kx.rf (h1.2.1)
      intro s5 e6
      have i7 : Iv s5 := Iv.u1 i3 e6 rfl
      have k8 : Kp s0 s5 := Kx.u1 k4 e6 rfl
      refine And.intro (by first | exact Or.inl rfl | exact Or.inr rfl | exact vg_01 (by omega) (by omega)) ?_
      intro s9 e10
      have i11 : Iv s9 := Iv.u1 i7 e10 rfl
      have k12 : Kp s0 s9 := Kx.u1 k8 e10 rfl
      show Iv s9 ∧ Kp s0 s9 ∧ (True)
      exact ⟨i11, k12, (trivial)⟩
  ·
    have z0 : (Int32.ofInt 0).toInt = 0 := by decide
    refine ⟨Nat.le_of_ble_eq_true rfl, [], ?_, fun _ h => absurd h List.not_mem_nil⟩
    ·
      refine And.intro (Nat.le_of_ble_eq_true rfl) (And.intro ⟨38, (Int32.ofInt 0), rfl, by decide, i0⟩ ?_)
      intro s2 h1
      have h1 : Iv s2 ∧ Kp s0 s2 ∧ (True) := h1
      have i3 := h1.1
      have k4 : Kp s0 s2 := Kx.tr Kx.rf (h1.2.1)
      intro s5 e6
      have i7 : Iv s5 := Iv.u1 i3 e6 rfl
      have k8 : Kp s0 s5 := Kx.u1 k4 e6 rfl
      refine And.intro (by first | exact Or.inl rfl | exact Or.inr rfl | exact vg_01 (by omega) (by omega)) ?_
      intro s9 e10
      have i11 : Iv s9 := Iv.u1 i7 e10 rfl
      have k12 : Kp s0 s9 := Kx.u1 k8 e10 rfl
      show Iv s9 ∧ Kp s0 s9 ∧ (True)
      exact ⟨i11, k12, (trivial)⟩
  ·
    have z0 : (Int32.ofInt 0).toInt = 0 := by decide
    refine ⟨Nat.le_of_ble_eq_true rfl, [], ?_, fun _ h => absurd h List.not_mem_nil⟩
    ·
      refine And.intro (Nat.le_of_ble_eq_true rfl) (And.intro ⟨40, (Int32.ofInt 0), rfl, by decide, i0⟩ ?_)
      intro s2 h1
      have h1 : Iv s2 ∧ Kp s0 s2 ∧ (True) := h1
      have i3 := h1.1
      have k4 : Kp s0 s2 := Kx.tr Kx.rf (h1.2.1)
      intro s5 e6
      have i7 : Iv s5 := Iv.u1 i3 e6 rfl
      have k8 : Kp s0 s5 := Kx.u1 k4 e6 rfl
      refine And.intro (by first | exact Or.inl rfl | exact Or.inr rfl | exact vg_01 (by omega) (by omega)) ?_
      intro s9 e10
      have i11 : Iv s9 := Iv.u1 i7 e10 rfl
      have k12 : Kp s0 s9 := Kx.u1 k8 e10 rfl
      show Iv s9 ∧ Kp s0 s9 ∧ (True)
      exact ⟨i11, k12, (trivial)⟩
def o_X3_take : List vg_I := [(0, .aload_n 0, 1, 0, 0, 0, 0), (1, .aload_n 0, 1, 0, 0, 0, 0), (2, .getfield 19, 3, 396, 3, 2, 0), (5, .iconst 1, 1, 0, 0, 0, 0), (6, .iadd, 1, 0, 0, 0, 0), (7, .bipush 15, 2, 0, 0, 0, 0), (9, .iand, 1, 0, 0, 0, 0), (10, .putfield 19, 3, 396, 3, 2, 0), (13, .aload_n 0, 1, 0, 0, 0, 0), (14, .getfield 9, 3, 395, 3, 1, 0), (17, .aload_n 0, 1, 0, 0, 0, 0), (18, .getfield 19, 3, 396, 3, 2, 0), (21, .iload_n 1, 1, 0, 0, 0, 0), (22, .iastore, 1, 0, 0, 0, 0), (23, .aload_n 0, 1, 0, 0, 0, 0), (24, .aload_n 0, 1, 0, 0, 0, 0), (25, .getfield 23, 3, 397, 3, 3, 0), (28, .ifCond .ne 7, 3, 0, 0, 0, 0), (31, .iconst 1, 1, 0, 0, 0, 0), (32, .goto 4, 3, 0, 0, 0, 0), (35, .iconst 0, 1, 0, 0, 0, 0), (36, .putfield 23, 3, 397, 3, 3, 1), (39, .aload_n 0, 1, 0, 0, 0, 0), (40, .getfield 23, 3, 397, 3, 3, 0), (43, .ifCond .ne 7, 3, 0, 0, 0, 0), (46, .iconst 1, 1, 0, 0, 0, 0), (47, .goto 4, 3, 0, 0, 0, 0), (50, .iconst 0, 1, 0, 0, 0, 0), (51, .ireturn, 1, 0, 0, 0, 1)]
set_option maxRecDepth 100000 in
set_option maxHeartbeats 4000000 in
theorem c_X3_take (l : Launch) (G : vg_G) (hp : vg_Hp G) : vg_Ct l G vg_sh r_X3_take := by
  refine vg_meth hp vg_sh_ok r_X3_take k_X3_take rfl (fun h => by cases h) o_X3_take [] false (by decide +kernel) (by decide +kernel) ⟨_, _, rfl, rfl⟩ (fun _ h => absurd h List.not_mem_nil) (fun h => by cases h) 600 ?_
  intro as s0 hpre
  obtain ⟨r, a1, rfl, hr, i0⟩ := hpre
  simp only [List.mem_cons, List.not_mem_nil, or_false] at hr
  rcases hr with rfl | rfl | rfl
  ·
    have z0 : (Int32.ofInt 0).toInt = 0 := by decide
    have z1 : (Int32.ofInt 1).toInt = 1 := by decide
    have z15 : (Int32.ofInt 15).toInt = 15 := by decide
    refine ⟨Nat.le_of_ble_eq_true rfl, [], ?_, fun _ h => absurd h List.not_mem_nil⟩
    ·
      intro v1 e2
      have g3 : s0.1 35 2 = v1 := by rw [e2]
      intro v4 e5
      intro v6 e7
      have b8 := vg_and e7 (by omega)
      intro s9 e10
      have i11 : Iv s9 := Iv.u1 i0 e10 rfl
      have k12 : Kp s0 s9 := Kx.u1 Kx.rf e10 rfl
      intro v13 e14
      have w15 : v6 = v13 := by rw [e14, e10]; exact vg_u1_self.symm
      subst w15
      refine And.intro ⟨by omega, by omega⟩ ?_
      intro s16 e17
      have i18 : Iv s16 := Iv.a1 i11 e17 rfl
      have k19 : Kp s0 s16 := Kx.u1 k12 e17 rfl
      intro v20 e21
      have g22 : s0.1 35 3 = v20 := by rw [e21, e17, vg_u1_ne (a := 35) (k := 36) (by decide), e10, vg_u1_at (a := 35) (b := 3) (k := 35) (i := 2) (by decide)]
      refine And.intro (fun c23 => ?_) (fun c23 => ?_)
      · have c23 : ¬ v20.toInt = 0 := c23
        refine And.intro (by first | exact Or.inl rfl | exact Or.inr rfl | exact vg_01 (by omega) (by omega)) ?_
        intro s24 e25
        have i26 : Iv s24 := Iv.u1 i18 e25 rfl
        have k27 : Kp s0 s24 := Kx.u1 k19 e25 rfl
        intro v28 e29
        have w30 : (Int32.ofInt 0) = v28 := by rw [e29, e25]; exact vg_u1_self.symm
        subst w30
        refine And.intro (fun c31 => ?_) (fun c31 => ?_)
        · have c31 : ¬ (Int32.ofInt 0).toInt = 0 := c31
          exfalso
          omega
        · have c31 : ¬ (¬ (Int32.ofInt 0).toInt = 0) := c31
          refine And.intro (by first | exact Or.inl rfl | exact Or.inr rfl | exact vg_01 (by omega) (by omega)) ?_
          show Iv s24 ∧ Kp s0 s24 ∧ (0 ≤ (Int32.ofInt 1).toInt ∧ (Int32.ofInt 1).toInt ≤ 1)
          exact ⟨i26, k27, (by first | trivial | omega | assumption)⟩
      · have c23 : ¬ (¬ v20.toInt = 0) := c23
        refine And.intro (by first | exact Or.inl rfl | exact Or.inr rfl | exact vg_01 (by omega) (by omega)) ?_
        intro s32 e33
        have i34 : Iv s32 := Iv.u1 i18 e33 rfl
        have k35 : Kp s0 s32 := Kx.u1 k19 e33 rfl
        intro v36 e37
        have w38 : (Int32.ofInt 1) = v36 := by rw [e37, e33]; exact vg_u1_self.symm
        subst w38
        refine And.intro (fun c39 => ?_) (fun c39 => ?_)
        · have c39 : ¬ (Int32.ofInt 1).toInt = 0 := c39
          refine And.intro (by first | exact Or.inl rfl | exact Or.inr rfl | exact vg_01 (by omega) (by omega)) ?_
          show Iv s32 ∧ Kp s0 s32 ∧ (0 ≤ (Int32.ofInt 0).toInt ∧ (Int32.ofInt 0).toInt ≤ 1)
          exact ⟨i34, k35, (by first | trivial | omega | assumption)⟩
        · have c39 : ¬ (¬ (Int32.ofInt 1).toInt = 0) := c39
          exfalso
          omega
  ·
    have z0 : (Int32.ofInt 0).toInt = 0 := by decide
    have z1 : (Int32.ofInt 1).toInt = 1 := by decide
    have z15 : (Int32.ofInt 15).toInt = 15 := by decide
    refine ⟨Nat.le_of_ble_eq_true rfl, [], ?_, fun _ h => absurd h List.not_mem_nil⟩
    ·
      intro v1 e2
      have g3 : s0.1 37 2 = v1 := by rw [e2]
      intro v4 e5
      intro v6 e7
      have b8 := vg_and e7 (by omega)
      intro s9 e10
      have i11 : Iv s9 := Iv.u1 i0 e10 rfl
      have k12 : Kp s0 s9 := Kx.u1 Kx.rf e10 rfl
      intro v13 e14
      have w15 : v6 = v13 := by rw [e14, e10]; exact vg_u1_self.symm
      subst w15
      refine And.intro ⟨by omega, by omega⟩ ?_
      intro s16 e17
      have i18 : Iv s16 := Iv.a1 i11 e17 rfl
      have k19 : Kp s0 s16 := Kx.u1 k12 e17 rfl
      intro v20 e21
      have g22 : s0.1 37 3 = v20 := by rw [e21, e17, vg_u1_ne (a := 37) (k := 38) (by decide), e10, vg_u1_at (a := 37) (b := 3) (k := 37) (i := 2) (by decide)]
      refine And.intro (fun c23 => ?_) (fun c23 => ?_)
      · have c23 : ¬ v20.toInt = 0 := c23
        refine And.intro (by first | exact Or.inl rfl | exact Or.inr rfl | exact vg_01 (by omega) (by omega)) ?_
        intro s24 e25
        have i26 : Iv s24 := Iv.u1 i18 e25 rfl
        have k27 : Kp s0 s24 := Kx.u1 k19 e25 rfl
        intro v28 e29
        have w30 : (Int32.ofInt 0) = v28 := by rw [e29, e25]; exact vg_u1_self.symm
        subst w30
        refine And.intro (fun c31 => ?_) (fun c31 => ?_)
        · have c31 : ¬ (Int32.ofInt 0).toInt = 0 := c31
          exfalso
          omega
        · have c31 : ¬ (¬ (Int32.ofInt 0).toInt = 0) := c31
          refine And.intro (by first | exact Or.inl rfl | exact Or.inr rfl | exact vg_01 (by omega) (by omega)) ?_
          show Iv s24 ∧ Kp s0 s24 ∧ (0 ≤ (Int32.ofInt 1).toInt ∧ (Int32.ofInt 1).toInt ≤ 1)
          exact ⟨i26, k27, (by first | trivial | omega | assumption)⟩
      · have c23 : ¬ (¬ v20.toInt = 0) := c23
        refine And.intro (by first | exact Or.inl rfl | exact Or.inr rfl | exact vg_01 (by omega) (by omega)) ?_
        intro s32 e33
        have i34 : Iv s32 := Iv.u1 i18 e33 rfl
        have k35 : Kp s0 s32 := Kx.u1 k19 e33 rfl
        intro v36 e37
        have w38 : (Int32.ofInt 1) = v36 := by rw [e37, e33]; exact vg_u1_self.symm
        subst w38
        refine And.intro (fun c39 => ?_) (fun c39 => ?_)
        · have c39 : ¬ (Int32.ofInt 1).toInt = 0 := c39
          refine And.intro (by first | exact Or.inl rfl | exact Or.inr rfl | exact vg_01 (by omega) (by omega)) ?_
          show Iv s32 ∧ Kp s0 s32 ∧ (0 ≤ (Int32.ofInt 0).toInt ∧ (Int32.ofInt 0).toInt ≤ 1)
          exact ⟨i34, k35, (by first | trivial | omega | assumption)⟩
        · have c39 : ¬ (¬ (Int32.ofInt 1).toInt = 0) := c39
          exfalso
          omega
  ·
    have z0 : (Int32.ofInt 0).toInt = 0 := by decide
    have z1 : (Int32.ofInt 1).toInt = 1 := by decide
    have z15 : (Int32.ofInt 15).toInt = 15 := by decide
    refine ⟨Nat.le_of_ble_eq_true rfl, [], ?_, fun _ h => absurd h List.not_mem_nil⟩
    ·
      intro v1 e2
      have g3 : s0.1 39 2 = v1 := by rw [e2]
      intro v4 e5
      intro v6 e7
      have b8 := vg_and e7 (by omega)
      intro s9 e10
      have i11 : Iv s9 := Iv.u1 i0 e10 rfl
      have k12 : Kp s0 s9 := Kx.u1 Kx.rf e10 rfl
      intro v13 e14
      have w15 : v6 = v13 := by rw [e14, e10]; exact vg_u1_self.symm
      subst w15
      refine And.intro ⟨by omega, by omega⟩ ?_
      intro s16 e17
      have i18 : Iv s16 := Iv.a1 i11 e17 rfl
      have k19 : Kp s0 s16 := Kx.u1 k12 e17 rfl
      intro v20 e21
      have g22 : s0.1 39 3 = v20 := by rw [e21, e17, vg_u1_ne (a := 39) (k := 40) (by decide), e10, vg_u1_at (a := 39) (b := 3) (k := 39) (i := 2) (by decide)]
      refine And.intro (fun c23 => ?_) (fun c23 => ?_)
      · have c23 : ¬ v20.toInt = 0 := c23
        refine And.intro (by first | exact Or.inl rfl | exact Or.inr rfl | exact vg_01 (by omega) (by omega)) ?_
        intro s24 e25
        have i26 : Iv s24 := Iv.u1 i18 e25 rfl
        have k27 : Kp s0 s24 := Kx.u1 k19 e25 rfl
        intro v28 e29
        have w30 : (Int32.ofInt 0) = v28 := by rw [e29, e25]; exact vg_u1_self.symm
        subst w30
        refine And.intro (fun c31 => ?_) (fun c31 => ?_)
        · have c31 : ¬ (Int32.ofInt 0).toInt = 0 := c31
          exfalso
          omega
        · have c31 : ¬ (¬ (Int32.ofInt 0).toInt = 0) := c31
          refine And.intro (by first | exact Or.inl rfl | exact Or.inr rfl | exact vg_01 (by omega) (by omega)) ?_
          show Iv s24 ∧ Kp s0 s24 ∧ (0 ≤ (Int32.ofInt 1).toInt ∧ (Int32.ofInt 1).toInt ≤ 1)
          exact ⟨i26, k27, (by first | trivial | omega | assumption)⟩
      · have c23 : ¬ (¬ v20.toInt = 0) := c23
        refine And.intro (by first | exact Or.inl rfl | exact Or.inr rfl | exact vg_01 (by omega) (by omega)) ?_
        intro s32 e33
        have i34 : Iv s32 := Iv.u1 i18 e33 rfl
        have k35 : Kp s0 s32 := Kx.u1 k19 e33 rfl
        intro v36 e37
        have w38 : (Int32.ofInt 1) = v36 := by rw [e37, e33]; exact vg_u1_self.symm
        subst w38
        refine And.intro (fun c39 => ?_) (fun c39 => ?_)
        · have c39 : ¬ (Int32.ofInt 1).toInt = 0 := c39
          refine And.intro (by first | exact Or.inl rfl | exact Or.inr rfl | exact vg_01 (by omega) (by omega)) ?_
          show Iv s32 ∧ Kp s0 s32 ∧ (0 ≤ (Int32.ofInt 0).toInt ∧ (Int32.ofInt 0).toInt ≤ 1)
          exact ⟨i34, k35, (by first | trivial | omega | assumption)⟩
        · have c39 : ¬ (¬ (Int32.ofInt 1).toInt = 0) := c39
          exfalso
          omega
def o_X8_rowOf : List vg_I := [(0, .iload_n 1, 1, 0, 0, 0, 0), (1, .tableswitch 39 0 2 #[27, 31, 35], 27, 0, 0, 0, 0), (28, .getstatic 23, 3, 100, 0, 0, 591), (31, .areturn, 1, 0, 0, 0, 0), (32, .getstatic 26, 3, 101, 1, 0, 593), (35, .areturn, 1, 0, 0, 0, 0), (36, .getstatic 29, 3, 102, 2, 0, 595), (39, .areturn, 1, 0, 0, 0, 0), (40, .aload_n 0, 1, 0, 0, 0, 0), (41, .getfield 7, 3, 334, 8, 0, 0), (44, .areturn, 1, 0, 0, 0, 0)]
set_option maxRecDepth 100000 in
set_option maxHeartbeats 4000000 in
theorem c_X8_rowOf (l : Launch) (G : vg_G) (hp : vg_Hp G) : vg_Ct l G vg_sh r_X8_rowOf := by
  refine vg_meth hp vg_sh_ok r_X8_rowOf k_X8_rowOf rfl (fun _ as σ k σ' h => by
    unfold r_X8_rowOf at h ⊢
    dsimp only at h ⊢
    split at h
    · rename_i e
      cases e
      rcases h.2 with ⟨-, h⟩ | ⟨-, h⟩ | ⟨-, h⟩ | ⟨-, -, -, h⟩ <;> subst h <;> decide
    · exact h.elim) o_X8_rowOf [] false (by decide +kernel) (by decide +kernel) ⟨_, _, rfl, rfl⟩ (fun _ h => absurd h List.not_mem_nil) (fun h => by cases h) 600 ?_
  intro as s0 hpre
  obtain ⟨r, a1, rfl, hr, i0⟩ := hpre
  simp only [List.mem_cons, List.not_mem_nil, or_false] at hr
  rcases hr with rfl
  ·
    refine ⟨Nat.le_of_ble_eq_true rfl, [], ?_, fun _ h => absurd h List.not_mem_nil⟩
    ·
      refine And.intro (fun c1 => ?_) ?_
      · have c1 : a1.toInt < (0) ∨ (2) < a1.toInt := c1
        show s0 = s0 ∧ ((a1.toInt = 0 ∧ 17 = 100) ∨ (a1.toInt = 1 ∧ 17 = 101) ∨ (a1.toInt = 2 ∧ 17 = 102) ∨ (¬ a1.toInt = 0 ∧ ¬ a1.toInt = 1 ∧ ¬ a1.toInt = 2 ∧ 17 = 17))
        exact ⟨rfl, (by first | exact Or.inl ⟨by omega, rfl⟩ | exact Or.inr (Or.inl ⟨by omega, rfl⟩) | exact Or.inr (Or.inr (Or.inl ⟨by omega, rfl⟩)) | exact Or.inr (Or.inr (Or.inr ⟨by omega, by omega, by omega, rfl⟩)))⟩
      refine And.intro (fun c2 => ?_) ?_
      · have c2 : a1.toInt = (0) := c2
        show s0 = s0 ∧ ((a1.toInt = 0 ∧ 100 = 100) ∨ (a1.toInt = 1 ∧ 100 = 101) ∨ (a1.toInt = 2 ∧ 100 = 102) ∨ (¬ a1.toInt = 0 ∧ ¬ a1.toInt = 1 ∧ ¬ a1.toInt = 2 ∧ 100 = 17))
        exact ⟨rfl, (by first | exact Or.inl ⟨by omega, rfl⟩ | exact Or.inr (Or.inl ⟨by omega, rfl⟩) | exact Or.inr (Or.inr (Or.inl ⟨by omega, rfl⟩)) | exact Or.inr (Or.inr (Or.inr ⟨by omega, by omega, by omega, rfl⟩)))⟩
      refine And.intro (fun c3 => ?_) ?_
      · have c3 : a1.toInt = (1) := c3
        show s0 = s0 ∧ ((a1.toInt = 0 ∧ 101 = 100) ∨ (a1.toInt = 1 ∧ 101 = 101) ∨ (a1.toInt = 2 ∧ 101 = 102) ∨ (¬ a1.toInt = 0 ∧ ¬ a1.toInt = 1 ∧ ¬ a1.toInt = 2 ∧ 101 = 17))
        exact ⟨rfl, (by first | exact Or.inl ⟨by omega, rfl⟩ | exact Or.inr (Or.inl ⟨by omega, rfl⟩) | exact Or.inr (Or.inr (Or.inl ⟨by omega, rfl⟩)) | exact Or.inr (Or.inr (Or.inr ⟨by omega, by omega, by omega, rfl⟩)))⟩
      refine And.intro (fun c4 => ?_) ?_
      · have c4 : a1.toInt = (2) := c4
        show s0 = s0 ∧ ((a1.toInt = 0 ∧ 102 = 100) ∨ (a1.toInt = 1 ∧ 102 = 101) ∨ (a1.toInt = 2 ∧ 102 = 102) ∨ (¬ a1.toInt = 0 ∧ ¬ a1.toInt = 1 ∧ ¬ a1.toInt = 2 ∧ 102 = 17))
        exact ⟨rfl, (by first | exact Or.inl ⟨by omega, rfl⟩ | exact Or.inr (Or.inl ⟨by omega, rfl⟩) | exact Or.inr (Or.inr (Or.inl ⟨by omega, rfl⟩)) | exact Or.inr (Or.inr (Or.inr ⟨by omega, by omega, by omega, rfl⟩)))⟩
      exact trivial
def o_X8_shiftOf : List vg_I := [(0, .iload_n 1, 1, 0, 0, 0, 0), (1, .tableswitch 34 0 2 #[27, 29, 31], 27, 0, 0, 0, 0), (28, .iconst 2, 1, 0, 0, 0, 0), (29, .ireturn, 1, 0, 0, 0, 0), (30, .iconst 5, 1, 0, 0, 0, 0), (31, .ireturn, 1, 0, 0, 0, 0), (32, .bipush 9, 2, 0, 0, 0, 0), (34, .ireturn, 1, 0, 0, 0, 0), (35, .aload_n 0, 1, 0, 0, 0, 0), (36, .getfield 19, 3, 335, 8, 1, 0), (39, .ireturn, 1, 0, 0, 0, 0)]
set_option maxRecDepth 100000 in
set_option maxHeartbeats 4000000 in
theorem c_X8_shiftOf (l : Launch) (G : vg_G) (hp : vg_Hp G) : vg_Ct l G vg_sh r_X8_shiftOf := by
  refine vg_meth hp vg_sh_ok r_X8_shiftOf k_X8_shiftOf rfl (fun h => by cases h) o_X8_shiftOf [] false (by decide +kernel) (by decide +kernel) ⟨_, _, rfl, rfl⟩ (fun _ h => absurd h List.not_mem_nil) (fun h => by cases h) 600 ?_
  intro as s0 hpre
  obtain ⟨r, a1, rfl, hr, i0⟩ := hpre
  simp only [List.mem_cons, List.not_mem_nil, or_false] at hr
  rcases hr with rfl
  ·
    have z2 : (Int32.ofInt 2).toInt = 2 := by decide
    have z5 : (Int32.ofInt 5).toInt = 5 := by decide
    have z9 : (Int32.ofInt 9).toInt = 9 := by decide
    refine ⟨Nat.le_of_ble_eq_true rfl, [], ?_, fun _ h => absurd h List.not_mem_nil⟩
    ·
      refine And.intro (fun c1 => ?_) ?_
      · have c1 : a1.toInt < (0) ∨ (2) < a1.toInt := c1
        intro v2 e3
        have g4 : s0.1 16 1 = v2 := by rw [e3]
        have b5 : v2.toInt = (s0.1 16 1).toInt := congrArg Int32.toInt e3
        show s0 = s0 ∧ ((a1.toInt = 0 ∧ v2.toInt = 2) ∨ (a1.toInt = 1 ∧ v2.toInt = 5) ∨ (a1.toInt = 2 ∧ v2.toInt = 9) ∨ (¬ a1.toInt = 0 ∧ ¬ a1.toInt = 1 ∧ ¬ a1.toInt = 2 ∧ v2.toInt = (s0.1 16 1).toInt))
        exact ⟨rfl, (by first | trivial | omega | assumption)⟩
      refine And.intro (fun c6 => ?_) ?_
      · have c6 : a1.toInt = (0) := c6
        show s0 = s0 ∧ ((a1.toInt = 0 ∧ (Int32.ofInt 2).toInt = 2) ∨ (a1.toInt = 1 ∧ (Int32.ofInt 2).toInt = 5) ∨ (a1.toInt = 2 ∧ (Int32.ofInt 2).toInt = 9) ∨ (¬ a1.toInt = 0 ∧ ¬ a1.toInt = 1 ∧ ¬ a1.toInt = 2 ∧ (Int32.ofInt 2).toInt = (s0.1 16 1).toInt))
        exact ⟨rfl, (by first | trivial | omega | assumption)⟩
      refine And.intro (fun c7 => ?_) ?_
      · have c7 : a1.toInt = (1) := c7
        show s0 = s0 ∧ ((a1.toInt = 0 ∧ (Int32.ofInt 5).toInt = 2) ∨ (a1.toInt = 1 ∧ (Int32.ofInt 5).toInt = 5) ∨ (a1.toInt = 2 ∧ (Int32.ofInt 5).toInt = 9) ∨ (¬ a1.toInt = 0 ∧ ¬ a1.toInt = 1 ∧ ¬ a1.toInt = 2 ∧ (Int32.ofInt 5).toInt = (s0.1 16 1).toInt))
        exact ⟨rfl, (by first | trivial | omega | assumption)⟩
      refine And.intro (fun c8 => ?_) ?_
      · have c8 : a1.toInt = (2) := c8
        show s0 = s0 ∧ ((a1.toInt = 0 ∧ (Int32.ofInt 9).toInt = 2) ∨ (a1.toInt = 1 ∧ (Int32.ofInt 9).toInt = 5) ∨ (a1.toInt = 2 ∧ (Int32.ofInt 9).toInt = 9) ∨ (¬ a1.toInt = 0 ∧ ¬ a1.toInt = 1 ∧ ¬ a1.toInt = 2 ∧ (Int32.ofInt 9).toInt = (s0.1 16 1).toInt))
        exact ⟨rfl, (by first | trivial | omega | assumption)⟩
      exact trivial
def o_X3_number : List vg_I := [(0, .aload_n 1, 1, 0, 0, 0, 0), (1, .aload_n 0, 1, 0, 0, 0, 0), (2, .getfield 27, 3, 393, 3, 0, 0), (5, .invokevirtual 30, 3, 0, 8, 1, 775), (8, .astore_n 2, 1, 0, 0, 0, 0), (9, .lconst 0, 1, 0, 0, 0, 0), (10, .lstore_n 3, 1, 0, 0, 0, 0), (11, .iconst 0, 1, 0, 0, 0, 0), (12, .istore 5, 2, 0, 0, 0, 0), (14, .iload 5, 2, 0, 0, 0, 0), (16, .aload_n 2, 1, 0, 0, 0, 0), (17, .arraylength, 1, 0, 0, 0, 0), (18, .if_icmp .ge 34, 3, 0, 0, 0, 0), (21, .lload_n 3, 1, 0, 0, 0, 0), (22, .aload_n 2, 1, 0, 0, 0, 0), (23, .iload 5, 2, 0, 0, 0, 0), (25, .iaload, 1, 0, 0, 0, 0), (26, .i2l, 1, 0, 0, 0, 0), (27, .aload_n 0, 1, 0, 0, 0, 0), (28, .getfield 9, 3, 395, 3, 1, 0), (31, .aload_n 0, 1, 0, 0, 0, 0), (32, .getfield 19, 3, 396, 3, 2, 0), (35, .iload 5, 2, 0, 0, 0, 0), (37, .isub, 1, 0, 0, 0, 0), (38, .bipush 15, 2, 0, 0, 0, 0), (40, .iand, 1, 0, 0, 0, 0), (41, .iaload, 1, 0, 0, 0, 0), (42, .i2l, 1, 0, 0, 0, 0), (43, .lmul, 1, 0, 0, 0, 0), (44, .ladd, 1, 0, 0, 0, 0), (45, .lstore_n 3, 1, 0, 0, 0, 0), (46, .iinc 5 1, 3, 0, 0, 0, 0), (49, .goto (-35), 3, 0, 0, 0, 0), (52, .lload_n 3, 1, 0, 0, 0, 0), (53, .aload_n 1, 1, 0, 0, 0, 0), (54, .aload_n 0, 1, 0, 0, 0, 0), (55, .getfield 27, 3, 393, 3, 0, 0), (58, .invokevirtual 36, 3, 1, 8, 1, 776), (61, .lshr, 1, 0, 0, 0, 0), (62, .l2i, 1, 0, 0, 0, 0), (63, .ireturn, 1, 0, 0, 0, 0)]
set_option maxRecDepth 100000 in
set_option maxHeartbeats 4000000 in
theorem c_X3_number (l : Launch) (G : vg_G) (hp : vg_Hp G) : vg_Ct l G vg_sh r_X3_number := by
  refine vg_meth hp vg_sh_ok r_X3_number k_X3_number rfl (fun h => by cases h) o_X3_number [r_X8_rowOf, r_X8_shiftOf] false (by decide +kernel) (by decide +kernel) ⟨_, _, rfl, rfl⟩ (List.forall_mem_cons.mpr ⟨⟨c_X8_rowOf l G hp, Nat.le_of_ble_eq_true rfl, Nat.le_of_ble_eq_true rfl⟩, List.forall_mem_cons.mpr ⟨⟨c_X8_shiftOf l G hp, Nat.le_of_ble_eq_true rfl, Nat.le_of_ble_eq_true rfl⟩, fun _ h => absurd h List.not_mem_nil⟩⟩) (fun h => by cases h) 600 ?_
  intro as s0 hpre
  obtain ⟨r, a1, rfl, hr, ha1, i0⟩ := hpre
  simp only [List.mem_cons, List.not_mem_nil, or_false] at hr
  rcases hr with rfl | rfl | rfl
  ·
    simp only [List.mem_cons, List.not_mem_nil, or_false] at ha1
    rcases ha1 with rfl
    ·
      have z0 : (Int32.ofInt 0).toInt = 0 := by decide
      have z1 : (Int32.ofInt 1).toInt = 1 := by decide
      have z15 : (Int32.ofInt 15).toInt = 15 := by decide
      have n3 : (Int32.ofNat 3).toInt = 3 := by decide
      have n7 : (Int32.ofNat 7).toInt = 7 := by decide
      have n11 : (Int32.ofNat 11).toInt = 11 := by decide
      refine ⟨Nat.le_of_ble_eq_true rfl, [(14, [true, true, true, true, false, true], (fun L t => ∃ (x2 : Nat) (x3 : Int64) (x5 : Int32), L = [some (.ref 35), some (.ref 16), some (.ref x2), some (.long x3), none, some (.int x5)] ∧ x2 ∈ ([100, 101, 102, 17] : List Nat) ∧ (0 : Int) ≤ x5.toInt ∧ x5.toInt ≤ (11 : Int) ∧ t = s0), (fun L _ => (11 - (vg_li L 5).toInt).toNat))], ?_, List.forall_mem_cons.mpr ⟨?_, fun _ h => absurd h List.not_mem_nil⟩⟩
      ·
        intro v1 e2
        have g3 : s0.1 35 0 = v1 := by rw [e2]
        refine And.intro (Nat.le_of_ble_eq_true rfl) (And.intro ⟨16, v1, rfl, by decide, i0⟩ ?_)
        refine And.intro ?_ ?_
        ·
          intro s5 h4
          have h4 : s5 = s0 ∧ ((v1.toInt = 0 ∧ 100 = 100) ∨ (v1.toInt = 1 ∧ 100 = 101) ∨ (v1.toInt = 2 ∧ 100 = 102) ∨ (¬ v1.toInt = 0 ∧ ¬ v1.toInt = 1 ∧ ¬ v1.toInt = 2 ∧ 100 = 17)) := h4
          have q8 := h4.1.symm
          subst q8
          have q9 := h4.2
          exact ⟨rfl, ⟨100, (Int64.ofNat 0), (Int32.ofInt 0), rfl, (by decide), (by omega), (by omega), rfl⟩, trivial⟩
        refine And.intro ?_ ?_
        ·
          intro s11 h10
          have h10 : s11 = s0 ∧ ((v1.toInt = 0 ∧ 101 = 100) ∨ (v1.toInt = 1 ∧ 101 = 101) ∨ (v1.toInt = 2 ∧ 101 = 102) ∨ (¬ v1.toInt = 0 ∧ ¬ v1.toInt = 1 ∧ ¬ v1.toInt = 2 ∧ 101 = 17)) := h10
          have q14 := h10.1.symm
          subst q14
          have q15 := h10.2
          exact ⟨rfl, ⟨101, (Int64.ofNat 0), (Int32.ofInt 0), rfl, (by decide), (by omega), (by omega), rfl⟩, trivial⟩
        refine And.intro ?_ ?_
        ·
          intro s17 h16
          have h16 : s17 = s0 ∧ ((v1.toInt = 0 ∧ 102 = 100) ∨ (v1.toInt = 1 ∧ 102 = 101) ∨ (v1.toInt = 2 ∧ 102 = 102) ∨ (¬ v1.toInt = 0 ∧ ¬ v1.toInt = 1 ∧ ¬ v1.toInt = 2 ∧ 102 = 17)) := h16
          have q20 := h16.1.symm
          subst q20
          have q21 := h16.2
          exact ⟨rfl, ⟨102, (Int64.ofNat 0), (Int32.ofInt 0), rfl, (by decide), (by omega), (by omega), rfl⟩, trivial⟩
        refine And.intro ?_ ?_
        ·
          intro s23 h22
          have h22 : s23 = s0 ∧ ((v1.toInt = 0 ∧ 17 = 100) ∨ (v1.toInt = 1 ∧ 17 = 101) ∨ (v1.toInt = 2 ∧ 17 = 102) ∨ (¬ v1.toInt = 0 ∧ ¬ v1.toInt = 1 ∧ ¬ v1.toInt = 2 ∧ 17 = 17)) := h22
          have q26 := h22.1.symm
          subst q26
          have q27 := h22.2
          exact ⟨rfl, ⟨17, (Int64.ofNat 0), (Int32.ofInt 0), rfl, (by decide), (by omega), (by omega), rfl⟩, trivial⟩
        exact trivial
      ·
        intro L s34 hL
        obtain ⟨p28, w30, w31, rfl, h29, b32, b33, q37⟩ := hL
        have q37 := q37.symm
        subst q37
        simp only [List.mem_cons, List.not_mem_nil, or_false] at h29
        rcases h29 with rfl | rfl | rfl | rfl
        ·
          refine And.intro (fun c38 => ?_) (fun c38 => ?_)
          · have c38 : (Int32.ofNat 3).toInt ≤ w31.toInt := c38
            intro v39 e40
            have g41 : s0.1 35 0 = v39 := by rw [e40]
            refine And.intro (Nat.le_of_ble_eq_true rfl) (And.intro ⟨16, v39, rfl, by decide, i0⟩ ?_)
            intro v42 s44 h43
            have h43 : s44 = s0 ∧ ((v39.toInt = 0 ∧ v42.toInt = 2) ∨ (v39.toInt = 1 ∧ v42.toInt = 5) ∨ (v39.toInt = 2 ∧ v42.toInt = 9) ∨ (¬ v39.toInt = 0 ∧ ¬ v39.toInt = 1 ∧ ¬ v39.toInt = 2 ∧ v42.toInt = (s0.1 16 1).toInt)) := h43
            have q47 := h43.1.symm
            subst q47
            have q48 := h43.2
            intro v49 e50
            intro v51 e52
            show s0 = s0 ∧ (True)
            exact ⟨rfl, (trivial)⟩
          · have c38 : ¬ ((Int32.ofNat 3).toInt ≤ w31.toInt) := c38
            refine And.intro ⟨by omega, by omega⟩ ?_
            intro v53 e54
            intro v55 e56
            intro v57 e58
            have g59 : s0.1 35 2 = v57 := by rw [e58]
            intro v60 e61
            intro v62 e63
            have b64 := vg_and e63 (by omega)
            refine And.intro ⟨by omega, by omega⟩ ?_
            intro v65 e66
            intro v67 e68
            intro v69 e70
            intro v71 e72
            intro v73 e74
            have b75 := vg_add e74 (by omega) (by omega)
            exact ⟨rfl, ⟨100, v71, v73, rfl, (by decide), (by omega), (by omega), rfl⟩, (by show (11 - v73.toInt).toNat < (11 - w31.toInt).toNat; omega)⟩
        ·
          refine And.intro (fun c76 => ?_) (fun c76 => ?_)
          · have c76 : (Int32.ofNat 7).toInt ≤ w31.toInt := c76
            intro v77 e78
            have g79 : s0.1 35 0 = v77 := by rw [e78]
            refine And.intro (Nat.le_of_ble_eq_true rfl) (And.intro ⟨16, v77, rfl, by decide, i0⟩ ?_)
            intro v80 s82 h81
            have h81 : s82 = s0 ∧ ((v77.toInt = 0 ∧ v80.toInt = 2) ∨ (v77.toInt = 1 ∧ v80.toInt = 5) ∨ (v77.toInt = 2 ∧ v80.toInt = 9) ∨ (¬ v77.toInt = 0 ∧ ¬ v77.toInt = 1 ∧ ¬ v77.toInt = 2 ∧ v80.toInt = (s0.1 16 1).toInt)) := h81
            have q85 := h81.1.symm
            subst q85
            have q86 := h81.2
            intro v87 e88
            intro v89 e90
            show s0 = s0 ∧ (True)
            exact ⟨rfl, (trivial)⟩
          · have c76 : ¬ ((Int32.ofNat 7).toInt ≤ w31.toInt) := c76
            refine And.intro ⟨by omega, by omega⟩ ?_
            intro v91 e92
            intro v93 e94
            intro v95 e96
            have g97 : s0.1 35 2 = v95 := by rw [e96]
            intro v98 e99
            intro v100 e101
            have b102 := vg_and e101 (by omega)
            refine And.intro ⟨by omega, by omega⟩ ?_
            intro v103 e104
            intro v105 e106
            intro v107 e108
            intro v109 e110
            intro v111 e112
            have b113 := vg_add e112 (by omega) (by omega)
            exact ⟨rfl, ⟨101, v109, v111, rfl, (by decide), (by omega), (by omega), rfl⟩, (by show (11 - v111.toInt).toNat < (11 - w31.toInt).toNat; omega)⟩
        ·
          refine And.intro (fun c114 => ?_) (fun c114 => ?_)
          · have c114 : (Int32.ofNat 11).toInt ≤ w31.toInt := c114
            intro v115 e116
            have g117 : s0.1 35 0 = v115 := by rw [e116]
            refine And.intro (Nat.le_of_ble_eq_true rfl) (And.intro ⟨16, v115, rfl, by decide, i0⟩ ?_)
            intro v118 s120 h119
            have h119 : s120 = s0 ∧ ((v115.toInt = 0 ∧ v118.toInt = 2) ∨ (v115.toInt = 1 ∧ v118.toInt = 5) ∨ (v115.toInt = 2 ∧ v118.toInt = 9) ∨ (¬ v115.toInt = 0 ∧ ¬ v115.toInt = 1 ∧ ¬ v115.toInt = 2 ∧ v118.toInt = (s0.1 16 1).toInt)) := h119
            have q123 := h119.1.symm
            subst q123
            have q124 := h119.2
            intro v125 e126
            intro v127 e128
            show s0 = s0 ∧ (True)
            exact ⟨rfl, (trivial)⟩
          · have c114 : ¬ ((Int32.ofNat 11).toInt ≤ w31.toInt) := c114
            refine And.intro ⟨by omega, by omega⟩ ?_
            intro v129 e130
            intro v131 e132
            intro v133 e134
            have g135 : s0.1 35 2 = v133 := by rw [e134]
            intro v136 e137
            intro v138 e139
            have b140 := vg_and e139 (by omega)
            refine And.intro ⟨by omega, by omega⟩ ?_
            intro v141 e142
            intro v143 e144
            intro v145 e146
            intro v147 e148
            intro v149 e150
            have b151 := vg_add e150 (by omega) (by omega)
            exact ⟨rfl, ⟨102, v147, v149, rfl, (by decide), (by omega), (by omega), rfl⟩, (by show (11 - v149.toInt).toNat < (11 - w31.toInt).toNat; omega)⟩
        ·
          refine And.intro (fun c152 => ?_) (fun c152 => ?_)
          · have c152 : (Int32.ofNat 7).toInt ≤ w31.toInt := c152
            intro v153 e154
            have g155 : s0.1 35 0 = v153 := by rw [e154]
            refine And.intro (Nat.le_of_ble_eq_true rfl) (And.intro ⟨16, v153, rfl, by decide, i0⟩ ?_)
            intro v156 s158 h157
            have h157 : s158 = s0 ∧ ((v153.toInt = 0 ∧ v156.toInt = 2) ∨ (v153.toInt = 1 ∧ v156.toInt = 5) ∨ (v153.toInt = 2 ∧ v156.toInt = 9) ∨ (¬ v153.toInt = 0 ∧ ¬ v153.toInt = 1 ∧ ¬ v153.toInt = 2 ∧ v156.toInt = (s0.1 16 1).toInt)) := h157
            have q161 := h157.1.symm
            subst q161
            have q162 := h157.2
            intro v163 e164
            intro v165 e166
            show s0 = s0 ∧ (True)
            exact ⟨rfl, (trivial)⟩
          · have c152 : ¬ ((Int32.ofNat 7).toInt ≤ w31.toInt) := c152
            refine And.intro ⟨by omega, by omega⟩ ?_
            intro v167 e168
            intro v169 e170
            intro v171 e172
            have g173 : s0.1 35 2 = v171 := by rw [e172]
            intro v174 e175
            intro v176 e177
            have b178 := vg_and e177 (by omega)
            refine And.intro ⟨by omega, by omega⟩ ?_
            intro v179 e180
            intro v181 e182
            intro v183 e184
            intro v185 e186
            intro v187 e188
            have b189 := vg_add e188 (by omega) (by omega)
            exact ⟨rfl, ⟨17, v185, v187, rfl, (by decide), (by omega), (by omega), rfl⟩, (by show (11 - v187.toInt).toNat < (11 - w31.toInt).toNat; omega)⟩
  ·
    simp only [List.mem_cons, List.not_mem_nil, or_false] at ha1
    rcases ha1 with rfl
    ·
      have z0 : (Int32.ofInt 0).toInt = 0 := by decide
      have z1 : (Int32.ofInt 1).toInt = 1 := by decide
      have z15 : (Int32.ofInt 15).toInt = 15 := by decide
      have n3 : (Int32.ofNat 3).toInt = 3 := by decide
      have n7 : (Int32.ofNat 7).toInt = 7 := by decide
      have n11 : (Int32.ofNat 11).toInt = 11 := by decide
      refine ⟨Nat.le_of_ble_eq_true rfl, [(14, [true, true, true, true, false, true], (fun L t => ∃ (x2 : Nat) (x3 : Int64) (x5 : Int32), L = [some (.ref 37), some (.ref 16), some (.ref x2), some (.long x3), none, some (.int x5)] ∧ x2 ∈ ([100, 101, 102, 17] : List Nat) ∧ (0 : Int) ≤ x5.toInt ∧ x5.toInt ≤ (11 : Int) ∧ t = s0), (fun L _ => (11 - (vg_li L 5).toInt).toNat))], ?_, List.forall_mem_cons.mpr ⟨?_, fun _ h => absurd h List.not_mem_nil⟩⟩
      ·
        intro v1 e2
        have g3 : s0.1 37 0 = v1 := by rw [e2]
        refine And.intro (Nat.le_of_ble_eq_true rfl) (And.intro ⟨16, v1, rfl, by decide, i0⟩ ?_)
        refine And.intro ?_ ?_
        ·
          intro s5 h4
          have h4 : s5 = s0 ∧ ((v1.toInt = 0 ∧ 100 = 100) ∨ (v1.toInt = 1 ∧ 100 = 101) ∨ (v1.toInt = 2 ∧ 100 = 102) ∨ (¬ v1.toInt = 0 ∧ ¬ v1.toInt = 1 ∧ ¬ v1.toInt = 2 ∧ 100 = 17)) := h4
          have q8 := h4.1.symm
          subst q8
          have q9 := h4.2
          exact ⟨rfl, ⟨100, (Int64.ofNat 0), (Int32.ofInt 0), rfl, (by decide), (by omega), (by omega), rfl⟩, trivial⟩
        refine And.intro ?_ ?_
        ·
          intro s11 h10
          have h10 : s11 = s0 ∧ ((v1.toInt = 0 ∧ 101 = 100) ∨ (v1.toInt = 1 ∧ 101 = 101) ∨ (v1.toInt = 2 ∧ 101 = 102) ∨ (¬ v1.toInt = 0 ∧ ¬ v1.toInt = 1 ∧ ¬ v1.toInt = 2 ∧ 101 = 17)) := h10
          have q14 := h10.1.symm
          subst q14
          have q15 := h10.2
          exact ⟨rfl, ⟨101, (Int64.ofNat 0), (Int32.ofInt 0), rfl, (by decide), (by omega), (by omega), rfl⟩, trivial⟩
        refine And.intro ?_ ?_
        ·
          intro s17 h16
          have h16 : s17 = s0 ∧ ((v1.toInt = 0 ∧ 102 = 100) ∨ (v1.toInt = 1 ∧ 102 = 101) ∨ (v1.toInt = 2 ∧ 102 = 102) ∨ (¬ v1.toInt = 0 ∧ ¬ v1.toInt = 1 ∧ ¬ v1.toInt = 2 ∧ 102 = 17)) := h16
          have q20 := h16.1.symm
          subst q20
          have q21 := h16.2
          exact ⟨rfl, ⟨102, (Int64.ofNat 0), (Int32.ofInt 0), rfl, (by decide), (by omega), (by omega), rfl⟩, trivial⟩
        refine And.intro ?_ ?_
        ·
          intro s23 h22
          have h22 : s23 = s0 ∧ ((v1.toInt = 0 ∧ 17 = 100) ∨ (v1.toInt = 1 ∧ 17 = 101) ∨ (v1.toInt = 2 ∧ 17 = 102) ∨ (¬ v1.toInt = 0 ∧ ¬ v1.toInt = 1 ∧ ¬ v1.toInt = 2 ∧ 17 = 17)) := h22
          have q26 := h22.1.symm
          subst q26
          have q27 := h22.2
          exact ⟨rfl, ⟨17, (Int64.ofNat 0), (Int32.ofInt 0), rfl, (by decide), (by omega), (by omega), rfl⟩, trivial⟩
        exact trivial
      ·
        intro L s34 hL
        obtain ⟨p28, w30, w31, rfl, h29, b32, b33, q37⟩ := hL
        have q37 := q37.symm
        subst q37
        simp only [List.mem_cons, List.not_mem_nil, or_false] at h29
        rcases h29 with rfl | rfl | rfl | rfl
        ·
          refine And.intro (fun c38 => ?_) (fun c38 => ?_)
          · have c38 : (Int32.ofNat 3).toInt ≤ w31.toInt := c38
            intro v39 e40
            have g41 : s0.1 37 0 = v39 := by rw [e40]
            refine And.intro (Nat.le_of_ble_eq_true rfl) (And.intro ⟨16, v39, rfl, by decide, i0⟩ ?_)
            intro v42 s44 h43
            have h43 : s44 = s0 ∧ ((v39.toInt = 0 ∧ v42.toInt = 2) ∨ (v39.toInt = 1 ∧ v42.toInt = 5) ∨ (v39.toInt = 2 ∧ v42.toInt = 9) ∨ (¬ v39.toInt = 0 ∧ ¬ v39.toInt = 1 ∧ ¬ v39.toInt = 2 ∧ v42.toInt = (s0.1 16 1).toInt)) := h43
            have q47 := h43.1.symm
            subst q47
            have q48 := h43.2
            intro v49 e50
            intro v51 e52
            show s0 = s0 ∧ (True)
            exact ⟨rfl, (trivial)⟩
          · have c38 : ¬ ((Int32.ofNat 3).toInt ≤ w31.toInt) := c38
            refine And.intro ⟨by omega, by omega⟩ ?_
            intro v53 e54
            intro v55 e56
            intro v57 e58
            have g59 : s0.1 37 2 = v57 := by rw [e58]
            intro v60 e61
            intro v62 e63
            have b64 := vg_and e63 (by omega)
            refine And.intro ⟨by omega, by omega⟩ ?_
            intro v65 e66
            intro v67 e68
            intro v69 e70
            intro v71 e72
            intro v73 e74
            have b75 := vg_add e74 (by omega) (by omega)
            exact ⟨rfl, ⟨100, v71, v73, rfl, (by decide), (by omega), (by omega), rfl⟩, (by show (11 - v73.toInt).toNat < (11 - w31.toInt).toNat; omega)⟩
        ·
          refine And.intro (fun c76 => ?_) (fun c76 => ?_)
          · have c76 : (Int32.ofNat 7).toInt ≤ w31.toInt := c76
            intro v77 e78
            have g79 : s0.1 37 0 = v77 := by rw [e78]
            refine And.intro (Nat.le_of_ble_eq_true rfl) (And.intro ⟨16, v77, rfl, by decide, i0⟩ ?_)
            intro v80 s82 h81
            have h81 : s82 = s0 ∧ ((v77.toInt = 0 ∧ v80.toInt = 2) ∨ (v77.toInt = 1 ∧ v80.toInt = 5) ∨ (v77.toInt = 2 ∧ v80.toInt = 9) ∨ (¬ v77.toInt = 0 ∧ ¬ v77.toInt = 1 ∧ ¬ v77.toInt = 2 ∧ v80.toInt = (s0.1 16 1).toInt)) := h81
            have q85 := h81.1.symm
            subst q85
            have q86 := h81.2
            intro v87 e88
            intro v89 e90
            show s0 = s0 ∧ (True)
            exact ⟨rfl, (trivial)⟩
          · have c76 : ¬ ((Int32.ofNat 7).toInt ≤ w31.toInt) := c76
            refine And.intro ⟨by omega, by omega⟩ ?_
            intro v91 e92
            intro v93 e94
            intro v95 e96
            have g97 : s0.1 37 2 = v95 := by rw [e96]
            intro v98 e99
            intro v100 e101
            have b102 := vg_and e101 (by omega)
            refine And.intro ⟨by omega, by omega⟩ ?_
            intro v103 e104
            intro v105 e106
            intro v107 e108
            intro v109 e110
            intro v111 e112
            have b113 := vg_add e112 (by omega) (by omega)
            exact ⟨rfl, ⟨101, v109, v111, rfl, (by decide), (by omega), (by omega), rfl⟩, (by show (11 - v111.toInt).toNat < (11 - w31.toInt).toNat; omega)⟩
        ·
          refine And.intro (fun c114 => ?_) (fun c114 => ?_)
          · have c114 : (Int32.ofNat 11).toInt ≤ w31.toInt := c114
            intro v115 e116
            have g117 : s0.1 37 0 = v115 := by rw [e116]
            refine And.intro (Nat.le_of_ble_eq_true rfl) (And.intro ⟨16, v115, rfl, by decide, i0⟩ ?_)
            intro v118 s120 h119
            have h119 : s120 = s0 ∧ ((v115.toInt = 0 ∧ v118.toInt = 2) ∨ (v115.toInt = 1 ∧ v118.toInt = 5) ∨ (v115.toInt = 2 ∧ v118.toInt = 9) ∨ (¬ v115.toInt = 0 ∧ ¬ v115.toInt = 1 ∧ ¬ v115.toInt = 2 ∧ v118.toInt = (s0.1 16 1).toInt)) := h119
            have q123 := h119.1.symm
            subst q123
            have q124 := h119.2
            intro v125 e126
            intro v127 e128
            show s0 = s0 ∧ (True)
            exact ⟨rfl, (trivial)⟩
          · have c114 : ¬ ((Int32.ofNat 11).toInt ≤ w31.toInt) := c114
            refine And.intro ⟨by omega, by omega⟩ ?_
            intro v129 e130
            intro v131 e132
            intro v133 e134
            have g135 : s0.1 37 2 = v133 := by rw [e134]
            intro v136 e137
            intro v138 e139
            have b140 := vg_and e139 (by omega)
            refine And.intro ⟨by omega, by omega⟩ ?_
            intro v141 e142
            intro v143 e144
            intro v145 e146
            intro v147 e148
            intro v149 e150
            have b151 := vg_add e150 (by omega) (by omega)
            exact ⟨rfl, ⟨102, v147, v149, rfl, (by decide), (by omega), (by omega), rfl⟩, (by show (11 - v149.toInt).toNat < (11 - w31.toInt).toNat; omega)⟩
        ·
          refine And.intro (fun c152 => ?_) (fun c152 => ?_)
          · have c152 : (Int32.ofNat 7).toInt ≤ w31.toInt := c152
            intro v153 e154
            have g155 : s0.1 37 0 = v153 := by rw [e154]
            refine And.intro (Nat.le_of_ble_eq_true rfl) (And.intro ⟨16, v153, rfl, by decide, i0⟩ ?_)
            intro v156 s158 h157
            have h157 : s158 = s0 ∧ ((v153.toInt = 0 ∧ v156.toInt = 2) ∨ (v153.toInt = 1 ∧ v156.toInt = 5) ∨ (v153.toInt = 2 ∧ v156.toInt = 9) ∨ (¬ v153.toInt = 0 ∧ ¬ v153.toInt = 1 ∧ ¬ v153.toInt = 2 ∧ v156.toInt = (s0.1 16 1).toInt)) := h157
            have q161 := h157.1.symm
            subst q161
            have q162 := h157.2
            intro v163 e164
            intro v165 e166
            show s0 = s0 ∧ (True)
            exact ⟨rfl, (trivial)⟩
          · have c152 : ¬ ((Int32.ofNat 7).toInt ≤ w31.toInt) := c152
            refine And.intro ⟨by omega, by omega⟩ ?_
            intro v167 e168
            intro v169 e170
            intro v171 e172
            have g173 : s0.1 37 2 = v171 := by rw [e172]
            intro v174 e175
            intro v176 e177
            have b178 := vg_and e177 (by omega)
            refine And.intro ⟨by omega, by omega⟩ ?_
            intro v179 e180
            intro v181 e182
            intro v183 e184
            intro v185 e186
            intro v187 e188
            have b189 := vg_add e188 (by omega) (by omega)
            exact ⟨rfl, ⟨17, v185, v187, rfl, (by decide), (by omega), (by omega), rfl⟩, (by show (11 - v187.toInt).toNat < (11 - w31.toInt).toNat; omega)⟩
  ·
    simp only [List.mem_cons, List.not_mem_nil, or_false] at ha1
    rcases ha1 with rfl
    ·
      have z0 : (Int32.ofInt 0).toInt = 0 := by decide
      have z1 : (Int32.ofInt 1).toInt = 1 := by decide
      have z15 : (Int32.ofInt 15).toInt = 15 := by decide
      have n3 : (Int32.ofNat 3).toInt = 3 := by decide
      have n7 : (Int32.ofNat 7).toInt = 7 := by decide
      have n11 : (Int32.ofNat 11).toInt = 11 := by decide
      refine ⟨Nat.le_of_ble_eq_true rfl, [(14, [true, true, true, true, false, true], (fun L t => ∃ (x2 : Nat) (x3 : Int64) (x5 : Int32), L = [some (.ref 39), some (.ref 16), some (.ref x2), some (.long x3), none, some (.int x5)] ∧ x2 ∈ ([100, 101, 102, 17] : List Nat) ∧ (0 : Int) ≤ x5.toInt ∧ x5.toInt ≤ (11 : Int) ∧ t = s0), (fun L _ => (11 - (vg_li L 5).toInt).toNat))], ?_, List.forall_mem_cons.mpr ⟨?_, fun _ h => absurd h List.not_mem_nil⟩⟩
      ·
        intro v1 e2
        have g3 : s0.1 39 0 = v1 := by rw [e2]
        refine And.intro (Nat.le_of_ble_eq_true rfl) (And.intro ⟨16, v1, rfl, by decide, i0⟩ ?_)
        refine And.intro ?_ ?_
        ·
          intro s5 h4
          have h4 : s5 = s0 ∧ ((v1.toInt = 0 ∧ 100 = 100) ∨ (v1.toInt = 1 ∧ 100 = 101) ∨ (v1.toInt = 2 ∧ 100 = 102) ∨ (¬ v1.toInt = 0 ∧ ¬ v1.toInt = 1 ∧ ¬ v1.toInt = 2 ∧ 100 = 17)) := h4
          have q8 := h4.1.symm
          subst q8
          have q9 := h4.2
          exact ⟨rfl, ⟨100, (Int64.ofNat 0), (Int32.ofInt 0), rfl, (by decide), (by omega), (by omega), rfl⟩, trivial⟩
        refine And.intro ?_ ?_
        ·
          intro s11 h10
          have h10 : s11 = s0 ∧ ((v1.toInt = 0 ∧ 101 = 100) ∨ (v1.toInt = 1 ∧ 101 = 101) ∨ (v1.toInt = 2 ∧ 101 = 102) ∨ (¬ v1.toInt = 0 ∧ ¬ v1.toInt = 1 ∧ ¬ v1.toInt = 2 ∧ 101 = 17)) := h10
          have q14 := h10.1.symm
          subst q14
          have q15 := h10.2
          exact ⟨rfl, ⟨101, (Int64.ofNat 0), (Int32.ofInt 0), rfl, (by decide), (by omega), (by omega), rfl⟩, trivial⟩
        refine And.intro ?_ ?_
        ·
          intro s17 h16
          have h16 : s17 = s0 ∧ ((v1.toInt = 0 ∧ 102 = 100) ∨ (v1.toInt = 1 ∧ 102 = 101) ∨ (v1.toInt = 2 ∧ 102 = 102) ∨ (¬ v1.toInt = 0 ∧ ¬ v1.toInt = 1 ∧ ¬ v1.toInt = 2 ∧ 102 = 17)) := h16
          have q20 := h16.1.symm
          subst q20
          have q21 := h16.2
          exact ⟨rfl, ⟨102, (Int64.ofNat 0), (Int32.ofInt 0), rfl, (by decide), (by omega), (by omega), rfl⟩, trivial⟩
        refine And.intro ?_ ?_
        ·
          intro s23 h22
          have h22 : s23 = s0 ∧ ((v1.toInt = 0 ∧ 17 = 100) ∨ (v1.toInt = 1 ∧ 17 = 101) ∨ (v1.toInt = 2 ∧ 17 = 102) ∨ (¬ v1.toInt = 0 ∧ ¬ v1.toInt = 1 ∧ ¬ v1.toInt = 2 ∧ 17 = 17)) := h22
          have q26 := h22.1.symm
          subst q26
          have q27 := h22.2
          exact ⟨rfl, ⟨17, (Int64.ofNat 0), (Int32.ofInt 0), rfl, (by decide), (by omega), (by omega), rfl⟩, trivial⟩
        exact trivial
      ·
        intro L s34 hL
        obtain ⟨p28, w30, w31, rfl, h29, b32, b33, q37⟩ := hL
        have q37 := q37.symm
        subst q37
        simp only [List.mem_cons, List.not_mem_nil, or_false] at h29
        rcases h29 with rfl | rfl | rfl | rfl
        ·
          refine And.intro (fun c38 => ?_) (fun c38 => ?_)
          · have c38 : (Int32.ofNat 3).toInt ≤ w31.toInt := c38
            intro v39 e40
            have g41 : s0.1 39 0 = v39 := by rw [e40]
            refine And.intro (Nat.le_of_ble_eq_true rfl) (And.intro ⟨16, v39, rfl, by decide, i0⟩ ?_)
            intro v42 s44 h43
            have h43 : s44 = s0 ∧ ((v39.toInt = 0 ∧ v42.toInt = 2) ∨ (v39.toInt = 1 ∧ v42.toInt = 5) ∨ (v39.toInt = 2 ∧ v42.toInt = 9) ∨ (¬ v39.toInt = 0 ∧ ¬ v39.toInt = 1 ∧ ¬ v39.toInt = 2 ∧ v42.toInt = (s0.1 16 1).toInt)) := h43
            have q47 := h43.1.symm
            subst q47
            have q48 := h43.2
            intro v49 e50
            intro v51 e52
            show s0 = s0 ∧ (True)
            exact ⟨rfl, (trivial)⟩
          · have c38 : ¬ ((Int32.ofNat 3).toInt ≤ w31.toInt) := c38
            refine And.intro ⟨by omega, by omega⟩ ?_
            intro v53 e54
            intro v55 e56
            intro v57 e58
            have g59 : s0.1 39 2 = v57 := by rw [e58]
            intro v60 e61
            intro v62 e63
            have b64 := vg_and e63 (by omega)
            refine And.intro ⟨by omega, by omega⟩ ?_
            intro v65 e66
            intro v67 e68
            intro v69 e70
            intro v71 e72
            intro v73 e74
            have b75 := vg_add e74 (by omega) (by omega)
            exact ⟨rfl, ⟨100, v71, v73, rfl, (by decide), (by omega), (by omega), rfl⟩, (by show (11 - v73.toInt).toNat < (11 - w31.toInt).toNat; omega)⟩
        ·
          refine And.intro (fun c76 => ?_) (fun c76 => ?_)
          · have c76 : (Int32.ofNat 7).toInt ≤ w31.toInt := c76
            intro v77 e78
            have g79 : s0.1 39 0 = v77 := by rw [e78]
            refine And.intro (Nat.le_of_ble_eq_true rfl) (And.intro ⟨16, v77, rfl, by decide, i0⟩ ?_)
            intro v80 s82 h81
            have h81 : s82 = s0 ∧ ((v77.toInt = 0 ∧ v80.toInt = 2) ∨ (v77.toInt = 1 ∧ v80.toInt = 5) ∨ (v77.toInt = 2 ∧ v80.toInt = 9) ∨ (¬ v77.toInt = 0 ∧ ¬ v77.toInt = 1 ∧ ¬ v77.toInt = 2 ∧ v80.toInt = (s0.1 16 1).toInt)) := h81
            have q85 := h81.1.symm
            subst q85
            have q86 := h81.2
            intro v87 e88
            intro v89 e90
            show s0 = s0 ∧ (True)
            exact ⟨rfl, (trivial)⟩
          · have c76 : ¬ ((Int32.ofNat 7).toInt ≤ w31.toInt) := c76
            refine And.intro ⟨by omega, by omega⟩ ?_
            intro v91 e92
            intro v93 e94
            intro v95 e96
            have g97 : s0.1 39 2 = v95 := by rw [e96]
            intro v98 e99
            intro v100 e101
            have b102 := vg_and e101 (by omega)
            refine And.intro ⟨by omega, by omega⟩ ?_
            intro v103 e104
            intro v105 e106
            intro v107 e108
            intro v109 e110
            intro v111 e112
            have b113 := vg_add e112 (by omega) (by omega)
            exact ⟨rfl, ⟨101, v109, v111, rfl, (by decide), (by omega), (by omega), rfl⟩, (by show (11 - v111.toInt).toNat < (11 - w31.toInt).toNat; omega)⟩
        ·
          refine And.intro (fun c114 => ?_) (fun c114 => ?_)
          · have c114 : (Int32.ofNat 11).toInt ≤ w31.toInt := c114
            intro v115 e116
            have g117 : s0.1 39 0 = v115 := by rw [e116]
            refine And.intro (Nat.le_of_ble_eq_true rfl) (And.intro ⟨16, v115, rfl, by decide, i0⟩ ?_)
            intro v118 s120 h119
            have h119 : s120 = s0 ∧ ((v115.toInt = 0 ∧ v118.toInt = 2) ∨ (v115.toInt = 1 ∧ v118.toInt = 5) ∨ (v115.toInt = 2 ∧ v118.toInt = 9) ∨ (¬ v115.toInt = 0 ∧ ¬ v115.toInt = 1 ∧ ¬ v115.toInt = 2 ∧ v118.toInt = (s0.1 16 1).toInt)) := h119
            have q123 := h119.1.symm
            subst q123
            have q124 := h119.2
            intro v125 e126
            intro v127 e128
            show s0 = s0 ∧ (True)
            exact ⟨rfl, (trivial)⟩
          · have c114 : ¬ ((Int32.ofNat 11).toInt ≤ w31.toInt) := c114
            refine And.intro ⟨by omega, by omega⟩ ?_
            intro v129 e130
            intro v131 e132
            intro v133 e134
            have g135 : s0.1 39 2 = v133 := by rw [e134]
            intro v136 e137
            intro v138 e139
            have b140 := vg_and e139 (by omega)
            refine And.intro ⟨by omega, by omega⟩ ?_
            intro v141 e142
            intro v143 e144
            intro v145 e146
            intro v147 e148
            intro v149 e150
            have b151 := vg_add e150 (by omega) (by omega)
            exact ⟨rfl, ⟨102, v147, v149, rfl, (by decide), (by omega), (by omega), rfl⟩, (by show (11 - v149.toInt).toNat < (11 - w31.toInt).toNat; omega)⟩
        ·
          refine And.intro (fun c152 => ?_) (fun c152 => ?_)
          · have c152 : (Int32.ofNat 7).toInt ≤ w31.toInt := c152
            intro v153 e154
            have g155 : s0.1 39 0 = v153 := by rw [e154]
            refine And.intro (Nat.le_of_ble_eq_true rfl) (And.intro ⟨16, v153, rfl, by decide, i0⟩ ?_)
            intro v156 s158 h157
            have h157 : s158 = s0 ∧ ((v153.toInt = 0 ∧ v156.toInt = 2) ∨ (v153.toInt = 1 ∧ v156.toInt = 5) ∨ (v153.toInt = 2 ∧ v156.toInt = 9) ∨ (¬ v153.toInt = 0 ∧ ¬ v153.toInt = 1 ∧ ¬ v153.toInt = 2 ∧ v156.toInt = (s0.1 16 1).toInt)) := h157
            have q161 := h157.1.symm
            subst q161
            have q162 := h157.2
            intro v163 e164
            intro v165 e166
            show s0 = s0 ∧ (True)
            exact ⟨rfl, (trivial)⟩
          · have c152 : ¬ ((Int32.ofNat 7).toInt ≤ w31.toInt) := c152
            refine And.intro ⟨by omega, by omega⟩ ?_
            intro v167 e168
            intro v169 e170
            intro v171 e172
            have g173 : s0.1 39 2 = v171 := by rw [e172]
            intro v174 e175
            intro v176 e177
            have b178 := vg_and e177 (by omega)
            refine And.intro ⟨by omega, by omega⟩ ?_
            intro v179 e180
            intro v181 e182
            intro v183 e184
            intro v185 e186
            intro v187 e188
            have b189 := vg_add e188 (by omega) (by omega)
            exact ⟨rfl, ⟨17, v185, v187, rfl, (by decide), (by omega), (by omega), rfl⟩, (by show (11 - v187.toInt).toNat < (11 - w31.toInt).toNat; omega)⟩
def o_X8_tell : List vg_I := [(0, .aload_n 0, 1, 0, 0, 0, 0), (1, .getfield 7, 3, 334, 8, 0, 0), (4, .iconst 0, 1, 0, 0, 0, 0), (5, .iload_n 1, 1, 0, 0, 0, 0), (6, .iastore, 1, 0, 0, 0, 0), (7, .aload_n 0, 1, 0, 0, 0, 0), (8, .getfield 7, 3, 334, 8, 0, 0), (11, .iconst 1, 1, 0, 0, 0, 0), (12, .iload_n 2, 1, 0, 0, 0, 0), (13, .iastore, 1, 0, 0, 0, 0), (14, .aload_n 0, 1, 0, 0, 0, 0), (15, .getfield 7, 3, 334, 8, 0, 0), (18, .iconst 2, 1, 0, 0, 0, 0), (19, .iload_n 3, 1, 0, 0, 0, 0), (20, .iastore, 1, 0, 0, 0, 0), (21, .aload_n 0, 1, 0, 0, 0, 0), (22, .getfield 7, 3, 334, 8, 0, 0), (25, .iconst 3, 1, 0, 0, 0, 0), (26, .iload 4, 2, 0, 0, 0, 0), (28, .iastore, 1, 0, 0, 0, 0), (29, .aload_n 0, 1, 0, 0, 0, 0), (30, .getfield 7, 3, 334, 8, 0, 0), (33, .iconst 4, 1, 0, 0, 0, 0), (34, .iload_n 3, 1, 0, 0, 0, 0), (35, .iastore, 1, 0, 0, 0, 0), (36, .aload_n 0, 1, 0, 0, 0, 0), (37, .getfield 7, 3, 334, 8, 0, 0), (40, .iconst 5, 1, 0, 0, 0, 0), (41, .iload_n 2, 1, 0, 0, 0, 0), (42, .iastore, 1, 0, 0, 0, 0), (43, .aload_n 0, 1, 0, 0, 0, 0), (44, .getfield 7, 3, 334, 8, 0, 0), (47, .bipush 6, 2, 0, 0, 0, 0), (49, .iload_n 1, 1, 0, 0, 0, 0), (50, .iastore, 1, 0, 0, 0, 0), (51, .aload_n 0, 1, 0, 0, 0, 0), (52, .iload 5, 2, 0, 0, 0, 0), (54, .putfield 19, 3, 335, 8, 1, 0), (57, .return_, 1, 0, 0, 0, 0)]
set_option maxRecDepth 100000 in
set_option maxHeartbeats 4000000 in
theorem c_X8_tell (l : Launch) (G : vg_G) (hp : vg_Hp G) : vg_Ct l G vg_sh r_X8_tell := by
  refine vg_meth hp vg_sh_ok r_X8_tell k_X8_tell rfl (fun h => by cases h) o_X8_tell [] false (by decide +kernel) (by decide +kernel) ⟨_, _, rfl, rfl⟩ (fun _ h => absurd h List.not_mem_nil) (fun h => by cases h) 600 ?_
  intro as s0 hpre
  obtain ⟨r, a1, a2, a3, a4, a5, rfl, hr, i0⟩ := hpre
  simp only [List.mem_cons, List.not_mem_nil, or_false] at hr
  rcases hr with rfl
  ·
    have z0 : (Int32.ofInt 0).toInt = 0 := by decide
    have z1 : (Int32.ofInt 1).toInt = 1 := by decide
    have z2 : (Int32.ofInt 2).toInt = 2 := by decide
    have z3 : (Int32.ofInt 3).toInt = 3 := by decide
    have z4 : (Int32.ofInt 4).toInt = 4 := by decide
    have z5 : (Int32.ofInt 5).toInt = 5 := by decide
    have z6 : (Int32.ofInt 6).toInt = 6 := by decide
    refine ⟨Nat.le_of_ble_eq_true rfl, [], ?_, fun _ h => absurd h List.not_mem_nil⟩
    ·
      refine And.intro ⟨by omega, by omega⟩ ?_
      intro s1 e2
      have i3 : Iv s1 := Iv.a1 i0 e2 rfl
      have k4 : K_X10_taps s0 s1 := Kx.u1 Kx.rf e2 rfl
      refine And.intro ⟨by omega, by omega⟩ ?_
      intro s5 e6
      have i7 : Iv s5 := Iv.a1 i3 e6 rfl
      have k8 : K_X10_taps s0 s5 := Kx.u1 k4 e6 rfl
      refine And.intro ⟨by omega, by omega⟩ ?_
      intro s9 e10
      have i11 : Iv s9 := Iv.a1 i7 e10 rfl
      have k12 : K_X10_taps s0 s9 := Kx.u1 k8 e10 rfl
      refine And.intro ⟨by omega, by omega⟩ ?_
      intro s13 e14
      have i15 : Iv s13 := Iv.a1 i11 e14 rfl
      have k16 : K_X10_taps s0 s13 := Kx.u1 k12 e14 rfl
      refine And.intro ⟨by omega, by omega⟩ ?_
      intro s17 e18
      have i19 : Iv s17 := Iv.a1 i15 e18 rfl
      have k20 : K_X10_taps s0 s17 := Kx.u1 k16 e18 rfl
      refine And.intro ⟨by omega, by omega⟩ ?_
      intro s21 e22
      have i23 : Iv s21 := Iv.a1 i19 e22 rfl
      have k24 : K_X10_taps s0 s21 := Kx.u1 k20 e22 rfl
      refine And.intro ⟨by omega, by omega⟩ ?_
      intro s25 e26
      have i27 : Iv s25 := Iv.a1 i23 e26 rfl
      have k28 : K_X10_taps s0 s25 := Kx.u1 k24 e26 rfl
      intro s29 e30
      have i31 : Iv s29 := Iv.u1 i27 e30 rfl
      have k32 : K_X10_taps s0 s29 := Kx.u1 k28 e30 rfl
      show Iv s29 ∧ K_X10_taps s0 s29 ∧ (s29.1 16 1 = a5 ∧ s29.1 17 0 = a1 ∧ s29.1 17 1 = a2 ∧ s29.1 17 2 = a3 ∧ s29.1 17 3 = a4 ∧ s29.1 17 4 = a3 ∧ s29.1 17 5 = a2 ∧ s29.1 17 6 = a1)
      exact ⟨i31, k32, (vg_tell7 e2 e6 e10 e14 e18 e22 e26 e30)⟩
def o_X8_sumOf : List vg_I := [(0, .iconst 0, 1, 0, 0, 0, 0), (1, .istore_n 2, 1, 0, 0, 0, 0), (2, .aload_n 0, 1, 0, 0, 0, 0), (3, .iload_n 1, 1, 0, 0, 0, 0), (4, .invokevirtual 32, 3, 0, 8, 1, 587), (7, .astore_n 3, 1, 0, 0, 0, 0), (8, .aload_n 3, 1, 0, 0, 0, 0), (9, .arraylength, 1, 0, 0, 0, 0), (10, .istore 4, 2, 0, 0, 0, 0), (12, .iconst 0, 1, 0, 0, 0, 0), (13, .istore 5, 2, 0, 0, 0, 0), (15, .iload 5, 2, 0, 0, 0, 0), (17, .iload 4, 2, 0, 0, 0, 0), (19, .if_icmp .ge 20, 3, 0, 0, 0, 0), (22, .aload_n 3, 1, 0, 0, 0, 0), (23, .iload 5, 2, 0, 0, 0, 0), (25, .iaload, 1, 0, 0, 0, 0), (26, .istore 6, 2, 0, 0, 0, 0), (28, .iload_n 2, 1, 0, 0, 0, 0), (29, .iload 6, 2, 0, 0, 0, 0), (31, .iadd, 1, 0, 0, 0, 0), (32, .istore_n 2, 1, 0, 0, 0, 0), (33, .iinc 5 1, 3, 0, 0, 0, 0), (36, .goto (-21), 3, 0, 0, 0, 0), (39, .iload_n 2, 1, 0, 0, 0, 0), (40, .ireturn, 1, 0, 0, 0, 0)]
set_option maxRecDepth 100000 in
set_option maxHeartbeats 4000000 in
theorem c_X8_sumOf (l : Launch) (G : vg_G) (hp : vg_Hp G) : vg_Ct l G vg_sh r_X8_sumOf := by
  refine vg_meth hp vg_sh_ok r_X8_sumOf k_X8_sumOf rfl (fun h => by cases h) o_X8_sumOf [r_X8_rowOf] false (by decide +kernel) (by decide +kernel) ⟨_, _, rfl, rfl⟩ (List.forall_mem_cons.mpr ⟨⟨c_X8_rowOf l G hp, Nat.le_of_ble_eq_true rfl, Nat.le_of_ble_eq_true rfl⟩, fun _ h => absurd h List.not_mem_nil⟩) (fun h => by cases h) 600 ?_
  intro as s0 hpre
  obtain ⟨r, a1, rfl, hr, i0⟩ := hpre
  simp only [List.mem_cons, List.not_mem_nil, or_false] at hr
  rcases hr with rfl
  ·
    have z0 : (Int32.ofInt 0).toInt = 0 := by decide
    have z1 : (Int32.ofInt 1).toInt = 1 := by decide
    have n3 : (Int32.ofNat 3).toInt = 3 := by decide
    have n7 : (Int32.ofNat 7).toInt = 7 := by decide
    have n11 : (Int32.ofNat 11).toInt = 11 := by decide
    refine ⟨Nat.le_of_ble_eq_true rfl, [(15, [false, false, true, true, true, true, false], (fun L t => ∃ (x2 : Int32) (x3 : Nat) (x4 : Int32) (x5 : Int32), L = [none, none, some (.int x2), some (.ref x3), some (.int x4), some (.int x5), none] ∧ x3 ∈ ([100, 101, 102, 17] : List Nat) ∧ (3 : Int) ≤ x4.toInt ∧ x4.toInt ≤ (11 : Int) ∧ (0 : Int) ≤ x5.toInt ∧ x5.toInt ≤ (11 : Int) ∧ ((x3 = 100 → x4.toInt = 3 ∧ a1.toInt = 0) ∧ (x3 = 101 → x4.toInt = 7 ∧ a1.toInt = 1) ∧ (x3 = 102 → x4.toInt = 11 ∧ a1.toInt = 2) ∧ (x3 = 17 → x4.toInt = 7 ∧ ¬ a1.toInt = 0 ∧ ¬ a1.toInt = 1 ∧ ¬ a1.toInt = 2) ∧ x5.toInt ≤ x4.toInt ∧ x2 = vg_rs (vg_rw s0 x3) x5.toNatClampNeg) ∧ t = s0), (fun L _ => (11 - (vg_li L 5).toInt).toNat))], ?_, List.forall_mem_cons.mpr ⟨?_, fun _ h => absurd h List.not_mem_nil⟩⟩
    ·
      refine And.intro (Nat.le_of_ble_eq_true rfl) (And.intro ⟨16, a1, rfl, by decide, i0⟩ ?_)
      refine And.intro ?_ ?_
      ·
        intro s2 h1
        have h1 : s2 = s0 ∧ ((a1.toInt = 0 ∧ 100 = 100) ∨ (a1.toInt = 1 ∧ 100 = 101) ∨ (a1.toInt = 2 ∧ 100 = 102) ∨ (¬ a1.toInt = 0 ∧ ¬ a1.toInt = 1 ∧ ¬ a1.toInt = 2 ∧ 100 = 17)) := h1
        have q5 := h1.1.symm
        subst q5
        have q6 := h1.2
        exact ⟨rfl, ⟨(Int32.ofInt 0), 100, (Int32.ofNat 3), (Int32.ofInt 0), rfl, (by decide), (by omega), (by omega), (by omega), (by omega), (by first | exact ⟨by omega, by omega, by omega, by omega, by omega, rfl⟩ | exact ⟨by omega, by omega, by omega, by omega, by omega, vg_rs_step None.2.2.2.2.2 None None (by omega) (by omega)⟩), rfl⟩, trivial⟩
      refine And.intro ?_ ?_
      ·
        intro s8 h7
        have h7 : s8 = s0 ∧ ((a1.toInt = 0 ∧ 101 = 100) ∨ (a1.toInt = 1 ∧ 101 = 101) ∨ (a1.toInt = 2 ∧ 101 = 102) ∨ (¬ a1.toInt = 0 ∧ ¬ a1.toInt = 1 ∧ ¬ a1.toInt = 2 ∧ 101 = 17)) := h7
        have q11 := h7.1.symm
        subst q11
        have q12 := h7.2
        exact ⟨rfl, ⟨(Int32.ofInt 0), 101, (Int32.ofNat 7), (Int32.ofInt 0), rfl, (by decide), (by omega), (by omega), (by omega), (by omega), (by first | exact ⟨by omega, by omega, by omega, by omega, by omega, rfl⟩ | exact ⟨by omega, by omega, by omega, by omega, by omega, vg_rs_step None.2.2.2.2.2 None None (by omega) (by omega)⟩), rfl⟩, trivial⟩
      refine And.intro ?_ ?_
      ·
        intro s14 h13
        have h13 : s14 = s0 ∧ ((a1.toInt = 0 ∧ 102 = 100) ∨ (a1.toInt = 1 ∧ 102 = 101) ∨ (a1.toInt = 2 ∧ 102 = 102) ∨ (¬ a1.toInt = 0 ∧ ¬ a1.toInt = 1 ∧ ¬ a1.toInt = 2 ∧ 102 = 17)) := h13
        have q17 := h13.1.symm
        subst q17
        have q18 := h13.2
        exact ⟨rfl, ⟨(Int32.ofInt 0), 102, (Int32.ofNat 11), (Int32.ofInt 0), rfl, (by decide), (by omega), (by omega), (by omega), (by omega), (by first | exact ⟨by omega, by omega, by omega, by omega, by omega, rfl⟩ | exact ⟨by omega, by omega, by omega, by omega, by omega, vg_rs_step None.2.2.2.2.2 None None (by omega) (by omega)⟩), rfl⟩, trivial⟩
      refine And.intro ?_ ?_
      ·
        intro s20 h19
        have h19 : s20 = s0 ∧ ((a1.toInt = 0 ∧ 17 = 100) ∨ (a1.toInt = 1 ∧ 17 = 101) ∨ (a1.toInt = 2 ∧ 17 = 102) ∨ (¬ a1.toInt = 0 ∧ ¬ a1.toInt = 1 ∧ ¬ a1.toInt = 2 ∧ 17 = 17)) := h19
        have q23 := h19.1.symm
        subst q23
        have q24 := h19.2
        exact ⟨rfl, ⟨(Int32.ofInt 0), 17, (Int32.ofNat 7), (Int32.ofInt 0), rfl, (by decide), (by omega), (by omega), (by omega), (by omega), (by first | exact ⟨by omega, by omega, by omega, by omega, by omega, rfl⟩ | exact ⟨by omega, by omega, by omega, by omega, by omega, vg_rs_step None.2.2.2.2.2 None None (by omega) (by omega)⟩), rfl⟩, trivial⟩
      exact trivial
    ·
      intro L s35 hL
      obtain ⟨w25, p26, w28, w31, rfl, h27, b29, b30, b32, b33, x34, q38⟩ := hL
      have q38 := q38.symm
      subst q38
      simp only [List.mem_cons, List.not_mem_nil, or_false] at h27
      rcases h27 with rfl | rfl | rfl | rfl
      ·
        refine And.intro (fun c39 => ?_) (fun c39 => ?_)
        · have c39 : w28.toInt ≤ w31.toInt := c39
          show s0 = s0 ∧ ((a1.toInt = 3 → w25 = vg_rs (s0.1 17) 7) ∧ (a1.toInt = 0 → w25.toInt = 4) ∧ (a1.toInt = 1 → w25.toInt = 32) ∧ (a1.toInt = 2 → w25.toInt = 512))
          exact ⟨rfl, (by have h9 := x34.2.2.2.2.2; first | (have h8 := vg_rs_at (n := 3) h9 (by omega); exact ⟨fun h => absurd h (by omega), fun _ => (by rw [h8]; show (vg_rs (fun j => ([1, 2, 1] : List Int32).getD j 0) 3).toInt = 4; decide), fun h => absurd h (by omega), fun h => absurd h (by omega)⟩) | (have h8 := vg_rs_at (n := 7) h9 (by omega); exact ⟨fun h => absurd h (by omega), fun h => absurd h (by omega), fun _ => (by rw [h8]; show (vg_rs (fun j => ([-1, 0, 9, 16, 9, 0, -1] : List Int32).getD j 0) 7).toInt = 32; decide), fun h => absurd h (by omega)⟩) | (have h8 := vg_rs_at (n := 11) h9 (by omega); exact ⟨fun h => absurd h (by omega), fun h => absurd h (by omega), fun h => absurd h (by omega), fun _ => (by rw [h8]; show (vg_rs (fun j => ([3, 0, -25, 0, 150, 256, 150, 0, -25, 0, 3] : List Int32).getD j 0) 11).toInt = 512; decide)⟩) | (have h8 := vg_rs_at (n := 7) h9 (by omega); exact ⟨fun _ => h8, fun h => absurd h (by omega), fun h => absurd h (by omega), fun h => absurd h (by omega)⟩))⟩
        · have c39 : ¬ (w28.toInt ≤ w31.toInt) := c39
          refine And.intro ⟨by omega, by omega⟩ ?_
          intro v40 e41
          intro v42 e43
          intro v44 e45
          have b46 := vg_add e45 (by omega) (by omega)
          exact ⟨rfl, ⟨v42, 100, w28, v44, rfl, (by decide), (by omega), (by omega), (by omega), (by omega), (by first | exact ⟨by omega, by omega, by omega, by omega, by omega, rfl⟩ | exact ⟨by omega, by omega, by omega, by omega, by omega, vg_rs_step x34.2.2.2.2.2 e41 e43 (by omega) (by omega)⟩), rfl⟩, (by show (11 - v44.toInt).toNat < (11 - w31.toInt).toNat; omega)⟩
      ·
        refine And.intro (fun c47 => ?_) (fun c47 => ?_)
        · have c47 : w28.toInt ≤ w31.toInt := c47
          show s0 = s0 ∧ ((a1.toInt = 3 → w25 = vg_rs (s0.1 17) 7) ∧ (a1.toInt = 0 → w25.toInt = 4) ∧ (a1.toInt = 1 → w25.toInt = 32) ∧ (a1.toInt = 2 → w25.toInt = 512))
          exact ⟨rfl, (by have h9 := x34.2.2.2.2.2; first | (have h8 := vg_rs_at (n := 3) h9 (by omega); exact ⟨fun h => absurd h (by omega), fun _ => (by rw [h8]; show (vg_rs (fun j => ([1, 2, 1] : List Int32).getD j 0) 3).toInt = 4; decide), fun h => absurd h (by omega), fun h => absurd h (by omega)⟩) | (have h8 := vg_rs_at (n := 7) h9 (by omega); exact ⟨fun h => absurd h (by omega), fun h => absurd h (by omega), fun _ => (by rw [h8]; show (vg_rs (fun j => ([-1, 0, 9, 16, 9, 0, -1] : List Int32).getD j 0) 7).toInt = 32; decide), fun h => absurd h (by omega)⟩) | (have h8 := vg_rs_at (n := 11) h9 (by omega); exact ⟨fun h => absurd h (by omega), fun h => absurd h (by omega), fun h => absurd h (by omega), fun _ => (by rw [h8]; show (vg_rs (fun j => ([3, 0, -25, 0, 150, 256, 150, 0, -25, 0, 3] : List Int32).getD j 0) 11).toInt = 512; decide)⟩) | (have h8 := vg_rs_at (n := 7) h9 (by omega); exact ⟨fun _ => h8, fun h => absurd h (by omega), fun h => absurd h (by omega), fun h => absurd h (by omega)⟩))⟩
        · have c47 : ¬ (w28.toInt ≤ w31.toInt) := c47
          refine And.intro ⟨by omega, by omega⟩ ?_
          intro v48 e49
          intro v50 e51
          intro v52 e53
          have b54 := vg_add e53 (by omega) (by omega)
          exact ⟨rfl, ⟨v50, 101, w28, v52, rfl, (by decide), (by omega), (by omega), (by omega), (by omega), (by first | exact ⟨by omega, by omega, by omega, by omega, by omega, rfl⟩ | exact ⟨by omega, by omega, by omega, by omega, by omega, vg_rs_step x34.2.2.2.2.2 e49 e51 (by omega) (by omega)⟩), rfl⟩, (by show (11 - v52.toInt).toNat < (11 - w31.toInt).toNat; omega)⟩
      ·
        refine And.intro (fun c55 => ?_) (fun c55 => ?_)
        · have c55 : w28.toInt ≤ w31.toInt := c55
          show s0 = s0 ∧ ((a1.toInt = 3 → w25 = vg_rs (s0.1 17) 7) ∧ (a1.toInt = 0 → w25.toInt = 4) ∧ (a1.toInt = 1 → w25.toInt = 32) ∧ (a1.toInt = 2 → w25.toInt = 512))
          exact ⟨rfl, (by have h9 := x34.2.2.2.2.2; first | (have h8 := vg_rs_at (n := 3) h9 (by omega); exact ⟨fun h => absurd h (by omega), fun _ => (by rw [h8]; show (vg_rs (fun j => ([1, 2, 1] : List Int32).getD j 0) 3).toInt = 4; decide), fun h => absurd h (by omega), fun h => absurd h (by omega)⟩) | (have h8 := vg_rs_at (n := 7) h9 (by omega); exact ⟨fun h => absurd h (by omega), fun h => absurd h (by omega), fun _ => (by rw [h8]; show (vg_rs (fun j => ([-1, 0, 9, 16, 9, 0, -1] : List Int32).getD j 0) 7).toInt = 32; decide), fun h => absurd h (by omega)⟩) | (have h8 := vg_rs_at (n := 11) h9 (by omega); exact ⟨fun h => absurd h (by omega), fun h => absurd h (by omega), fun h => absurd h (by omega), fun _ => (by rw [h8]; show (vg_rs (fun j => ([3, 0, -25, 0, 150, 256, 150, 0, -25, 0, 3] : List Int32).getD j 0) 11).toInt = 512; decide)⟩) | (have h8 := vg_rs_at (n := 7) h9 (by omega); exact ⟨fun _ => h8, fun h => absurd h (by omega), fun h => absurd h (by omega), fun h => absurd h (by omega)⟩))⟩
        · have c55 : ¬ (w28.toInt ≤ w31.toInt) := c55
          refine And.intro ⟨by omega, by omega⟩ ?_
          intro v56 e57
          intro v58 e59
          intro v60 e61
          have b62 := vg_add e61 (by omega) (by omega)
          exact ⟨rfl, ⟨v58, 102, w28, v60, rfl, (by decide), (by omega), (by omega), (by omega), (by omega), (by first | exact ⟨by omega, by omega, by omega, by omega, by omega, rfl⟩ | exact ⟨by omega, by omega, by omega, by omega, by omega, vg_rs_step x34.2.2.2.2.2 e57 e59 (by omega) (by omega)⟩), rfl⟩, (by show (11 - v60.toInt).toNat < (11 - w31.toInt).toNat; omega)⟩
      ·
        refine And.intro (fun c63 => ?_) (fun c63 => ?_)
        · have c63 : w28.toInt ≤ w31.toInt := c63
          show s0 = s0 ∧ ((a1.toInt = 3 → w25 = vg_rs (s0.1 17) 7) ∧ (a1.toInt = 0 → w25.toInt = 4) ∧ (a1.toInt = 1 → w25.toInt = 32) ∧ (a1.toInt = 2 → w25.toInt = 512))
          exact ⟨rfl, (by have h9 := x34.2.2.2.2.2; first | (have h8 := vg_rs_at (n := 3) h9 (by omega); exact ⟨fun h => absurd h (by omega), fun _ => (by rw [h8]; show (vg_rs (fun j => ([1, 2, 1] : List Int32).getD j 0) 3).toInt = 4; decide), fun h => absurd h (by omega), fun h => absurd h (by omega)⟩) | (have h8 := vg_rs_at (n := 7) h9 (by omega); exact ⟨fun h => absurd h (by omega), fun h => absurd h (by omega), fun _ => (by rw [h8]; show (vg_rs (fun j => ([-1, 0, 9, 16, 9, 0, -1] : List Int32).getD j 0) 7).toInt = 32; decide), fun h => absurd h (by omega)⟩) | (have h8 := vg_rs_at (n := 11) h9 (by omega); exact ⟨fun h => absurd h (by omega), fun h => absurd h (by omega), fun h => absurd h (by omega), fun _ => (by rw [h8]; show (vg_rs (fun j => ([3, 0, -25, 0, 150, 256, 150, 0, -25, 0, 3] : List Int32).getD j 0) 11).toInt = 512; decide)⟩) | (have h8 := vg_rs_at (n := 7) h9 (by omega); exact ⟨fun _ => h8, fun h => absurd h (by omega), fun h => absurd h (by omega), fun h => absurd h (by omega)⟩))⟩
        · have c63 : ¬ (w28.toInt ≤ w31.toInt) := c63
          refine And.intro ⟨by omega, by omega⟩ ?_
          intro v64 e65
          intro v66 e67
          intro v68 e69
          have b70 := vg_add e69 (by omega) (by omega)
          exact ⟨rfl, ⟨v66, 17, w28, v68, rfl, (by decide), (by omega), (by omega), (by omega), (by omega), (by first | exact ⟨by omega, by omega, by omega, by omega, by omega, rfl⟩ | exact ⟨by omega, by omega, by omega, by omega, by omega, vg_rs_step x34.2.2.2.2.2 e65 e67 (by omega) (by omega)⟩), rfl⟩, (by show (11 - v68.toInt).toNat < (11 - w31.toInt).toNat; omega)⟩
def o_X8_isHalfBand : List vg_I := [(0, .aload_n 0, 1, 0, 0, 0, 0), (1, .iload_n 1, 1, 0, 0, 0, 0), (2, .invokevirtual 32, 3, 0, 8, 1, 587), (5, .astore_n 2, 1, 0, 0, 0, 0), (6, .aload_n 2, 1, 0, 0, 0, 0), (7, .arraylength, 1, 0, 0, 0, 0), (8, .iconst 2, 1, 0, 0, 0, 0), (9, .idiv, 1, 0, 0, 0, 0), (10, .iconst 2, 1, 0, 0, 0, 0), (11, .iadd, 1, 0, 0, 0, 0), (12, .istore_n 3, 1, 0, 0, 0, 0), (13, .iload_n 3, 1, 0, 0, 0, 0), (14, .aload_n 2, 1, 0, 0, 0, 0), (15, .arraylength, 1, 0, 0, 0, 0), (16, .if_icmp .ge 17, 3, 0, 0, 0, 0), (19, .aload_n 2, 1, 0, 0, 0, 0), (20, .iload_n 3, 1, 0, 0, 0, 0), (21, .iaload, 1, 0, 0, 0, 0), (22, .ifCond .eq 5, 3, 0, 0, 0, 0), (25, .iconst 0, 1, 0, 0, 0, 0), (26, .ireturn, 1, 0, 0, 0, 1), (27, .iinc 3 2, 3, 0, 0, 0, 0), (30, .goto (-17), 3, 0, 0, 0, 0), (33, .iconst 1, 1, 0, 0, 0, 0), (34, .ireturn, 1, 0, 0, 0, 1)]
set_option maxRecDepth 100000 in
set_option maxHeartbeats 4000000 in
theorem c_X8_isHalfBand (l : Launch) (G : vg_G) (hp : vg_Hp G) : vg_Ct l G vg_sh r_X8_isHalfBand := by
  refine vg_meth hp vg_sh_ok r_X8_isHalfBand k_X8_isHalfBand rfl (fun h => by cases h) o_X8_isHalfBand [r_X8_rowOf] false (by decide +kernel) (by decide +kernel) ⟨_, _, rfl, rfl⟩ (List.forall_mem_cons.mpr ⟨⟨c_X8_rowOf l G hp, Nat.le_of_ble_eq_true rfl, Nat.le_of_ble_eq_true rfl⟩, fun _ h => absurd h List.not_mem_nil⟩) (fun h => by cases h) 600 ?_
  intro as s0 hpre
  obtain ⟨r, a1, rfl, hr, i0⟩ := hpre
  simp only [List.mem_cons, List.not_mem_nil, or_false] at hr
  rcases hr with rfl
  ·
    have z0 : (Int32.ofInt 0).toInt = 0 := by decide
    have z1 : (Int32.ofInt 1).toInt = 1 := by decide
    have z2 : (Int32.ofInt 2).toInt = 2 := by decide
    have n3 : (Int32.ofNat 3).toInt = 3 := by decide
    have n7 : (Int32.ofNat 7).toInt = 7 := by decide
    have n11 : (Int32.ofNat 11).toInt = 11 := by decide
    refine ⟨Nat.le_of_ble_eq_true rfl, [(13, [false, false, true, true], (fun L t => ∃ (x2 : Nat) (x3 : Int32), L = [none, none, some (.ref x2), some (.int x3)] ∧ x2 ∈ ([100, 101, 102, 17] : List Nat) ∧ (0 : Int) ≤ x3.toInt ∧ x3.toInt ≤ (13 : Int) ∧ ((x2 = 100 → x3.toInt = 3 ∧ a1.toInt = 0) ∧ (x2 = 101 → (x3.toInt = 5 ∨ x3.toInt = 7) ∧ a1.toInt = 1) ∧ (x2 = 102 → (x3.toInt = 7 ∨ x3.toInt = 9 ∨ x3.toInt = 11) ∧ a1.toInt = 2) ∧ (x2 = 17 → (x3.toInt = 5 ∨ (x3.toInt = 7 ∧ (s0.1 17 5).toInt = 0)) ∧ ¬ a1.toInt = 0 ∧ ¬ a1.toInt = 1 ∧ ¬ a1.toInt = 2)) ∧ t = s0), (fun L _ => (13 - (vg_li L 3).toInt).toNat))], ?_, List.forall_mem_cons.mpr ⟨?_, fun _ h => absurd h List.not_mem_nil⟩⟩
    ·
      refine And.intro (Nat.le_of_ble_eq_true rfl) (And.intro ⟨16, a1, rfl, by decide, i0⟩ ?_)
      refine And.intro ?_ ?_
      ·
        intro s2 h1
        have h1 : s2 = s0 ∧ ((a1.toInt = 0 ∧ 100 = 100) ∨ (a1.toInt = 1 ∧ 100 = 101) ∨ (a1.toInt = 2 ∧ 100 = 102) ∨ (¬ a1.toInt = 0 ∧ ¬ a1.toInt = 1 ∧ ¬ a1.toInt = 2 ∧ 100 = 17)) := h1
        have q5 := h1.1.symm
        subst q5
        have q6 := h1.2
        refine And.intro (by omega) ?_
        intro v7 e8
        have b9 : v7.toInt = (Int32.ofNat 3).toInt / 2 := by have h9 := vg_div e8 (by omega) (by omega); rw [z2] at h9; exact h9
        intro v10 e11
        have b12 := vg_add e11 (by omega) (by omega)
        exact ⟨rfl, ⟨100, v10, rfl, (by decide), (by omega), (by omega), ⟨by omega, by omega, by omega, by omega⟩, rfl⟩, trivial⟩
      refine And.intro ?_ ?_
      ·
        intro s14 h13
        have h13 : s14 = s0 ∧ ((a1.toInt = 0 ∧ 101 = 100) ∨ (a1.toInt = 1 ∧ 101 = 101) ∨ (a1.toInt = 2 ∧ 101 = 102) ∨ (¬ a1.toInt = 0 ∧ ¬ a1.toInt = 1 ∧ ¬ a1.toInt = 2 ∧ 101 = 17)) := h13
        have q17 := h13.1.symm
        subst q17
        have q18 := h13.2
        refine And.intro (by omega) ?_
        intro v19 e20
        have b21 : v19.toInt = (Int32.ofNat 7).toInt / 2 := by have h9 := vg_div e20 (by omega) (by omega); rw [z2] at h9; exact h9
        intro v22 e23
        have b24 := vg_add e23 (by omega) (by omega)
        exact ⟨rfl, ⟨101, v22, rfl, (by decide), (by omega), (by omega), ⟨by omega, by omega, by omega, by omega⟩, rfl⟩, trivial⟩
      refine And.intro ?_ ?_
      ·
        intro s26 h25
        have h25 : s26 = s0 ∧ ((a1.toInt = 0 ∧ 102 = 100) ∨ (a1.toInt = 1 ∧ 102 = 101) ∨ (a1.toInt = 2 ∧ 102 = 102) ∨ (¬ a1.toInt = 0 ∧ ¬ a1.toInt = 1 ∧ ¬ a1.toInt = 2 ∧ 102 = 17)) := h25
        have q29 := h25.1.symm
        subst q29
        have q30 := h25.2
        refine And.intro (by omega) ?_
        intro v31 e32
        have b33 : v31.toInt = (Int32.ofNat 11).toInt / 2 := by have h9 := vg_div e32 (by omega) (by omega); rw [z2] at h9; exact h9
        intro v34 e35
        have b36 := vg_add e35 (by omega) (by omega)
        exact ⟨rfl, ⟨102, v34, rfl, (by decide), (by omega), (by omega), ⟨by omega, by omega, by omega, by omega⟩, rfl⟩, trivial⟩
      refine And.intro ?_ ?_
      ·
        intro s38 h37
        have h37 : s38 = s0 ∧ ((a1.toInt = 0 ∧ 17 = 100) ∨ (a1.toInt = 1 ∧ 17 = 101) ∨ (a1.toInt = 2 ∧ 17 = 102) ∨ (¬ a1.toInt = 0 ∧ ¬ a1.toInt = 1 ∧ ¬ a1.toInt = 2 ∧ 17 = 17)) := h37
        have q41 := h37.1.symm
        subst q41
        have q42 := h37.2
        refine And.intro (by omega) ?_
        intro v43 e44
        have b45 : v43.toInt = (Int32.ofNat 7).toInt / 2 := by have h9 := vg_div e44 (by omega) (by omega); rw [z2] at h9; exact h9
        intro v46 e47
        have b48 := vg_add e47 (by omega) (by omega)
        exact ⟨rfl, ⟨17, v46, rfl, (by decide), (by omega), (by omega), ⟨by omega, by omega, by omega, by omega⟩, rfl⟩, trivial⟩
      exact trivial
    ·
      intro L s55 hL
      obtain ⟨p49, w51, rfl, h50, b52, b53, x54, q58⟩ := hL
      have q58 := q58.symm
      subst q58
      simp only [List.mem_cons, List.not_mem_nil, or_false] at h50
      rcases h50 with rfl | rfl | rfl | rfl
      ·
        refine And.intro (fun c59 => ?_) (fun c59 => ?_)
        · have c59 : (Int32.ofNat 3).toInt ≤ w51.toInt := c59
          refine And.intro (by first | exact Or.inl rfl | exact Or.inr rfl | exact vg_01 (by omega) (by omega)) ?_
          show s0 = s0 ∧ (0 ≤ (Int32.ofInt 1).toInt ∧ (Int32.ofInt 1).toInt ≤ 1 ∧ (a1.toInt = 3 → ((Int32.ofInt 1).toInt = 1 ∧ (s0.1 17 5).toInt = 0) ∨ ((Int32.ofInt 1).toInt = 0 ∧ ¬ (s0.1 17 5).toInt = 0)) ∧ ((a1.toInt = 0 ∨ a1.toInt = 1 ∨ a1.toInt = 2) → (Int32.ofInt 1).toInt = 1))
          exact ⟨rfl, (by first | omega | (have h8 := vg_hb5n None (by omega) c59; omega) | (have h8 := vg_hbl (g := fun j => ([-1, 0, 9, 16, 9, 0, -1] : List Int32).getD j 0) (n := 5) None (by omega) (show (([-1, 0, 9, 16, 9, 0, -1] : List Int32).getD 5 0).toInt = 0 by decide); omega) | (rcases (show w51.toInt = 7 ∨ w51.toInt = 9 by omega) with h7 | h7 <;> first | (have h8 := vg_hbl (g := fun j => ([3, 0, -25, 0, 150, 256, 150, 0, -25, 0, 3] : List Int32).getD j 0) (n := 7) None (by omega) (show (([3, 0, -25, 0, 150, 256, 150, 0, -25, 0, 3] : List Int32).getD 7 0).toInt = 0 by decide); omega) | (have h8 := vg_hbl (g := fun j => ([3, 0, -25, 0, 150, 256, 150, 0, -25, 0, 3] : List Int32).getD j 0) (n := 9) None (by omega) (show (([3, 0, -25, 0, 150, 256, 150, 0, -25, 0, 3] : List Int32).getD 9 0).toInt = 0 by decide); omega)))⟩
        · have c59 : ¬ ((Int32.ofNat 3).toInt ≤ w51.toInt) := c59
          refine And.intro ⟨by omega, by omega⟩ ?_
          intro v60 e61
          refine And.intro (fun c62 => ?_) (fun c62 => ?_)
          · have c62 : v60.toInt = 0 := c62
            have y0 : 100 = 17 → w51.toInt = 5 → (s0.1 17 5).toInt = 0 := by first | exact (fun _ h9 => vg_hb5 e61 h9 c62) | (intro h9; exact absurd h9 (by decide))
            intro v63 e64
            have b65 := vg_add e64 (by omega) (by omega)
            exact ⟨rfl, ⟨100, v63, rfl, (by decide), (by omega), (by omega), ⟨by omega, by omega, by omega, by omega⟩, rfl⟩, (by show (13 - v63.toInt).toNat < (13 - w51.toInt).toNat; omega)⟩
          · have c62 : ¬ (v60.toInt = 0) := c62
            refine And.intro (by first | exact Or.inl rfl | exact Or.inr rfl | exact vg_01 (by omega) (by omega)) ?_
            show s0 = s0 ∧ (0 ≤ (Int32.ofInt 0).toInt ∧ (Int32.ofInt 0).toInt ≤ 1 ∧ (a1.toInt = 3 → ((Int32.ofInt 0).toInt = 1 ∧ (s0.1 17 5).toInt = 0) ∨ ((Int32.ofInt 0).toInt = 0 ∧ ¬ (s0.1 17 5).toInt = 0)) ∧ ((a1.toInt = 0 ∨ a1.toInt = 1 ∨ a1.toInt = 2) → (Int32.ofInt 0).toInt = 1))
            exact ⟨rfl, (by first | omega | (have h8 := vg_hb5n e61 (by omega) c62; omega) | (have h8 := vg_hbl (g := fun j => ([-1, 0, 9, 16, 9, 0, -1] : List Int32).getD j 0) (n := 5) e61 (by omega) (show (([-1, 0, 9, 16, 9, 0, -1] : List Int32).getD 5 0).toInt = 0 by decide); omega) | (rcases (show w51.toInt = 7 ∨ w51.toInt = 9 by omega) with h7 | h7 <;> first | (have h8 := vg_hbl (g := fun j => ([3, 0, -25, 0, 150, 256, 150, 0, -25, 0, 3] : List Int32).getD j 0) (n := 7) e61 (by omega) (show (([3, 0, -25, 0, 150, 256, 150, 0, -25, 0, 3] : List Int32).getD 7 0).toInt = 0 by decide); omega) | (have h8 := vg_hbl (g := fun j => ([3, 0, -25, 0, 150, 256, 150, 0, -25, 0, 3] : List Int32).getD j 0) (n := 9) e61 (by omega) (show (([3, 0, -25, 0, 150, 256, 150, 0, -25, 0, 3] : List Int32).getD 9 0).toInt = 0 by decide); omega)))⟩
      ·
        refine And.intro (fun c66 => ?_) (fun c66 => ?_)
        · have c66 : (Int32.ofNat 7).toInt ≤ w51.toInt := c66
          refine And.intro (by first | exact Or.inl rfl | exact Or.inr rfl | exact vg_01 (by omega) (by omega)) ?_
          show s0 = s0 ∧ (0 ≤ (Int32.ofInt 1).toInt ∧ (Int32.ofInt 1).toInt ≤ 1 ∧ (a1.toInt = 3 → ((Int32.ofInt 1).toInt = 1 ∧ (s0.1 17 5).toInt = 0) ∨ ((Int32.ofInt 1).toInt = 0 ∧ ¬ (s0.1 17 5).toInt = 0)) ∧ ((a1.toInt = 0 ∨ a1.toInt = 1 ∨ a1.toInt = 2) → (Int32.ofInt 1).toInt = 1))
          exact ⟨rfl, (by first | omega | (have h8 := vg_hb5n None (by omega) c66; omega) | (have h8 := vg_hbl (g := fun j => ([-1, 0, 9, 16, 9, 0, -1] : List Int32).getD j 0) (n := 5) None (by omega) (show (([-1, 0, 9, 16, 9, 0, -1] : List Int32).getD 5 0).toInt = 0 by decide); omega) | (rcases (show w51.toInt = 7 ∨ w51.toInt = 9 by omega) with h7 | h7 <;> first | (have h8 := vg_hbl (g := fun j => ([3, 0, -25, 0, 150, 256, 150, 0, -25, 0, 3] : List Int32).getD j 0) (n := 7) None (by omega) (show (([3, 0, -25, 0, 150, 256, 150, 0, -25, 0, 3] : List Int32).getD 7 0).toInt = 0 by decide); omega) | (have h8 := vg_hbl (g := fun j => ([3, 0, -25, 0, 150, 256, 150, 0, -25, 0, 3] : List Int32).getD j 0) (n := 9) None (by omega) (show (([3, 0, -25, 0, 150, 256, 150, 0, -25, 0, 3] : List Int32).getD 9 0).toInt = 0 by decide); omega)))⟩
        · have c66 : ¬ ((Int32.ofNat 7).toInt ≤ w51.toInt) := c66
          refine And.intro ⟨by omega, by omega⟩ ?_
          intro v67 e68
          refine And.intro (fun c69 => ?_) (fun c69 => ?_)
          · have c69 : v67.toInt = 0 := c69
            have y0 : 101 = 17 → w51.toInt = 5 → (s0.1 17 5).toInt = 0 := by first | exact (fun _ h9 => vg_hb5 e68 h9 c69) | (intro h9; exact absurd h9 (by decide))
            intro v70 e71
            have b72 := vg_add e71 (by omega) (by omega)
            exact ⟨rfl, ⟨101, v70, rfl, (by decide), (by omega), (by omega), ⟨by omega, by omega, by omega, by omega⟩, rfl⟩, (by show (13 - v70.toInt).toNat < (13 - w51.toInt).toNat; omega)⟩
          · have c69 : ¬ (v67.toInt = 0) := c69
            refine And.intro (by first | exact Or.inl rfl | exact Or.inr rfl | exact vg_01 (by omega) (by omega)) ?_
            show s0 = s0 ∧ (0 ≤ (Int32.ofInt 0).toInt ∧ (Int32.ofInt 0).toInt ≤ 1 ∧ (a1.toInt = 3 → ((Int32.ofInt 0).toInt = 1 ∧ (s0.1 17 5).toInt = 0) ∨ ((Int32.ofInt 0).toInt = 0 ∧ ¬ (s0.1 17 5).toInt = 0)) ∧ ((a1.toInt = 0 ∨ a1.toInt = 1 ∨ a1.toInt = 2) → (Int32.ofInt 0).toInt = 1))
            exact ⟨rfl, (by first | omega | (have h8 := vg_hb5n e68 (by omega) c69; omega) | (have h8 := vg_hbl (g := fun j => ([-1, 0, 9, 16, 9, 0, -1] : List Int32).getD j 0) (n := 5) e68 (by omega) (show (([-1, 0, 9, 16, 9, 0, -1] : List Int32).getD 5 0).toInt = 0 by decide); omega) | (rcases (show w51.toInt = 7 ∨ w51.toInt = 9 by omega) with h7 | h7 <;> first | (have h8 := vg_hbl (g := fun j => ([3, 0, -25, 0, 150, 256, 150, 0, -25, 0, 3] : List Int32).getD j 0) (n := 7) e68 (by omega) (show (([3, 0, -25, 0, 150, 256, 150, 0, -25, 0, 3] : List Int32).getD 7 0).toInt = 0 by decide); omega) | (have h8 := vg_hbl (g := fun j => ([3, 0, -25, 0, 150, 256, 150, 0, -25, 0, 3] : List Int32).getD j 0) (n := 9) e68 (by omega) (show (([3, 0, -25, 0, 150, 256, 150, 0, -25, 0, 3] : List Int32).getD 9 0).toInt = 0 by decide); omega)))⟩
      ·
        refine And.intro (fun c73 => ?_) (fun c73 => ?_)
        · have c73 : (Int32.ofNat 11).toInt ≤ w51.toInt := c73
          refine And.intro (by first | exact Or.inl rfl | exact Or.inr rfl | exact vg_01 (by omega) (by omega)) ?_
          show s0 = s0 ∧ (0 ≤ (Int32.ofInt 1).toInt ∧ (Int32.ofInt 1).toInt ≤ 1 ∧ (a1.toInt = 3 → ((Int32.ofInt 1).toInt = 1 ∧ (s0.1 17 5).toInt = 0) ∨ ((Int32.ofInt 1).toInt = 0 ∧ ¬ (s0.1 17 5).toInt = 0)) ∧ ((a1.toInt = 0 ∨ a1.toInt = 1 ∨ a1.toInt = 2) → (Int32.ofInt 1).toInt = 1))
          exact ⟨rfl, (by first | omega | (have h8 := vg_hb5n None (by omega) c73; omega) | (have h8 := vg_hbl (g := fun j => ([-1, 0, 9, 16, 9, 0, -1] : List Int32).getD j 0) (n := 5) None (by omega) (show (([-1, 0, 9, 16, 9, 0, -1] : List Int32).getD 5 0).toInt = 0 by decide); omega) | (rcases (show w51.toInt = 7 ∨ w51.toInt = 9 by omega) with h7 | h7 <;> first | (have h8 := vg_hbl (g := fun j => ([3, 0, -25, 0, 150, 256, 150, 0, -25, 0, 3] : List Int32).getD j 0) (n := 7) None (by omega) (show (([3, 0, -25, 0, 150, 256, 150, 0, -25, 0, 3] : List Int32).getD 7 0).toInt = 0 by decide); omega) | (have h8 := vg_hbl (g := fun j => ([3, 0, -25, 0, 150, 256, 150, 0, -25, 0, 3] : List Int32).getD j 0) (n := 9) None (by omega) (show (([3, 0, -25, 0, 150, 256, 150, 0, -25, 0, 3] : List Int32).getD 9 0).toInt = 0 by decide); omega)))⟩
        · have c73 : ¬ ((Int32.ofNat 11).toInt ≤ w51.toInt) := c73
          refine And.intro ⟨by omega, by omega⟩ ?_
          intro v74 e75
          refine And.intro (fun c76 => ?_) (fun c76 => ?_)
          · have c76 : v74.toInt = 0 := c76
            have y0 : 102 = 17 → w51.toInt = 5 → (s0.1 17 5).toInt = 0 := by first | exact (fun _ h9 => vg_hb5 e75 h9 c76) | (intro h9; exact absurd h9 (by decide))
            intro v77 e78
            have b79 := vg_add e78 (by omega) (by omega)
            exact ⟨rfl, ⟨102, v77, rfl, (by decide), (by omega), (by omega), ⟨by omega, by omega, by omega, by omega⟩, rfl⟩, (by show (13 - v77.toInt).toNat < (13 - w51.toInt).toNat; omega)⟩
          · have c76 : ¬ (v74.toInt = 0) := c76
            refine And.intro (by first | exact Or.inl rfl | exact Or.inr rfl | exact vg_01 (by omega) (by omega)) ?_
            show s0 = s0 ∧ (0 ≤ (Int32.ofInt 0).toInt ∧ (Int32.ofInt 0).toInt ≤ 1 ∧ (a1.toInt = 3 → ((Int32.ofInt 0).toInt = 1 ∧ (s0.1 17 5).toInt = 0) ∨ ((Int32.ofInt 0).toInt = 0 ∧ ¬ (s0.1 17 5).toInt = 0)) ∧ ((a1.toInt = 0 ∨ a1.toInt = 1 ∨ a1.toInt = 2) → (Int32.ofInt 0).toInt = 1))
            exact ⟨rfl, (by first | omega | (have h8 := vg_hb5n e75 (by omega) c76; omega) | (have h8 := vg_hbl (g := fun j => ([-1, 0, 9, 16, 9, 0, -1] : List Int32).getD j 0) (n := 5) e75 (by omega) (show (([-1, 0, 9, 16, 9, 0, -1] : List Int32).getD 5 0).toInt = 0 by decide); omega) | (rcases (show w51.toInt = 7 ∨ w51.toInt = 9 by omega) with h7 | h7 <;> first | (have h8 := vg_hbl (g := fun j => ([3, 0, -25, 0, 150, 256, 150, 0, -25, 0, 3] : List Int32).getD j 0) (n := 7) e75 (by omega) (show (([3, 0, -25, 0, 150, 256, 150, 0, -25, 0, 3] : List Int32).getD 7 0).toInt = 0 by decide); omega) | (have h8 := vg_hbl (g := fun j => ([3, 0, -25, 0, 150, 256, 150, 0, -25, 0, 3] : List Int32).getD j 0) (n := 9) e75 (by omega) (show (([3, 0, -25, 0, 150, 256, 150, 0, -25, 0, 3] : List Int32).getD 9 0).toInt = 0 by decide); omega)))⟩
      ·
        refine And.intro (fun c80 => ?_) (fun c80 => ?_)
        · have c80 : (Int32.ofNat 7).toInt ≤ w51.toInt := c80
          refine And.intro (by first | exact Or.inl rfl | exact Or.inr rfl | exact vg_01 (by omega) (by omega)) ?_
          show s0 = s0 ∧ (0 ≤ (Int32.ofInt 1).toInt ∧ (Int32.ofInt 1).toInt ≤ 1 ∧ (a1.toInt = 3 → ((Int32.ofInt 1).toInt = 1 ∧ (s0.1 17 5).toInt = 0) ∨ ((Int32.ofInt 1).toInt = 0 ∧ ¬ (s0.1 17 5).toInt = 0)) ∧ ((a1.toInt = 0 ∨ a1.toInt = 1 ∨ a1.toInt = 2) → (Int32.ofInt 1).toInt = 1))
          exact ⟨rfl, (by first | omega | (have h8 := vg_hb5n None (by omega) c80; omega) | (have h8 := vg_hbl (g := fun j => ([-1, 0, 9, 16, 9, 0, -1] : List Int32).getD j 0) (n := 5) None (by omega) (show (([-1, 0, 9, 16, 9, 0, -1] : List Int32).getD 5 0).toInt = 0 by decide); omega) | (rcases (show w51.toInt = 7 ∨ w51.toInt = 9 by omega) with h7 | h7 <;> first | (have h8 := vg_hbl (g := fun j => ([3, 0, -25, 0, 150, 256, 150, 0, -25, 0, 3] : List Int32).getD j 0) (n := 7) None (by omega) (show (([3, 0, -25, 0, 150, 256, 150, 0, -25, 0, 3] : List Int32).getD 7 0).toInt = 0 by decide); omega) | (have h8 := vg_hbl (g := fun j => ([3, 0, -25, 0, 150, 256, 150, 0, -25, 0, 3] : List Int32).getD j 0) (n := 9) None (by omega) (show (([3, 0, -25, 0, 150, 256, 150, 0, -25, 0, 3] : List Int32).getD 9 0).toInt = 0 by decide); omega)))⟩
        · have c80 : ¬ ((Int32.ofNat 7).toInt ≤ w51.toInt) := c80
          refine And.intro ⟨by omega, by omega⟩ ?_
          intro v81 e82
          refine And.intro (fun c83 => ?_) (fun c83 => ?_)
          · have c83 : v81.toInt = 0 := c83
            have y0 : 17 = 17 → w51.toInt = 5 → (s0.1 17 5).toInt = 0 := by first | exact (fun _ h9 => vg_hb5 e82 h9 c83) | (intro h9; exact absurd h9 (by decide))
            intro v84 e85
            have b86 := vg_add e85 (by omega) (by omega)
            exact ⟨rfl, ⟨17, v84, rfl, (by decide), (by omega), (by omega), ⟨by omega, by omega, by omega, by omega⟩, rfl⟩, (by show (13 - v84.toInt).toNat < (13 - w51.toInt).toNat; omega)⟩
          · have c83 : ¬ (v81.toInt = 0) := c83
            refine And.intro (by first | exact Or.inl rfl | exact Or.inr rfl | exact vg_01 (by omega) (by omega)) ?_
            show s0 = s0 ∧ (0 ≤ (Int32.ofInt 0).toInt ∧ (Int32.ofInt 0).toInt ≤ 1 ∧ (a1.toInt = 3 → ((Int32.ofInt 0).toInt = 1 ∧ (s0.1 17 5).toInt = 0) ∨ ((Int32.ofInt 0).toInt = 0 ∧ ¬ (s0.1 17 5).toInt = 0)) ∧ ((a1.toInt = 0 ∨ a1.toInt = 1 ∨ a1.toInt = 2) → (Int32.ofInt 0).toInt = 1))
            exact ⟨rfl, (by first | omega | (have h8 := vg_hb5n e82 (by omega) c83; omega) | (have h8 := vg_hbl (g := fun j => ([-1, 0, 9, 16, 9, 0, -1] : List Int32).getD j 0) (n := 5) e82 (by omega) (show (([-1, 0, 9, 16, 9, 0, -1] : List Int32).getD 5 0).toInt = 0 by decide); omega) | (rcases (show w51.toInt = 7 ∨ w51.toInt = 9 by omega) with h7 | h7 <;> first | (have h8 := vg_hbl (g := fun j => ([3, 0, -25, 0, 150, 256, 150, 0, -25, 0, 3] : List Int32).getD j 0) (n := 7) e82 (by omega) (show (([3, 0, -25, 0, 150, 256, 150, 0, -25, 0, 3] : List Int32).getD 7 0).toInt = 0 by decide); omega) | (have h8 := vg_hbl (g := fun j => ([3, 0, -25, 0, 150, 256, 150, 0, -25, 0, 3] : List Int32).getD j 0) (n := 9) e82 (by omega) (show (([3, 0, -25, 0, 150, 256, 150, 0, -25, 0, 3] : List Int32).getD 9 0).toInt = 0 by decide); omega)))⟩
def o_X8_manyOf : List vg_I := [(0, .aload_n 0, 1, 0, 0, 0, 0), (1, .iload_n 1, 1, 0, 0, 0, 0), (2, .invokevirtual 32, 3, 0, 8, 1, 587), (5, .astore_n 3, 1, 0, 0, 0, 0), (6, .iconst 0, 1, 0, 0, 0, 0), (7, .istore 4, 2, 0, 0, 0, 0), (9, .iconst 0, 1, 0, 0, 0, 0), (10, .istore 5, 2, 0, 0, 0, 0), (12, .iload 5, 2, 0, 0, 0, 0), (14, .iload_n 2, 1, 0, 0, 0, 0), (15, .if_icmp .ge 26, 3, 0, 0, 0, 0), (18, .iload 5, 2, 0, 0, 0, 0), (20, .aload_n 3, 1, 0, 0, 0, 0), (21, .arraylength, 1, 0, 0, 0, 0), (22, .if_icmp .ge 19, 3, 0, 0, 0, 0), (25, .aload_n 3, 1, 0, 0, 0, 0), (26, .iload 5, 2, 0, 0, 0, 0), (28, .iaload, 1, 0, 0, 0, 0), (29, .ifCond .eq 6, 3, 0, 0, 0, 0), (32, .iinc 4 1, 3, 0, 0, 0, 0), (35, .iinc 5 1, 3, 0, 0, 0, 0), (38, .goto (-26), 3, 0, 0, 0, 0), (41, .iload 4, 2, 0, 0, 0, 0), (43, .ireturn, 1, 0, 0, 0, 0)]
set_option maxRecDepth 100000 in
set_option maxHeartbeats 4000000 in
theorem c_X8_manyOf (l : Launch) (G : vg_G) (hp : vg_Hp G) : vg_Ct l G vg_sh r_X8_manyOf := by
  refine vg_meth hp vg_sh_ok r_X8_manyOf k_X8_manyOf rfl (fun h => by cases h) o_X8_manyOf [r_X8_rowOf] false (by decide +kernel) (by decide +kernel) ⟨_, _, rfl, rfl⟩ (List.forall_mem_cons.mpr ⟨⟨c_X8_rowOf l G hp, Nat.le_of_ble_eq_true rfl, Nat.le_of_ble_eq_true rfl⟩, fun _ h => absurd h List.not_mem_nil⟩) (fun h => by cases h) 600 ?_
  intro as s0 hpre
  obtain ⟨r, a1, a2, rfl, hr, i0, p0⟩ := hpre
  simp only [List.mem_cons, List.not_mem_nil, or_false] at hr
  rcases hr with rfl
  ·
    have z0 : (Int32.ofInt 0).toInt = 0 := by decide
    have z1 : (Int32.ofInt 1).toInt = 1 := by decide
    have n3 : (Int32.ofNat 3).toInt = 3 := by decide
    have n7 : (Int32.ofNat 7).toInt = 7 := by decide
    have n11 : (Int32.ofNat 11).toInt = 11 := by decide
    refine ⟨Nat.le_of_ble_eq_true rfl, [(12, [false, false, true, true, true, true], (fun L t => ∃ (x3 : Nat) (x4 : Int32) (x5 : Int32), L = [none, none, some (.int a2), some (.ref x3), some (.int x4), some (.int x5)] ∧ x3 ∈ ([100, 101, 102, 17] : List Nat) ∧ (0 : Int) ≤ x5.toInt ∧ x5.toInt ≤ (11 : Int) ∧ ((x3 = 100 → x5.toInt ≤ 3 ∧ a1.toInt = 0) ∧ (x3 = 101 → x5.toInt ≤ 7 ∧ a1.toInt = 1) ∧ (x3 = 102 → x5.toInt ≤ 11 ∧ a1.toInt = 2) ∧ (x3 = 17 → x5.toInt ≤ 7 ∧ ¬ a1.toInt = 0 ∧ ¬ a1.toInt = 1 ∧ ¬ a1.toInt = 2) ∧ x5.toInt ≤ a2.toInt ∧ x4 = vg_cnt (vg_rw s0 x3) x5.toNatClampNeg) ∧ t = s0), (fun L _ => (11 - (vg_li L 5).toInt).toNat))], ?_, List.forall_mem_cons.mpr ⟨?_, fun _ h => absurd h List.not_mem_nil⟩⟩
    ·
      refine And.intro (Nat.le_of_ble_eq_true rfl) (And.intro ⟨16, a1, rfl, by decide, i0⟩ ?_)
      refine And.intro ?_ ?_
      ·
        intro s2 h1
        have h1 : s2 = s0 ∧ ((a1.toInt = 0 ∧ 100 = 100) ∨ (a1.toInt = 1 ∧ 100 = 101) ∨ (a1.toInt = 2 ∧ 100 = 102) ∨ (¬ a1.toInt = 0 ∧ ¬ a1.toInt = 1 ∧ ¬ a1.toInt = 2 ∧ 100 = 17)) := h1
        have q5 := h1.1.symm
        subst q5
        have q6 := h1.2
        exact ⟨rfl, ⟨100, (Int32.ofInt 0), (Int32.ofInt 0), rfl, (by decide), (by omega), (by omega), (by first | exact ⟨by omega, by omega, by omega, by omega, by omega, rfl⟩ | exact ⟨by omega, by omega, by omega, by omega, by omega, vg_cnt_s1 None.2.2.2.2.2 None None None (by omega) (by omega)⟩ | exact ⟨by omega, by omega, by omega, by omega, by omega, vg_cnt_s0 None.2.2.2.2.2 None None (by omega) (by omega)⟩), rfl⟩, trivial⟩
      refine And.intro ?_ ?_
      ·
        intro s8 h7
        have h7 : s8 = s0 ∧ ((a1.toInt = 0 ∧ 101 = 100) ∨ (a1.toInt = 1 ∧ 101 = 101) ∨ (a1.toInt = 2 ∧ 101 = 102) ∨ (¬ a1.toInt = 0 ∧ ¬ a1.toInt = 1 ∧ ¬ a1.toInt = 2 ∧ 101 = 17)) := h7
        have q11 := h7.1.symm
        subst q11
        have q12 := h7.2
        exact ⟨rfl, ⟨101, (Int32.ofInt 0), (Int32.ofInt 0), rfl, (by decide), (by omega), (by omega), (by first | exact ⟨by omega, by omega, by omega, by omega, by omega, rfl⟩ | exact ⟨by omega, by omega, by omega, by omega, by omega, vg_cnt_s1 None.2.2.2.2.2 None None None (by omega) (by omega)⟩ | exact ⟨by omega, by omega, by omega, by omega, by omega, vg_cnt_s0 None.2.2.2.2.2 None None (by omega) (by omega)⟩), rfl⟩, trivial⟩
      refine And.intro ?_ ?_
      ·
        intro s14 h13
        have h13 : s14 = s0 ∧ ((a1.toInt = 0 ∧ 102 = 100) ∨ (a1.toInt = 1 ∧ 102 = 101) ∨ (a1.toInt = 2 ∧ 102 = 102) ∨ (¬ a1.toInt = 0 ∧ ¬ a1.toInt = 1 ∧ ¬ a1.toInt = 2 ∧ 102 = 17)) := h13
        have q17 := h13.1.symm
        subst q17
        have q18 := h13.2
        exact ⟨rfl, ⟨102, (Int32.ofInt 0), (Int32.ofInt 0), rfl, (by decide), (by omega), (by omega), (by first | exact ⟨by omega, by omega, by omega, by omega, by omega, rfl⟩ | exact ⟨by omega, by omega, by omega, by omega, by omega, vg_cnt_s1 None.2.2.2.2.2 None None None (by omega) (by omega)⟩ | exact ⟨by omega, by omega, by omega, by omega, by omega, vg_cnt_s0 None.2.2.2.2.2 None None (by omega) (by omega)⟩), rfl⟩, trivial⟩
      refine And.intro ?_ ?_
      ·
        intro s20 h19
        have h19 : s20 = s0 ∧ ((a1.toInt = 0 ∧ 17 = 100) ∨ (a1.toInt = 1 ∧ 17 = 101) ∨ (a1.toInt = 2 ∧ 17 = 102) ∨ (¬ a1.toInt = 0 ∧ ¬ a1.toInt = 1 ∧ ¬ a1.toInt = 2 ∧ 17 = 17)) := h19
        have q23 := h19.1.symm
        subst q23
        have q24 := h19.2
        exact ⟨rfl, ⟨17, (Int32.ofInt 0), (Int32.ofInt 0), rfl, (by decide), (by omega), (by omega), (by first | exact ⟨by omega, by omega, by omega, by omega, by omega, rfl⟩ | exact ⟨by omega, by omega, by omega, by omega, by omega, vg_cnt_s1 None.2.2.2.2.2 None None None (by omega) (by omega)⟩ | exact ⟨by omega, by omega, by omega, by omega, by omega, vg_cnt_s0 None.2.2.2.2.2 None None (by omega) (by omega)⟩), rfl⟩, trivial⟩
      exact trivial
    ·
      intro L s32 hL
      obtain ⟨p25, w27, w28, rfl, h26, b29, b30, x31, q35⟩ := hL
      have q35 := q35.symm
      subst q35
      simp only [List.mem_cons, List.not_mem_nil, or_false] at h26
      rcases h26 with rfl | rfl | rfl | rfl
      ·
        refine And.intro (fun c36 => ?_) (fun c36 => ?_)
        · have c36 : a2.toInt ≤ w28.toInt := c36
          show s0 = s0 ∧ (w27 = vg_cnt (vg_rw s0 (vg_rp a1)) (min a2.toInt.toNat (vg_tn a1)))
          exact ⟨rfl, (by first | (rw [vg_rp_0 (by omega), vg_tn_0 (by omega)]; exact vg_cnt_to x31.2.2.2.2.2 (by omega)) | (rw [vg_rp_1 (by omega), vg_tn_x (by omega) (by omega)]; exact vg_cnt_to x31.2.2.2.2.2 (by omega)) | (rw [vg_rp_2 (by omega), vg_tn_2 (by omega)]; exact vg_cnt_to x31.2.2.2.2.2 (by omega)) | (rw [vg_rp_3 (by omega) (by omega) (by omega), vg_tn_x (by omega) (by omega)]; exact vg_cnt_to x31.2.2.2.2.2 (by omega)))⟩
        · have c36 : ¬ (a2.toInt ≤ w28.toInt) := c36
          refine And.intro (fun c37 => ?_) (fun c37 => ?_)
          · have c37 : (Int32.ofNat 3).toInt ≤ w28.toInt := c37
            show s0 = s0 ∧ (w27 = vg_cnt (vg_rw s0 (vg_rp a1)) (min a2.toInt.toNat (vg_tn a1)))
            exact ⟨rfl, (by first | (rw [vg_rp_0 (by omega), vg_tn_0 (by omega)]; exact vg_cnt_to x31.2.2.2.2.2 (by omega)) | (rw [vg_rp_1 (by omega), vg_tn_x (by omega) (by omega)]; exact vg_cnt_to x31.2.2.2.2.2 (by omega)) | (rw [vg_rp_2 (by omega), vg_tn_2 (by omega)]; exact vg_cnt_to x31.2.2.2.2.2 (by omega)) | (rw [vg_rp_3 (by omega) (by omega) (by omega), vg_tn_x (by omega) (by omega)]; exact vg_cnt_to x31.2.2.2.2.2 (by omega)))⟩
          · have c37 : ¬ ((Int32.ofNat 3).toInt ≤ w28.toInt) := c37
            refine And.intro ⟨by omega, by omega⟩ ?_
            intro v38 e39
            refine And.intro (fun c40 => ?_) (fun c40 => ?_)
            · have c40 : v38.toInt = 0 := c40
              intro v41 e42
              have b43 := vg_add e42 (by omega) (by omega)
              exact ⟨rfl, ⟨100, w27, v41, rfl, (by decide), (by omega), (by omega), (by first | exact ⟨by omega, by omega, by omega, by omega, by omega, rfl⟩ | exact ⟨by omega, by omega, by omega, by omega, by omega, vg_cnt_s1 x31.2.2.2.2.2 e39 c40 None (by omega) (by omega)⟩ | exact ⟨by omega, by omega, by omega, by omega, by omega, vg_cnt_s0 x31.2.2.2.2.2 e39 c40 (by omega) (by omega)⟩), rfl⟩, (by show (11 - v41.toInt).toNat < (11 - w28.toInt).toNat; omega)⟩
            · have c40 : ¬ (v38.toInt = 0) := c40
              intro v44 e45
              intro v46 e47
              have b48 := vg_add e47 (by omega) (by omega)
              exact ⟨rfl, ⟨100, v44, v46, rfl, (by decide), (by omega), (by omega), (by first | exact ⟨by omega, by omega, by omega, by omega, by omega, rfl⟩ | exact ⟨by omega, by omega, by omega, by omega, by omega, vg_cnt_s1 x31.2.2.2.2.2 e39 c40 e45 (by omega) (by omega)⟩ | exact ⟨by omega, by omega, by omega, by omega, by omega, vg_cnt_s0 x31.2.2.2.2.2 e39 c40 (by omega) (by omega)⟩), rfl⟩, (by show (11 - v46.toInt).toNat < (11 - w28.toInt).toNat; omega)⟩
      ·
        refine And.intro (fun c49 => ?_) (fun c49 => ?_)
        · have c49 : a2.toInt ≤ w28.toInt := c49
          show s0 = s0 ∧ (w27 = vg_cnt (vg_rw s0 (vg_rp a1)) (min a2.toInt.toNat (vg_tn a1)))
          exact ⟨rfl, (by first | (rw [vg_rp_0 (by omega), vg_tn_0 (by omega)]; exact vg_cnt_to x31.2.2.2.2.2 (by omega)) | (rw [vg_rp_1 (by omega), vg_tn_x (by omega) (by omega)]; exact vg_cnt_to x31.2.2.2.2.2 (by omega)) | (rw [vg_rp_2 (by omega), vg_tn_2 (by omega)]; exact vg_cnt_to x31.2.2.2.2.2 (by omega)) | (rw [vg_rp_3 (by omega) (by omega) (by omega), vg_tn_x (by omega) (by omega)]; exact vg_cnt_to x31.2.2.2.2.2 (by omega)))⟩
        · have c49 : ¬ (a2.toInt ≤ w28.toInt) := c49
          refine And.intro (fun c50 => ?_) (fun c50 => ?_)
          · have c50 : (Int32.ofNat 7).toInt ≤ w28.toInt := c50
            show s0 = s0 ∧ (w27 = vg_cnt (vg_rw s0 (vg_rp a1)) (min a2.toInt.toNat (vg_tn a1)))
            exact ⟨rfl, (by first | (rw [vg_rp_0 (by omega), vg_tn_0 (by omega)]; exact vg_cnt_to x31.2.2.2.2.2 (by omega)) | (rw [vg_rp_1 (by omega), vg_tn_x (by omega) (by omega)]; exact vg_cnt_to x31.2.2.2.2.2 (by omega)) | (rw [vg_rp_2 (by omega), vg_tn_2 (by omega)]; exact vg_cnt_to x31.2.2.2.2.2 (by omega)) | (rw [vg_rp_3 (by omega) (by omega) (by omega), vg_tn_x (by omega) (by omega)]; exact vg_cnt_to x31.2.2.2.2.2 (by omega)))⟩
          · have c50 : ¬ ((Int32.ofNat 7).toInt ≤ w28.toInt) := c50
            refine And.intro ⟨by omega, by omega⟩ ?_
            intro v51 e52
            refine And.intro (fun c53 => ?_) (fun c53 => ?_)
            · have c53 : v51.toInt = 0 := c53
              intro v54 e55
              have b56 := vg_add e55 (by omega) (by omega)
              exact ⟨rfl, ⟨101, w27, v54, rfl, (by decide), (by omega), (by omega), (by first | exact ⟨by omega, by omega, by omega, by omega, by omega, rfl⟩ | exact ⟨by omega, by omega, by omega, by omega, by omega, vg_cnt_s1 x31.2.2.2.2.2 e52 c53 None (by omega) (by omega)⟩ | exact ⟨by omega, by omega, by omega, by omega, by omega, vg_cnt_s0 x31.2.2.2.2.2 e52 c53 (by omega) (by omega)⟩), rfl⟩, (by show (11 - v54.toInt).toNat < (11 - w28.toInt).toNat; omega)⟩
            · have c53 : ¬ (v51.toInt = 0) := c53
              intro v57 e58
              intro v59 e60
              have b61 := vg_add e60 (by omega) (by omega)
              exact ⟨rfl, ⟨101, v57, v59, rfl, (by decide), (by omega), (by omega), (by first | exact ⟨by omega, by omega, by omega, by omega, by omega, rfl⟩ | exact ⟨by omega, by omega, by omega, by omega, by omega, vg_cnt_s1 x31.2.2.2.2.2 e52 c53 e58 (by omega) (by omega)⟩ | exact ⟨by omega, by omega, by omega, by omega, by omega, vg_cnt_s0 x31.2.2.2.2.2 e52 c53 (by omega) (by omega)⟩), rfl⟩, (by show (11 - v59.toInt).toNat < (11 - w28.toInt).toNat; omega)⟩
      ·
        refine And.intro (fun c62 => ?_) (fun c62 => ?_)
        · have c62 : a2.toInt ≤ w28.toInt := c62
          show s0 = s0 ∧ (w27 = vg_cnt (vg_rw s0 (vg_rp a1)) (min a2.toInt.toNat (vg_tn a1)))
          exact ⟨rfl, (by first | (rw [vg_rp_0 (by omega), vg_tn_0 (by omega)]; exact vg_cnt_to x31.2.2.2.2.2 (by omega)) | (rw [vg_rp_1 (by omega), vg_tn_x (by omega) (by omega)]; exact vg_cnt_to x31.2.2.2.2.2 (by omega)) | (rw [vg_rp_2 (by omega), vg_tn_2 (by omega)]; exact vg_cnt_to x31.2.2.2.2.2 (by omega)) | (rw [vg_rp_3 (by omega) (by omega) (by omega), vg_tn_x (by omega) (by omega)]; exact vg_cnt_to x31.2.2.2.2.2 (by omega)))⟩
        · have c62 : ¬ (a2.toInt ≤ w28.toInt) := c62
          refine And.intro (fun c63 => ?_) (fun c63 => ?_)
          · have c63 : (Int32.ofNat 11).toInt ≤ w28.toInt := c63
            show s0 = s0 ∧ (w27 = vg_cnt (vg_rw s0 (vg_rp a1)) (min a2.toInt.toNat (vg_tn a1)))
            exact ⟨rfl, (by first | (rw [vg_rp_0 (by omega), vg_tn_0 (by omega)]; exact vg_cnt_to x31.2.2.2.2.2 (by omega)) | (rw [vg_rp_1 (by omega), vg_tn_x (by omega) (by omega)]; exact vg_cnt_to x31.2.2.2.2.2 (by omega)) | (rw [vg_rp_2 (by omega), vg_tn_2 (by omega)]; exact vg_cnt_to x31.2.2.2.2.2 (by omega)) | (rw [vg_rp_3 (by omega) (by omega) (by omega), vg_tn_x (by omega) (by omega)]; exact vg_cnt_to x31.2.2.2.2.2 (by omega)))⟩
          · have c63 : ¬ ((Int32.ofNat 11).toInt ≤ w28.toInt) := c63
            refine And.intro ⟨by omega, by omega⟩ ?_
            intro v64 e65
            refine And.intro (fun c66 => ?_) (fun c66 => ?_)
            · have c66 : v64.toInt = 0 := c66
              intro v67 e68
              have b69 := vg_add e68 (by omega) (by omega)
              exact ⟨rfl, ⟨102, w27, v67, rfl, (by decide), (by omega), (by omega), (by first | exact ⟨by omega, by omega, by omega, by omega, by omega, rfl⟩ | exact ⟨by omega, by omega, by omega, by omega, by omega, vg_cnt_s1 x31.2.2.2.2.2 e65 c66 None (by omega) (by omega)⟩ | exact ⟨by omega, by omega, by omega, by omega, by omega, vg_cnt_s0 x31.2.2.2.2.2 e65 c66 (by omega) (by omega)⟩), rfl⟩, (by show (11 - v67.toInt).toNat < (11 - w28.toInt).toNat; omega)⟩
            · have c66 : ¬ (v64.toInt = 0) := c66
              intro v70 e71
              intro v72 e73
              have b74 := vg_add e73 (by omega) (by omega)
              exact ⟨rfl, ⟨102, v70, v72, rfl, (by decide), (by omega), (by omega), (by first | exact ⟨by omega, by omega, by omega, by omega, by omega, rfl⟩ | exact ⟨by omega, by omega, by omega, by omega, by omega, vg_cnt_s1 x31.2.2.2.2.2 e65 c66 e71 (by omega) (by omega)⟩ | exact ⟨by omega, by omega, by omega, by omega, by omega, vg_cnt_s0 x31.2.2.2.2.2 e65 c66 (by omega) (by omega)⟩), rfl⟩, (by show (11 - v72.toInt).toNat < (11 - w28.toInt).toNat; omega)⟩
      ·
        refine And.intro (fun c75 => ?_) (fun c75 => ?_)
        · have c75 : a2.toInt ≤ w28.toInt := c75
          show s0 = s0 ∧ (w27 = vg_cnt (vg_rw s0 (vg_rp a1)) (min a2.toInt.toNat (vg_tn a1)))
          exact ⟨rfl, (by first | (rw [vg_rp_0 (by omega), vg_tn_0 (by omega)]; exact vg_cnt_to x31.2.2.2.2.2 (by omega)) | (rw [vg_rp_1 (by omega), vg_tn_x (by omega) (by omega)]; exact vg_cnt_to x31.2.2.2.2.2 (by omega)) | (rw [vg_rp_2 (by omega), vg_tn_2 (by omega)]; exact vg_cnt_to x31.2.2.2.2.2 (by omega)) | (rw [vg_rp_3 (by omega) (by omega) (by omega), vg_tn_x (by omega) (by omega)]; exact vg_cnt_to x31.2.2.2.2.2 (by omega)))⟩
        · have c75 : ¬ (a2.toInt ≤ w28.toInt) := c75
          refine And.intro (fun c76 => ?_) (fun c76 => ?_)
          · have c76 : (Int32.ofNat 7).toInt ≤ w28.toInt := c76
            show s0 = s0 ∧ (w27 = vg_cnt (vg_rw s0 (vg_rp a1)) (min a2.toInt.toNat (vg_tn a1)))
            exact ⟨rfl, (by first | (rw [vg_rp_0 (by omega), vg_tn_0 (by omega)]; exact vg_cnt_to x31.2.2.2.2.2 (by omega)) | (rw [vg_rp_1 (by omega), vg_tn_x (by omega) (by omega)]; exact vg_cnt_to x31.2.2.2.2.2 (by omega)) | (rw [vg_rp_2 (by omega), vg_tn_2 (by omega)]; exact vg_cnt_to x31.2.2.2.2.2 (by omega)) | (rw [vg_rp_3 (by omega) (by omega) (by omega), vg_tn_x (by omega) (by omega)]; exact vg_cnt_to x31.2.2.2.2.2 (by omega)))⟩
          · have c76 : ¬ ((Int32.ofNat 7).toInt ≤ w28.toInt) := c76
            refine And.intro ⟨by omega, by omega⟩ ?_
            intro v77 e78
            refine And.intro (fun c79 => ?_) (fun c79 => ?_)
            · have c79 : v77.toInt = 0 := c79
              intro v80 e81
              have b82 := vg_add e81 (by omega) (by omega)
              exact ⟨rfl, ⟨17, w27, v80, rfl, (by decide), (by omega), (by omega), (by first | exact ⟨by omega, by omega, by omega, by omega, by omega, rfl⟩ | exact ⟨by omega, by omega, by omega, by omega, by omega, vg_cnt_s1 x31.2.2.2.2.2 e78 c79 None (by omega) (by omega)⟩ | exact ⟨by omega, by omega, by omega, by omega, by omega, vg_cnt_s0 x31.2.2.2.2.2 e78 c79 (by omega) (by omega)⟩), rfl⟩, (by show (11 - v80.toInt).toNat < (11 - w28.toInt).toNat; omega)⟩
            · have c79 : ¬ (v77.toInt = 0) := c79
              intro v83 e84
              intro v85 e86
              have b87 := vg_add e86 (by omega) (by omega)
              exact ⟨rfl, ⟨17, v83, v85, rfl, (by decide), (by omega), (by omega), (by first | exact ⟨by omega, by omega, by omega, by omega, by omega, rfl⟩ | exact ⟨by omega, by omega, by omega, by omega, by omega, vg_cnt_s1 x31.2.2.2.2.2 e78 c79 e84 (by omega) (by omega)⟩ | exact ⟨by omega, by omega, by omega, by omega, by omega, vg_cnt_s0 x31.2.2.2.2.2 e78 c79 (by omega) (by omega)⟩), rfl⟩, (by show (11 - v85.toInt).toNat < (11 - w28.toInt).toNat; omega)⟩
def o_X8_plainOf : List vg_I := [(0, .aload_n 0, 1, 0, 0, 0, 0), (1, .iload_n 1, 1, 0, 0, 0, 0), (2, .aload_n 0, 1, 0, 0, 0, 0), (3, .iload_n 1, 1, 0, 0, 0, 0), (4, .invokevirtual 32, 3, 0, 8, 1, 587), (7, .arraylength, 1, 0, 0, 0, 0), (8, .invokevirtual 36, 3, 1, 8, 2, 880), (11, .ireturn, 1, 0, 0, 0, 0)]
set_option maxRecDepth 100000 in
set_option maxHeartbeats 4000000 in
theorem c_X8_plainOf (l : Launch) (G : vg_G) (hp : vg_Hp G) : vg_Ct l G vg_sh r_X8_plainOf := by
  refine vg_meth hp vg_sh_ok r_X8_plainOf k_X8_plainOf rfl (fun h => by cases h) o_X8_plainOf [r_X8_rowOf, r_X8_manyOf] false (by decide +kernel) (by decide +kernel) ⟨_, _, rfl, rfl⟩ (List.forall_mem_cons.mpr ⟨⟨c_X8_rowOf l G hp, Nat.le_of_ble_eq_true rfl, Nat.le_of_ble_eq_true rfl⟩, List.forall_mem_cons.mpr ⟨⟨c_X8_manyOf l G hp, Nat.le_of_ble_eq_true rfl, Nat.le_of_ble_eq_true rfl⟩, fun _ h => absurd h List.not_mem_nil⟩⟩) (fun h => by cases h) 600 ?_
  intro as s0 hpre
  obtain ⟨r, a1, rfl, hr, i0⟩ := hpre
  simp only [List.mem_cons, List.not_mem_nil, or_false] at hr
  rcases hr with rfl
  ·
    have n3 : (Int32.ofNat 3).toInt = 3 := by decide
    have n7 : (Int32.ofNat 7).toInt = 7 := by decide
    have n11 : (Int32.ofNat 11).toInt = 11 := by decide
    refine ⟨Nat.le_of_ble_eq_true rfl, [], ?_, fun _ h => absurd h List.not_mem_nil⟩
    ·
      refine And.intro (Nat.le_of_ble_eq_true rfl) (And.intro ⟨16, a1, rfl, by decide, i0⟩ ?_)
      refine And.intro ?_ ?_
      ·
        intro s2 h1
        have h1 : s2 = s0 ∧ ((a1.toInt = 0 ∧ 100 = 100) ∨ (a1.toInt = 1 ∧ 100 = 101) ∨ (a1.toInt = 2 ∧ 100 = 102) ∨ (¬ a1.toInt = 0 ∧ ¬ a1.toInt = 1 ∧ ¬ a1.toInt = 2 ∧ 100 = 17)) := h1
        have q5 := h1.1.symm
        subst q5
        have q6 := h1.2
        refine And.intro (Nat.le_of_ble_eq_true rfl) (And.intro ⟨16, a1, (Int32.ofNat 3), rfl, by decide, i0, by omega⟩ ?_)
        intro v7 s9 h8
        have h8 : s9 = s0 ∧ (v7 = vg_cnt (vg_rw s0 (vg_rp a1)) (min (Int32.ofNat 3).toInt.toNat (vg_tn a1))) := h8
        have q12 := h8.1.symm
        subst q12
        have q13 := h8.2
        show s0 = s0 ∧ (v7 = vg_cnt (vg_rw s0 (vg_rp a1)) (vg_tn a1))
        exact ⟨rfl, (by first | exact vg_cnt_min (n := 3) q13 (by omega) (vg_tn_0 (by omega)) | exact vg_cnt_min (n := 7) q13 (by omega) (vg_tn_x (by omega) (by omega)) | exact vg_cnt_min (n := 11) q13 (by omega) (vg_tn_2 (by omega)))⟩
      refine And.intro ?_ ?_
      ·
        intro s15 h14
        have h14 : s15 = s0 ∧ ((a1.toInt = 0 ∧ 101 = 100) ∨ (a1.toInt = 1 ∧ 101 = 101) ∨ (a1.toInt = 2 ∧ 101 = 102) ∨ (¬ a1.toInt = 0 ∧ ¬ a1.toInt = 1 ∧ ¬ a1.toInt = 2 ∧ 101 = 17)) := h14
        have q18 := h14.1.symm
        subst q18
        have q19 := h14.2
        refine And.intro (Nat.le_of_ble_eq_true rfl) (And.intro ⟨16, a1, (Int32.ofNat 7), rfl, by decide, i0, by omega⟩ ?_)
        intro v20 s22 h21
        have h21 : s22 = s0 ∧ (v20 = vg_cnt (vg_rw s0 (vg_rp a1)) (min (Int32.ofNat 7).toInt.toNat (vg_tn a1))) := h21
        have q25 := h21.1.symm
        subst q25
        have q26 := h21.2
        show s0 = s0 ∧ (v20 = vg_cnt (vg_rw s0 (vg_rp a1)) (vg_tn a1))
        exact ⟨rfl, (by first | exact vg_cnt_min (n := 3) q26 (by omega) (vg_tn_0 (by omega)) | exact vg_cnt_min (n := 7) q26 (by omega) (vg_tn_x (by omega) (by omega)) | exact vg_cnt_min (n := 11) q26 (by omega) (vg_tn_2 (by omega)))⟩
      refine And.intro ?_ ?_
      ·
        intro s28 h27
        have h27 : s28 = s0 ∧ ((a1.toInt = 0 ∧ 102 = 100) ∨ (a1.toInt = 1 ∧ 102 = 101) ∨ (a1.toInt = 2 ∧ 102 = 102) ∨ (¬ a1.toInt = 0 ∧ ¬ a1.toInt = 1 ∧ ¬ a1.toInt = 2 ∧ 102 = 17)) := h27
        have q31 := h27.1.symm
        subst q31
        have q32 := h27.2
        refine And.intro (Nat.le_of_ble_eq_true rfl) (And.intro ⟨16, a1, (Int32.ofNat 11), rfl, by decide, i0, by omega⟩ ?_)
        intro v33 s35 h34
        have h34 : s35 = s0 ∧ (v33 = vg_cnt (vg_rw s0 (vg_rp a1)) (min (Int32.ofNat 11).toInt.toNat (vg_tn a1))) := h34
        have q38 := h34.1.symm
        subst q38
        have q39 := h34.2
        show s0 = s0 ∧ (v33 = vg_cnt (vg_rw s0 (vg_rp a1)) (vg_tn a1))
        exact ⟨rfl, (by first | exact vg_cnt_min (n := 3) q39 (by omega) (vg_tn_0 (by omega)) | exact vg_cnt_min (n := 7) q39 (by omega) (vg_tn_x (by omega) (by omega)) | exact vg_cnt_min (n := 11) q39 (by omega) (vg_tn_2 (by omega)))⟩
      refine And.intro ?_ ?_
      ·
        intro s41 h40
        have h40 : s41 = s0 ∧ ((a1.toInt = 0 ∧ 17 = 100) ∨ (a1.toInt = 1 ∧ 17 = 101) ∨ (a1.toInt = 2 ∧ 17 = 102) ∨ (¬ a1.toInt = 0 ∧ ¬ a1.toInt = 1 ∧ ¬ a1.toInt = 2 ∧ 17 = 17)) := h40
        have q44 := h40.1.symm
        subst q44
        have q45 := h40.2
        refine And.intro (Nat.le_of_ble_eq_true rfl) (And.intro ⟨16, a1, (Int32.ofNat 7), rfl, by decide, i0, by omega⟩ ?_)
        intro v46 s48 h47
        have h47 : s48 = s0 ∧ (v46 = vg_cnt (vg_rw s0 (vg_rp a1)) (min (Int32.ofNat 7).toInt.toNat (vg_tn a1))) := h47
        have q51 := h47.1.symm
        subst q51
        have q52 := h47.2
        show s0 = s0 ∧ (v46 = vg_cnt (vg_rw s0 (vg_rp a1)) (vg_tn a1))
        exact ⟨rfl, (by first | exact vg_cnt_min (n := 3) q52 (by omega) (vg_tn_0 (by omega)) | exact vg_cnt_min (n := 7) q52 (by omega) (vg_tn_x (by omega) (by omega)) | exact vg_cnt_min (n := 11) q52 (by omega) (vg_tn_2 (by omega)))⟩
      exact trivial
def o_X8_foldedOf : List vg_I := [(0, .aload_n 0, 1, 0, 0, 0, 0), (1, .iload_n 1, 1, 0, 0, 0, 0), (2, .aload_n 0, 1, 0, 0, 0, 0), (3, .iload_n 1, 1, 0, 0, 0, 0), (4, .invokevirtual 32, 3, 0, 8, 1, 587), (7, .arraylength, 1, 0, 0, 0, 0), (8, .iconst 2, 1, 0, 0, 0, 0), (9, .idiv, 1, 0, 0, 0, 0), (10, .iconst 1, 1, 0, 0, 0, 0), (11, .iadd, 1, 0, 0, 0, 0), (12, .invokevirtual 36, 3, 1, 8, 2, 880), (15, .ireturn, 1, 0, 0, 0, 0)]
set_option maxRecDepth 100000 in
set_option maxHeartbeats 4000000 in
theorem c_X8_foldedOf (l : Launch) (G : vg_G) (hp : vg_Hp G) : vg_Ct l G vg_sh r_X8_foldedOf := by
  refine vg_meth hp vg_sh_ok r_X8_foldedOf k_X8_foldedOf rfl (fun h => by cases h) o_X8_foldedOf [r_X8_rowOf, r_X8_manyOf] false (by decide +kernel) (by decide +kernel) ⟨_, _, rfl, rfl⟩ (List.forall_mem_cons.mpr ⟨⟨c_X8_rowOf l G hp, Nat.le_of_ble_eq_true rfl, Nat.le_of_ble_eq_true rfl⟩, List.forall_mem_cons.mpr ⟨⟨c_X8_manyOf l G hp, Nat.le_of_ble_eq_true rfl, Nat.le_of_ble_eq_true rfl⟩, fun _ h => absurd h List.not_mem_nil⟩⟩) (fun h => by cases h) 600 ?_
  intro as s0 hpre
  obtain ⟨r, a1, rfl, hr, i0⟩ := hpre
  simp only [List.mem_cons, List.not_mem_nil, or_false] at hr
  rcases hr with rfl
  ·
    have z1 : (Int32.ofInt 1).toInt = 1 := by decide
    have z2 : (Int32.ofInt 2).toInt = 2 := by decide
    have n3 : (Int32.ofNat 3).toInt = 3 := by decide
    have n7 : (Int32.ofNat 7).toInt = 7 := by decide
    have n11 : (Int32.ofNat 11).toInt = 11 := by decide
    refine ⟨Nat.le_of_ble_eq_true rfl, [], ?_, fun _ h => absurd h List.not_mem_nil⟩
    ·
      refine And.intro (Nat.le_of_ble_eq_true rfl) (And.intro ⟨16, a1, rfl, by decide, i0⟩ ?_)
      refine And.intro ?_ ?_
      ·
        intro s2 h1
        have h1 : s2 = s0 ∧ ((a1.toInt = 0 ∧ 100 = 100) ∨ (a1.toInt = 1 ∧ 100 = 101) ∨ (a1.toInt = 2 ∧ 100 = 102) ∨ (¬ a1.toInt = 0 ∧ ¬ a1.toInt = 1 ∧ ¬ a1.toInt = 2 ∧ 100 = 17)) := h1
        have q5 := h1.1.symm
        subst q5
        have q6 := h1.2
        refine And.intro (by omega) ?_
        intro v7 e8
        have b9 : v7.toInt = (Int32.ofNat 3).toInt / 2 := by have h9 := vg_div e8 (by omega) (by omega); rw [z2] at h9; exact h9
        intro v10 e11
        have b12 := vg_add e11 (by omega) (by omega)
        refine And.intro (Nat.le_of_ble_eq_true rfl) (And.intro ⟨16, a1, v10, rfl, by decide, i0, by omega⟩ ?_)
        intro v13 s15 h14
        have h14 : s15 = s0 ∧ (v13 = vg_cnt (vg_rw s0 (vg_rp a1)) (min v10.toInt.toNat (vg_tn a1))) := h14
        have q18 := h14.1.symm
        subst q18
        have q19 := h14.2
        show s0 = s0 ∧ (True)
        exact ⟨rfl, (trivial)⟩
      refine And.intro ?_ ?_
      ·
        intro s21 h20
        have h20 : s21 = s0 ∧ ((a1.toInt = 0 ∧ 101 = 100) ∨ (a1.toInt = 1 ∧ 101 = 101) ∨ (a1.toInt = 2 ∧ 101 = 102) ∨ (¬ a1.toInt = 0 ∧ ¬ a1.toInt = 1 ∧ ¬ a1.toInt = 2 ∧ 101 = 17)) := h20
        have q24 := h20.1.symm
        subst q24
        have q25 := h20.2
        refine And.intro (by omega) ?_
        intro v26 e27
        have b28 : v26.toInt = (Int32.ofNat 7).toInt / 2 := by have h9 := vg_div e27 (by omega) (by omega); rw [z2] at h9; exact h9
        intro v29 e30
        have b31 := vg_add e30 (by omega) (by omega)
        refine And.intro (Nat.le_of_ble_eq_true rfl) (And.intro ⟨16, a1, v29, rfl, by decide, i0, by omega⟩ ?_)
        intro v32 s34 h33
        have h33 : s34 = s0 ∧ (v32 = vg_cnt (vg_rw s0 (vg_rp a1)) (min v29.toInt.toNat (vg_tn a1))) := h33
        have q37 := h33.1.symm
        subst q37
        have q38 := h33.2
        show s0 = s0 ∧ (True)
        exact ⟨rfl, (trivial)⟩
      refine And.intro ?_ ?_
      ·
        intro s40 h39
        have h39 : s40 = s0 ∧ ((a1.toInt = 0 ∧ 102 = 100) ∨ (a1.toInt = 1 ∧ 102 = 101) ∨ (a1.toInt = 2 ∧ 102 = 102) ∨ (¬ a1.toInt = 0 ∧ ¬ a1.toInt = 1 ∧ ¬ a1.toInt = 2 ∧ 102 = 17)) := h39
        have q43 := h39.1.symm
        subst q43
        have q44 := h39.2
        refine And.intro (by omega) ?_
        intro v45 e46
        have b47 : v45.toInt = (Int32.ofNat 11).toInt / 2 := by have h9 := vg_div e46 (by omega) (by omega); rw [z2] at h9; exact h9
        intro v48 e49
        have b50 := vg_add e49 (by omega) (by omega)
        refine And.intro (Nat.le_of_ble_eq_true rfl) (And.intro ⟨16, a1, v48, rfl, by decide, i0, by omega⟩ ?_)
        intro v51 s53 h52
        have h52 : s53 = s0 ∧ (v51 = vg_cnt (vg_rw s0 (vg_rp a1)) (min v48.toInt.toNat (vg_tn a1))) := h52
        have q56 := h52.1.symm
        subst q56
        have q57 := h52.2
        show s0 = s0 ∧ (True)
        exact ⟨rfl, (trivial)⟩
      refine And.intro ?_ ?_
      ·
        intro s59 h58
        have h58 : s59 = s0 ∧ ((a1.toInt = 0 ∧ 17 = 100) ∨ (a1.toInt = 1 ∧ 17 = 101) ∨ (a1.toInt = 2 ∧ 17 = 102) ∨ (¬ a1.toInt = 0 ∧ ¬ a1.toInt = 1 ∧ ¬ a1.toInt = 2 ∧ 17 = 17)) := h58
        have q62 := h58.1.symm
        subst q62
        have q63 := h58.2
        refine And.intro (by omega) ?_
        intro v64 e65
        have b66 : v64.toInt = (Int32.ofNat 7).toInt / 2 := by have h9 := vg_div e65 (by omega) (by omega); rw [z2] at h9; exact h9
        intro v67 e68
        have b69 := vg_add e68 (by omega) (by omega)
        refine And.intro (Nat.le_of_ble_eq_true rfl) (And.intro ⟨16, a1, v67, rfl, by decide, i0, by omega⟩ ?_)
        intro v70 s72 h71
        have h71 : s72 = s0 ∧ (v70 = vg_cnt (vg_rw s0 (vg_rp a1)) (min v67.toInt.toNat (vg_tn a1))) := h71
        have q75 := h71.1.symm
        subst q75
        have q76 := h71.2
        show s0 = s0 ∧ (True)
        exact ⟨rfl, (trivial)⟩
      exact trivial
