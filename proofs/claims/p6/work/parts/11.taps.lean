def o_X3_begin : List vg_I := [(0, .aload_n 0, 1, 0, 0, 0, 0), (1, .getfield 9, 3, 395, 3, 1, 0), (4, .iconst 0, 1, 0, 0, 0, 0), (5, .invokestatic 13, 3, 0, 1, 2, 519), (8, .aload_n 0, 1, 0, 0, 0, 0), (9, .iconst 0, 1, 0, 0, 0, 0), (10, .putfield 19, 3, 396, 3, 2, 0), (13, .aload_n 0, 1, 0, 0, 0, 0), (14, .iconst 0, 1, 0, 0, 0, 0), (15, .putfield 23, 3, 397, 3, 3, 1), (18, .return_, 1, 0, 0, 0, 0)]
set_option maxRecDepth 100000 in
set_option maxHeartbeats 4000000 in
theorem c_X3_begin (l : Launch) (G : vg_G) (hp : vg_Hp G) : vg_Ct l G vg_sh r_X3_begin := by
  refine vg_meth hp vg_sh_ok r_X3_begin k_X3_begin rfl (fun h => by cases h) o_X3_begin [r_J7_fill_53178] false (by decide +kernel) (by decide +kernel) ⟨_, _, rfl, rfl⟩ (List.forall_mem_cons.mpr ⟨⟨c_J7_fill_53178 l G hp, Nat.le_of_ble_eq_true rfl, Nat.le_of_ble_eq_true rfl⟩, fun _ h => absurd h List.not_mem_nil⟩) (fun h => by cases h) 600 ?_
  intro as s0 hpre
  obtain ⟨r, rfl, hr, i0⟩ := hpre
  simp only [List.mem_cons, List.not_mem_nil, or_false] at hr
  rcases hr with rfl | rfl | rfl
  ·
    have z0 : (Int32.ofInt 0).toInt = 0 := by decide
    refine ⟨Nat.le_of_ble_eq_true rfl, [], ?_, fun _ h => absurd h List.not_mem_nil⟩
    ·
      refine And.intro (Nat.le_of_ble_eq_true rfl) (And.intro ⟨36, (Int32.ofInt 0), rfl, by decide, i0⟩ ?_)
      intro s2 h1
      have h1 : Iv s2 ∧ Kp s0 s2 ∧ (True) := h1
      have i3 := h1.1
      have k4 : Kp s0 s2 := Kx.tr Kx.rf (h1.2.1)
      intro s5 e6
      have i7 : Iv s5 := Iv.u1 i3 e6 rfl
      have k8 : Kp s0 s5 := Kx.u1 k4 e6 rfl
      refine And.intro (by first | exact Or.inl rfl | exact Or.inr rfl | exact vg_01 (by omega) (by omega)) ?_
      intro s9 e10
      have i11 : Iv s9 := Iv.u1 i7 e10 rfl
      have k12 : Kp s0 s9 := Kx.u1 k8 e10 rfl
      show Iv s9 ∧ Kp s0 s9 ∧ (True)
      exact ⟨i11, k12, (trivial)⟩
  ·
    have z0 : (Int32.ofInt 0).toInt = 0 := by decide
    refine ⟨Nat.le_of_ble_eq_true rfl, [], ?_, fun _ h => absurd h List.not_mem_nil⟩
    ·
      refine And.intro (Nat.le_of_ble_eq_true rfl) (And.intro ⟨38, (Int32.ofInt 0), rfl, by decide, i0⟩ ?_)
      intro s2 h1
      have h1 : Iv s2 ∧ Kp s0 s2 ∧ (True) := h1
      have i3 := h1.1
      have k4 : Kp s0 s2 := Kx.tr Kx.rf (h1.2.1)
      intro s5 e6
      have i7 : Iv s5 := Iv.u1 i3 e6 rfl
      have k8 : Kp s0 s5 := Kx.u1 k4 e6 rfl
      refine And.intro (by first | exact Or.inl rfl | exact Or.inr rfl | exact vg_01 (by omega) (by omega)) ?_
      intro s9 e10
      have i11 : Iv s9 := Iv.u1 i7 e10 rfl
      have k12 : Kp s0 s9 := Kx.u1 k8 e10 rfl
      show Iv s9 ∧ Kp s0 s9 ∧ (True)
      exact ⟨i11, k12, (trivial)⟩
  ·
    have z0 : (Int32.ofInt 0).toInt = 0 := by decide
    refine ⟨Nat.le_of_ble_eq_true rfl, [], ?_, fun _ h => absurd h List.not_mem_nil⟩
    ·
      refine And.intro (Nat.le_of_ble_eq_true rfl) (And.intro ⟨40, (Int32.ofInt 0), rfl, by decide, i0⟩ ?_)
      intro s2 h1
      have h1 : Iv s2 ∧ Kp s0 s2 ∧ (True) := h1
      have i3 := h1.1
      have k4 : Kp s0 s2 := Kx.tr Kx.rf (h1.2.1)
      intro s5 e6
      have i7 : Iv s5 := Iv.u1 i3 e6 rfl
      have k8 : Kp s0 s5 := Kx.u1 k4 e6 rfl
      refine And.intro (by first | exact Or.inl rfl | exact Or.inr rfl | exact vg_01 (by omega) (by omega)) ?_
      intro s9 e10
      have i11 : Iv s9 := Iv.u1 i7 e10 rfl
      have k12 : Kp s0 s9 := Kx.u1 k8 e10 rfl
      show Iv s9 ∧ Kp s0 s9 ∧ (True)
      exact ⟨i11, k12, (trivial)⟩
def o_X3_take : List vg_I := [(0, .aload_n 0, 1, 0, 0, 0, 0), (1, .aload_n 0, 1, 0, 0, 0, 0), (2, .getfield 19, 3, 396, 3, 2, 0), (5, .iconst 1, 1, 0, 0, 0, 0), (6, .iadd, 1, 0, 0, 0, 0), (7, .bipush 15, 2, 0, 0, 0, 0), (9, .iand, 1, 0, 0, 0, 0), (10, .putfield 19, 3, 396, 3, 2, 0), (13, .aload_n 0, 1, 0, 0, 0, 0), (14, .getfield 9, 3, 395, 3, 1, 0), (17, .aload_n 0, 1, 0, 0, 0, 0), (18, .getfield 19, 3, 396, 3, 2, 0), (21, .iload_n 1, 1, 0, 0, 0, 0), (22, .iastore, 1, 0, 0, 0, 0), (23, .aload_n 0, 1, 0, 0, 0, 0), (24, .aload_n 0, 1, 0, 0, 0, 0), (25, .getfield 23, 3, 397, 3, 3, 0), (28, .ifCond .ne 7, 3, 0, 0, 0, 0), (31, .iconst 1, 1, 0, 0, 0, 0), (32, .goto 4, 3, 0, 0, 0, 0), (35, .iconst 0, 1, 0, 0, 0, 0), (36, .putfield 23, 3, 397, 3, 3, 1), (39, .aload_n 0, 1, 0, 0, 0, 0), (40, .getfield 23, 3, 397, 3, 3, 0), (43, .ifCond .ne 7, 3, 0, 0, 0, 0), (46, .iconst 1, 1, 0, 0, 0, 0), (47, .goto 4, 3, 0, 0, 0, 0), (50, .iconst 0, 1, 0, 0, 0, 0), (51, .ireturn, 1, 0, 0, 0, 1)]
set_option maxRecDepth 100000 in
set_option maxHeartbeats 4000000 in
theorem c_X3_take (l : Launch) (G : vg_G) (hp : vg_Hp G) : vg_Ct l G vg_sh r_X3_take := by
  refine vg_meth hp vg_sh_ok r_X3_take k_X3_take rfl (fun h => by cases h) o_X3_take [] false (by decide +kernel) (by decide +kernel) ⟨_, _, rfl, rfl⟩ (fun _ h => absurd h List.not_mem_nil) (fun h => by cases h) 600 ?_
  intro as s0 hpre
  obtain ⟨r, a1, rfl, hr, i0⟩ := hpre
  simp only [List.mem_cons, List.not_mem_nil, or_false] at hr
  rcases hr with rfl | rfl | rfl
  ·
    have z0 : (Int32.ofInt 0).toInt = 0 := by decide
    have z1 : (Int32.ofInt 1).toInt = 1 := by decide
    have z15 : (Int32.ofInt 15).toInt = 15 := by decide
    refine ⟨Nat.le_of_ble_eq_true rfl, [], ?_, fun _ h => absurd h List.not_mem_nil⟩
    ·
      intro v1 e2
      have g3 : s0.1 35 2 = v1 := by rw [e2]
      intro v4 e5
      intro v6 e7
      have b8 := vg_and e7 (by omega)
      intro s9 e10
      have i11 : Iv s9 := Iv.u1 i0 e10 rfl
      have k12 : Kp s0 s9 := Kx.u1 Kx.rf e10 rfl
      intro v13 e14
      have w15 : v6 = v13 := by rw [e14, e10]; exact vg_u1_self.symm
      subst w15
      refine And.intro ⟨by omega, by omega⟩ ?_
      intro s16 e17
      have i18 : Iv s16 := Iv.a1 i11 e17 rfl
      have k19 : Kp s0 s16 := Kx.u1 k12 e17 rfl
      intro v20 e21
      have g22 : s0.1 35 3 = v20 := by rw [e21, e17, vg_u1_ne (a := 35) (k := 36) (by decide), e10, vg_u1_at (a := 35) (b := 3) (k := 35) (i := 2) (by decide)]
      refine And.intro (fun c23 => ?_) (fun c23 => ?_)
      · have c23 : ¬ v20.toInt = 0 := c23
        refine And.intro (by first | exact Or.inl rfl | exact Or.inr rfl | exact vg_01 (by omega) (by omega)) ?_
        intro s24 e25
        have i26 : Iv s24 := Iv.u1 i18 e25 rfl
        have k27 : Kp s0 s24 := Kx.u1 k19 e25 rfl
        intro v28 e29
        have w30 : (Int32.ofInt 0) = v28 := by rw [e29, e25]; exact vg_u1_self.symm
        subst w30
        refine And.intro (fun c31 => ?_) (fun c31 => ?_)
        · have c31 : ¬ (Int32.ofInt 0).toInt = 0 := c31
          exfalso
          omega
        · have c31 : ¬ (¬ (Int32.ofInt 0).toInt = 0) := c31
          refine And.intro (by first | exact Or.inl rfl | exact Or.inr rfl | exact vg_01 (by omega) (by omega)) ?_
          show Iv s24 ∧ Kp s0 s24 ∧ (0 ≤ (Int32.ofInt 1).toInt ∧ (Int32.ofInt 1).toInt ≤ 1)
          exact ⟨i26, k27, (by first | trivial | omega | assumption)⟩
      · have c23 : ¬ (¬ v20.toInt = 0) := c23
        refine And.intro (by first | exact Or.inl rfl | exact Or.inr rfl | exact vg_01 (by omega) (by omega)) ?_
        intro s32 e33
        have i34 : Iv s32 := Iv.u1 i18 e33 rfl
        have k35 : Kp s0 s32 := Kx.u1 k19 e33 rfl
        intro v36 e37
        have w38 : (Int32.ofInt 1) = v36 := by rw [e37, e33]; exact vg_u1_self.symm
        subst w38
        refine And.intro (fun c39 => ?_) (fun c39 => ?_)
        · have c39 : ¬ (Int32.ofInt 1).toInt = 0 := c39
          refine And.intro (by first | exact Or.inl rfl | exact Or.inr rfl | exact vg_01 (by omega) (by omega)) ?_
          show Iv s32 ∧ Kp s0 s32 ∧ (0 ≤ (Int32.ofInt 0).toInt ∧ (Int32.ofInt 0).toInt ≤ 1)
          exact ⟨i34, k35, (by first | trivial | omega | assumption)⟩
        · have c39 : ¬ (¬ (Int32.ofInt 1).toInt = 0) := c39
          exfalso
          omega
  ·
    have z0 : (Int32.ofInt 0).toInt = 0 := by decide
    have z1 : (Int32.ofInt 1).toInt = 1 := by decide
    have z15 : (Int32.ofInt 15).toInt = 15 := by decide
    refine ⟨Nat.le_of_ble_eq_true rfl, [], ?_, fun _ h => absurd h List.not_mem_nil⟩
    ·
      intro v1 e2
      have g3 : s0.1 37 2 = v1 := by rw [e2]
      intro v4 e5
      intro v6 e7
      have b8 := vg_and e7 (by omega)
      intro s9 e10
      have i11 : Iv s9 := Iv.u1 i0 e10 rfl
      have k12 : Kp s0 s9 := Kx.u1 Kx.rf e10 rfl
      intro v13 e14
      have w15 : v6 = v13 := by rw [e14, e10]; exact vg_u1_self.symm
      subst w15
      refine And.intro ⟨by omega, by omega⟩ ?_
      intro s16 e17
      have i18 : Iv s16 := Iv.a1 i11 e17 rfl
      have k19 : Kp s0 s16 := Kx.u1 k12 e17 rfl
      intro v20 e21
      have g22 : s0.1 37 3 = v20 := by rw [e21, e17, vg_u1_ne (a := 37) (k := 38) (by decide), e10, vg_u1_at (a := 37) (b := 3) (k := 37) (i := 2) (by decide)]
      refine And.intro (fun c23 => ?_) (fun c23 => ?_)
      · have c23 : ¬ v20.toInt = 0 := c23
        refine And.intro (by first | exact Or.inl rfl | exact Or.inr rfl | exact vg_01 (by omega) (by omega)) ?_
        intro s24 e25
        have i26 : Iv s24 := Iv.u1 i18 e25 rfl
        have k27 : Kp s0 s24 := Kx.u1 k19 e25 rfl
        intro v28 e29
        have w30 : (Int32.ofInt 0) = v28 := by rw [e29, e25]; exact vg_u1_self.symm
        subst w30
        refine And.intro (fun c31 => ?_) (fun c31 => ?_)
        · have c31 : ¬ (Int32.ofInt 0).toInt = 0 := c31
          exfalso
          omega
        · have c31 : ¬ (¬ (Int32.ofInt 0).toInt = 0) := c31
          refine And.intro (by first | exact Or.inl rfl | exact Or.inr rfl | exact vg_01 (by omega) (by omega)) ?_
          show Iv s24 ∧ Kp s0 s24 ∧ (0 ≤ (Int32.ofInt 1).toInt ∧ (Int32.ofInt 1).toInt ≤ 1)
          exact ⟨i26, k27, (by first | trivial | omega | assumption)⟩
      · have c23 : ¬ (¬ v20.toInt = 0) := c23
        refine And.intro (by first | exact Or.inl rfl | exact Or.inr rfl | exact vg_01 (by omega) (by omega)) ?_
        intro s32 e33
        have i34 : Iv s32 := Iv.u1 i18 e33 rfl
        have k35 : Kp s0 s32 := Kx.u1 k19 e33 rfl
        intro v36 e37
        have w38 : (Int32.ofInt 1) = v36 := by rw [e37, e33]; exact vg_u1_self.symm
        subst w38
        refine And.intro (fun c39 => ?_) (fun c39 => ?_)
        · have c39 : ¬ (Int32.ofInt 1).toInt = 0 := c39
          refine And.intro (by first | exact Or.inl rfl | exact Or.inr rfl | exact vg_01 (by omega) (by omega)) ?_
          show Iv s32 ∧ Kp s0 s32 ∧ (0 ≤ (Int32.ofInt 0).toInt ∧ (Int32.ofInt 0).toInt ≤ 1)
          exact ⟨i34, k35, (by first | trivial | omega | assumption)⟩
        · have c39 : ¬ (¬ (Int32.ofInt 1).toInt = 0) := c39
          exfalso
          omega
  ·
    have z0 : (Int32.ofInt 0).toInt = 0 := by decide
    have z1 : (Int32.ofInt 1).toInt = 1 := by decide
    have z15 : (Int32.ofInt 15).toInt = 15 := by decide
    refine ⟨Nat.le_of_ble_eq_true rfl, [], ?_, fun _ h => absurd h List.not_mem_nil⟩
    ·
      intro v1 e2
      have g3 : s0.1 39 2 = v1 := by rw [e2]
      intro v4 e5
      intro v6 e7
      have b8 := vg_and e7 (by omega)
      intro s9 e10
      have i11 : Iv s9 := Iv.u1 i0 e10 rfl
      have k12 : Kp s0 s9 := Kx.u1 Kx.rf e10 rfl
      intro v13 e14
      have w15 : v6 = v13 := by rw [e14, e10]; exact vg_u1_self.symm
      subst w15
      refine And.intro ⟨by omega, by omega⟩ ?_
      intro s16 e17
      have i18 : Iv s16 := Iv.a1 i11 e17 rfl
      have k19 : Kp s0 s16 := Kx.u1 k12 e17 rfl
      intro v20 e21
      have g22 : s0.1 39 3 = v20 := by rw [e21, e17, vg_u1_ne (a := 39) (k := 40) (by decide), e10, vg_u1_at (a := 39) (b := 3) (k := 39) (i := 2) (by decide)]
      refine And.intro (fun c23 => ?_) (fun c23 => ?_)
      · have c23 : ¬ v20.toInt = 0 := c23
        refine And.intro (by first | exact Or.inl rfl | exact Or.inr rfl | exact vg_01 (by omega) (by omega)) ?_
        intro s24 e25
        have i26 : Iv s24 := Iv.u1 i18 e25 rfl
        have k27 : Kp s0 s24 := Kx.u1 k19 e25 rfl
        intro v28 e29
        have w30 : (Int32.ofInt 0) = v28 := by rw [e29, e25]; exact vg_u1_self.symm
        subst w30
        refine And.intro (fun c31 => ?_) (fun c31 => ?_)
        · have c31 : ¬ (Int32.ofInt 0).toInt = 0 := c31
          exfalso
          omega
        · have c31 : ¬ (¬ (Int32.ofInt 0).toInt = 0) := c31
          refine And.intro (by first | exact Or.inl rfl | exact Or.inr rfl | exact vg_01 (by omega) (by omega)) ?_
          show Iv s24 ∧ Kp s0 s24 ∧ (0 ≤ (Int32.ofInt 1).toInt ∧ (Int32.ofInt 1).toInt ≤ 1)
          exact ⟨i26, k27, (by first | trivial | omega | assumption)⟩
      · have c23 : ¬ (¬ v20.toInt = 0) := c23
        refine And.intro (by first | exact Or.inl rfl | exact Or.inr rfl | exact vg_01 (by omega) (by omega)) ?_
        intro s32 e33
        have i34 : Iv s32 := Iv.u1 i18 e33 rfl
        have k35 : Kp s0 s32 := Kx.u1 k19 e33 rfl
        intro v36 e37
        have w38 : (Int32.ofInt 1) = v36 := by rw [e37, e33]; exact vg_u1_self.symm
        subst w38
        refine And.intro (fun c39 => ?_) (fun c39 => ?_)
        · have c39 : ¬ (Int32.ofInt 1).toInt = 0 := c39
          refine And.intro (by first | exact Or.inl rfl | exact Or.inr rfl | exact vg_01 (by omega) (by omega)) ?_
          show Iv s32 ∧ Kp s0 s32 ∧ (0 ≤ (Int32.ofInt 0).toInt ∧ (Int32.ofInt 0).toInt ≤ 1)
          exact ⟨i34, k35, (by first | trivial | omega | assumption)⟩
        · have c39 : ¬ (¬ (Int32.ofInt 1).toInt = 0) := c39
          exfalso
          omega
def o_X8_rowOf : List vg_I := [(0, .iload_n 1, 1, 0, 0, 0, 0), (1, .tableswitch 39 0 2 #[27, 31, 35], 27, 0, 0, 0, 0), (28, .getstatic 23, 3, 100, 0, 0, 591), (31, .areturn, 1, 0, 0, 0, 0), (32, .getstatic 26, 3, 101, 1, 0, 593), (35, .areturn, 1, 0, 0, 0, 0), (36, .getstatic 29, 3, 102, 2, 0, 595), (39, .areturn, 1, 0, 0, 0, 0), (40, .aload_n 0, 1, 0, 0, 0, 0), (41, .getfield 7, 3, 334, 8, 0, 0), (44, .areturn, 1, 0, 0, 0, 0)]
set_option maxRecDepth 100000 in
set_option maxHeartbeats 4000000 in
theorem c_X8_rowOf (l : Launch) (G : vg_G) (hp : vg_Hp G) : vg_Ct l G vg_sh r_X8_rowOf := by
  refine vg_meth hp vg_sh_ok r_X8_rowOf k_X8_rowOf rfl (fun _ as σ k σ' h => by
    unfold r_X8_rowOf at h ⊢
    dsimp only at h ⊢
    split at h
    · rename_i e
      cases e
      rcases h.2 with ⟨-, h⟩ | ⟨-, h⟩ | ⟨-, h⟩ | ⟨-, -, -, h⟩ <;> subst h <;> decide
    · exact h.elim) o_X8_rowOf [] false (by decide +kernel) (by decide +kernel) ⟨_, _, rfl, rfl⟩ (fun _ h => absurd h List.not_mem_nil) (fun h => by cases h) 600 ?_
  intro as s0 hpre
  obtain ⟨r, a1, rfl, hr, i0⟩ := hpre
  simp only [List.mem_cons, List.not_mem_nil, or_false] at hr
  rcases hr with rfl
  ·
    refine ⟨Nat.le_of_ble_eq_true rfl, [], ?_, fun _ h => absurd h List.not_mem_nil⟩
    ·
      refine And.intro (fun c1 => ?_) ?_
      · have c1 : a1.toInt < (0) ∨ (2) < a1.toInt := c1
        show s0 = s0 ∧ ((a1.toInt = 0 ∧ 17 = 100) ∨ (a1.toInt = 1 ∧ 17 = 101) ∨ (a1.toInt = 2 ∧ 17 = 102) ∨ (¬ a1.toInt = 0 ∧ ¬ a1.toInt = 1 ∧ ¬ a1.toInt = 2 ∧ 17 = 17))
        exact ⟨rfl, (by first | exact Or.inl ⟨by omega, rfl⟩ | exact Or.inr (Or.inl ⟨by omega, rfl⟩) | exact Or.inr (Or.inr (Or.inl ⟨by omega, rfl⟩)) | exact Or.inr (Or.inr (Or.inr ⟨by omega, by omega, by omega, rfl⟩)))⟩
      refine And.intro (fun c2 => ?_) ?_
      · have c2 : a1.toInt = (0) := c2
        show s0 = s0 ∧ ((a1.toInt = 0 ∧ 100 = 100) ∨ (a1.toInt = 1 ∧ 100 = 101) ∨ (a1.toInt = 2 ∧ 100 = 102) ∨ (¬ a1.toInt = 0 ∧ ¬ a1.toInt = 1 ∧ ¬ a1.toInt = 2 ∧ 100 = 17))
        exact ⟨rfl, (by first | exact Or.inl ⟨by omega, rfl⟩ | exact Or.inr (Or.inl ⟨by omega, rfl⟩) | exact Or.inr (Or.inr (Or.inl ⟨by omega, rfl⟩)) | exact Or.inr (Or.inr (Or.inr ⟨by omega, by omega, by omega, rfl⟩)))⟩
      refine And.intro (fun c3 => ?_) ?_
      · have c3 : a1.toInt = (1) := c3
        show s0 = s0 ∧ ((a1.toInt = 0 ∧ 101 = 100) ∨ (a1.toInt = 1 ∧ 101 = 101) ∨ (a1.toInt = 2 ∧ 101 = 102) ∨ (¬ a1.toInt = 0 ∧ ¬ a1.toInt = 1 ∧ ¬ a1.toInt = 2 ∧ 101 = 17))
        exact ⟨rfl, (by first | exact Or.inl ⟨by omega, rfl⟩ | exact Or.inr (Or.inl ⟨by omega, rfl⟩) | exact Or.inr (Or.inr (Or.inl ⟨by omega, rfl⟩)) | exact Or.inr (Or.inr (Or.inr ⟨by omega, by omega, by omega, rfl⟩)))⟩
      refine And.intro (fun c4 => ?_) ?_
      · have c4 : a1.toInt = (2) := c4
        show s0 = s0 ∧ ((a1.toInt = 0 ∧ 102 = 100) ∨ (a1.toInt = 1 ∧ 102 = 101) ∨ (a1.toInt = 2 ∧ 102 = 102) ∨ (¬ a1.toInt = 0 ∧ ¬ a1.toInt = 1 ∧ ¬ a1.toInt = 2 ∧ 102 = 17))
        exact ⟨rfl, (by first | exact Or.inl ⟨by omega, rfl⟩ | exact Or.inr (Or.inl ⟨by omega, rfl⟩) | exact Or.inr (Or.inr (Or.inl ⟨by omega, rfl⟩)) | exact Or.inr (Or.inr (Or.inr ⟨by omega, by omega, by omega, rfl⟩)))⟩
      exact trivial
def o_X8_shiftOf : List vg_I := [(0, .iload_n 1, 1, 0, 0, 0, 0), (1, .tableswitch 34 0 2 #[27, 29, 31], 27, 0, 0, 0, 0), (28, .iconst 2, 1, 0, 0, 0, 0), (29, .ireturn, 1, 0, 0, 0, 0), (30, .iconst 5, 1, 0, 0, 0, 0), (31, .ireturn, 1, 0, 0, 0, 0), (32, .bipush 9, 2, 0, 0, 0, 0), (34, .ireturn, 1, 0, 0, 0, 0), (35, .aload_n 0, 1, 0, 0, 0, 0), (36, .getfield 19, 3, 335, 8, 1, 0), (39, .ireturn, 1, 0, 0, 0, 0)]
set_option maxRecDepth 100000 in
set_option maxHeartbeats 4000000 in
theorem c_X8_shiftOf (l : Launch) (G : vg_G) (hp : vg_Hp G) : vg_Ct l G vg_sh r_X8_shiftOf := by
  refine vg_meth hp vg_sh_ok r_X8_shiftOf k_X8_shiftOf rfl (fun h => by cases h) o_X8_shiftOf [] false (by decide +kernel) (by decide +kernel) ⟨_, _, rfl, rfl⟩ (fun _ h => absurd h List.not_mem_nil) (fun h => by cases h) 600 ?_
  intro as s0 hpre
  obtain ⟨r, a1, rfl, hr, i0⟩ := hpre
  simp only [List.mem_cons, List.not_mem_nil, or_false] at hr
  rcases hr with rfl
  ·
    have z2 : (Int32.ofInt 2).toInt = 2 := by decide
    have z5 : (Int32.ofInt 5).toInt = 5 := by decide
    have z9 : (Int32.ofInt 9).toInt = 9 := by decide
    refine ⟨Nat.le_of_ble_eq_true rfl, [], ?_, fun _ h => absurd h List.not_mem_nil⟩
    ·
      refine And.intro (fun c1 => ?_) ?_
      · have c1 : a1.toInt < (0) ∨ (2) < a1.toInt := c1
        intro v2 e3
        have g4 : s0.1 16 1 = v2 := by rw [e3]
        show s0 = s0 ∧ (True)
        exact ⟨rfl, (trivial)⟩
      refine And.intro (fun c5 => ?_) ?_
      · have c5 : a1.toInt = (0) := c5
        show s0 = s0 ∧ (True)
        exact ⟨rfl, (trivial)⟩
      refine And.intro (fun c6 => ?_) ?_
      · have c6 : a1.toInt = (1) := c6
        show s0 = s0 ∧ (True)
        exact ⟨rfl, (trivial)⟩
      refine And.intro (fun c7 => ?_) ?_
      · have c7 : a1.toInt = (2) := c7
        show s0 = s0 ∧ (True)
        exact ⟨rfl, (trivial)⟩
      exact trivial
def o_X3_number : List vg_I := [(0, .aload_n 1, 1, 0, 0, 0, 0), (1, .aload_n 0, 1, 0, 0, 0, 0), (2, .getfield 27, 3, 393, 3, 0, 0), (5, .invokevirtual 30, 3, 0, 8, 1, 775), (8, .astore_n 2, 1, 0, 0, 0, 0), (9, .lconst 0, 1, 0, 0, 0, 0), (10, .lstore_n 3, 1, 0, 0, 0, 0), (11, .iconst 0, 1, 0, 0, 0, 0), (12, .istore 5, 2, 0, 0, 0, 0), (14, .iload 5, 2, 0, 0, 0, 0), (16, .aload_n 2, 1, 0, 0, 0, 0), (17, .arraylength, 1, 0, 0, 0, 0), (18, .if_icmp .ge 34, 3, 0, 0, 0, 0), (21, .lload_n 3, 1, 0, 0, 0, 0), (22, .aload_n 2, 1, 0, 0, 0, 0), (23, .iload 5, 2, 0, 0, 0, 0), (25, .iaload, 1, 0, 0, 0, 0), (26, .i2l, 1, 0, 0, 0, 0), (27, .aload_n 0, 1, 0, 0, 0, 0), (28, .getfield 9, 3, 395, 3, 1, 0), (31, .aload_n 0, 1, 0, 0, 0, 0), (32, .getfield 19, 3, 396, 3, 2, 0), (35, .iload 5, 2, 0, 0, 0, 0), (37, .isub, 1, 0, 0, 0, 0), (38, .bipush 15, 2, 0, 0, 0, 0), (40, .iand, 1, 0, 0, 0, 0), (41, .iaload, 1, 0, 0, 0, 0), (42, .i2l, 1, 0, 0, 0, 0), (43, .lmul, 1, 0, 0, 0, 0), (44, .ladd, 1, 0, 0, 0, 0), (45, .lstore_n 3, 1, 0, 0, 0, 0), (46, .iinc 5 1, 3, 0, 0, 0, 0), (49, .goto (-35), 3, 0, 0, 0, 0), (52, .lload_n 3, 1, 0, 0, 0, 0), (53, .aload_n 1, 1, 0, 0, 0, 0), (54, .aload_n 0, 1, 0, 0, 0, 0), (55, .getfield 27, 3, 393, 3, 0, 0), (58, .invokevirtual 36, 3, 1, 8, 1, 776), (61, .lshr, 1, 0, 0, 0, 0), (62, .l2i, 1, 0, 0, 0, 0), (63, .ireturn, 1, 0, 0, 0, 0)]
set_option maxRecDepth 100000 in
set_option maxHeartbeats 4000000 in
theorem c_X3_number (l : Launch) (G : vg_G) (hp : vg_Hp G) : vg_Ct l G vg_sh r_X3_number := by
  refine vg_meth hp vg_sh_ok r_X3_number k_X3_number rfl (fun h => by cases h) o_X3_number [r_X8_rowOf, r_X8_shiftOf] false (by decide +kernel) (by decide +kernel) ⟨_, _, rfl, rfl⟩ (List.forall_mem_cons.mpr ⟨⟨c_X8_rowOf l G hp, Nat.le_of_ble_eq_true rfl, Nat.le_of_ble_eq_true rfl⟩, List.forall_mem_cons.mpr ⟨⟨c_X8_shiftOf l G hp, Nat.le_of_ble_eq_true rfl, Nat.le_of_ble_eq_true rfl⟩, fun _ h => absurd h List.not_mem_nil⟩⟩) (fun h => by cases h) 600 ?_
  intro as s0 hpre
  obtain ⟨r, a1, rfl, hr, ha1, i0⟩ := hpre
  simp only [List.mem_cons, List.not_mem_nil, or_false] at hr
  rcases hr with rfl | rfl | rfl
  ·
    simp only [List.mem_cons, List.not_mem_nil, or_false] at ha1
    rcases ha1 with rfl
    ·
      have z0 : (Int32.ofInt 0).toInt = 0 := by decide
      have z1 : (Int32.ofInt 1).toInt = 1 := by decide
      have z15 : (Int32.ofInt 15).toInt = 15 := by decide
      have n3 : (Int32.ofNat 3).toInt = 3 := by decide
      have n7 : (Int32.ofNat 7).toInt = 7 := by decide
      have n11 : (Int32.ofNat 11).toInt = 11 := by decide
      refine ⟨Nat.le_of_ble_eq_true rfl, [(14, [true, true, true, true, false, true], (fun L t => ∃ (x2 : Nat) (x3 : Int64) (x5 : Int32), L = [some (.ref 35), some (.ref 16), some (.ref x2), some (.long x3), none, some (.int x5)] ∧ x2 ∈ ([100, 101, 102, 17] : List Nat) ∧ (0 : Int) ≤ x5.toInt ∧ x5.toInt ≤ (11 : Int) ∧ t = s0), (fun L _ => (11 - (vg_li L 5).toInt).toNat))], ?_, List.forall_mem_cons.mpr ⟨?_, fun _ h => absurd h List.not_mem_nil⟩⟩
      ·
        intro v1 e2
        have g3 : s0.1 35 0 = v1 := by rw [e2]
        refine And.intro (Nat.le_of_ble_eq_true rfl) (And.intro ⟨16, v1, rfl, by decide, i0⟩ ?_)
        refine And.intro ?_ ?_
        ·
          intro s5 h4
          have h4 : s5 = s0 ∧ ((v1.toInt = 0 ∧ 100 = 100) ∨ (v1.toInt = 1 ∧ 100 = 101) ∨ (v1.toInt = 2 ∧ 100 = 102) ∨ (¬ v1.toInt = 0 ∧ ¬ v1.toInt = 1 ∧ ¬ v1.toInt = 2 ∧ 100 = 17)) := h4
          have q8 := h4.1.symm
          subst q8
          have q9 := h4.2
          exact ⟨rfl, ⟨100, (Int64.ofNat 0), (Int32.ofInt 0), rfl, (by decide), (by omega), (by omega), rfl⟩, trivial⟩
        refine And.intro ?_ ?_
        ·
          intro s11 h10
          have h10 : s11 = s0 ∧ ((v1.toInt = 0 ∧ 101 = 100) ∨ (v1.toInt = 1 ∧ 101 = 101) ∨ (v1.toInt = 2 ∧ 101 = 102) ∨ (¬ v1.toInt = 0 ∧ ¬ v1.toInt = 1 ∧ ¬ v1.toInt = 2 ∧ 101 = 17)) := h10
          have q14 := h10.1.symm
          subst q14
          have q15 := h10.2
          exact ⟨rfl, ⟨101, (Int64.ofNat 0), (Int32.ofInt 0), rfl, (by decide), (by omega), (by omega), rfl⟩, trivial⟩
        refine And.intro ?_ ?_
        ·
          intro s17 h16
          have h16 : s17 = s0 ∧ ((v1.toInt = 0 ∧ 102 = 100) ∨ (v1.toInt = 1 ∧ 102 = 101) ∨ (v1.toInt = 2 ∧ 102 = 102) ∨ (¬ v1.toInt = 0 ∧ ¬ v1.toInt = 1 ∧ ¬ v1.toInt = 2 ∧ 102 = 17)) := h16
          have q20 := h16.1.symm
          subst q20
          have q21 := h16.2
          exact ⟨rfl, ⟨102, (Int64.ofNat 0), (Int32.ofInt 0), rfl, (by decide), (by omega), (by omega), rfl⟩, trivial⟩
        refine And.intro ?_ ?_
        ·
          intro s23 h22
          have h22 : s23 = s0 ∧ ((v1.toInt = 0 ∧ 17 = 100) ∨ (v1.toInt = 1 ∧ 17 = 101) ∨ (v1.toInt = 2 ∧ 17 = 102) ∨ (¬ v1.toInt = 0 ∧ ¬ v1.toInt = 1 ∧ ¬ v1.toInt = 2 ∧ 17 = 17)) := h22
          have q26 := h22.1.symm
          subst q26
          have q27 := h22.2
          exact ⟨rfl, ⟨17, (Int64.ofNat 0), (Int32.ofInt 0), rfl, (by decide), (by omega), (by omega), rfl⟩, trivial⟩
        exact trivial
      ·
        intro L s34 hL
        obtain ⟨p28, w30, w31, rfl, h29, b32, b33, q37⟩ := hL
        have q37 := q37.symm
        subst q37
        simp only [List.mem_cons, List.not_mem_nil, or_false] at h29
        rcases h29 with rfl | rfl | rfl | rfl
        ·
          refine And.intro (fun c38 => ?_) (fun c38 => ?_)
          · have c38 : (Int32.ofNat 3).toInt ≤ w31.toInt := c38
            intro v39 e40
            have g41 : s0.1 35 0 = v39 := by rw [e40]
            refine And.intro (Nat.le_of_ble_eq_true rfl) (And.intro ⟨16, v39, rfl, by decide, i0⟩ ?_)
            intro v42 s44 h43
            have h43 : s44 = s0 ∧ (True) := h43
            have q47 := h43.1.symm
            subst q47
            intro v48 e49
            intro v50 e51
            show s0 = s0 ∧ (True)
            exact ⟨rfl, (trivial)⟩
          · have c38 : ¬ ((Int32.ofNat 3).toInt ≤ w31.toInt) := c38
            refine And.intro ⟨by omega, by omega⟩ ?_
            intro v52 e53
            intro v54 e55
            intro v56 e57
            have g58 : s0.1 35 2 = v56 := by rw [e57]
            intro v59 e60
            intro v61 e62
            have b63 := vg_and e62 (by omega)
            refine And.intro ⟨by omega, by omega⟩ ?_
            intro v64 e65
            intro v66 e67
            intro v68 e69
            intro v70 e71
            intro v72 e73
            have b74 := vg_add e73 (by omega) (by omega)
            exact ⟨rfl, ⟨100, v70, v72, rfl, (by decide), (by omega), (by omega), rfl⟩, (by show (11 - v72.toInt).toNat < (11 - w31.toInt).toNat; omega)⟩
        ·
          refine And.intro (fun c75 => ?_) (fun c75 => ?_)
          · have c75 : (Int32.ofNat 7).toInt ≤ w31.toInt := c75
            intro v76 e77
            have g78 : s0.1 35 0 = v76 := by rw [e77]
            refine And.intro (Nat.le_of_ble_eq_true rfl) (And.intro ⟨16, v76, rfl, by decide, i0⟩ ?_)
            intro v79 s81 h80
            have h80 : s81 = s0 ∧ (True) := h80
            have q84 := h80.1.symm
            subst q84
            intro v85 e86
            intro v87 e88
            show s0 = s0 ∧ (True)
            exact ⟨rfl, (trivial)⟩
          · have c75 : ¬ ((Int32.ofNat 7).toInt ≤ w31.toInt) := c75
            refine And.intro ⟨by omega, by omega⟩ ?_
            intro v89 e90
            intro v91 e92
            intro v93 e94
            have g95 : s0.1 35 2 = v93 := by rw [e94]
            intro v96 e97
            intro v98 e99
            have b100 := vg_and e99 (by omega)
            refine And.intro ⟨by omega, by omega⟩ ?_
            intro v101 e102
            intro v103 e104
            intro v105 e106
            intro v107 e108
            intro v109 e110
            have b111 := vg_add e110 (by omega) (by omega)
            exact ⟨rfl, ⟨101, v107, v109, rfl, (by decide), (by omega), (by omega), rfl⟩, (by show (11 - v109.toInt).toNat < (11 - w31.toInt).toNat; omega)⟩
        ·
          refine And.intro (fun c112 => ?_) (fun c112 => ?_)
          · have c112 : (Int32.ofNat 11).toInt ≤ w31.toInt := c112
            intro v113 e114
            have g115 : s0.1 35 0 = v113 := by rw [e114]
            refine And.intro (Nat.le_of_ble_eq_true rfl) (And.intro ⟨16, v113, rfl, by decide, i0⟩ ?_)
            intro v116 s118 h117
            have h117 : s118 = s0 ∧ (True) := h117
            have q121 := h117.1.symm
            subst q121
            intro v122 e123
            intro v124 e125
            show s0 = s0 ∧ (True)
            exact ⟨rfl, (trivial)⟩
          · have c112 : ¬ ((Int32.ofNat 11).toInt ≤ w31.toInt) := c112
            refine And.intro ⟨by omega, by omega⟩ ?_
            intro v126 e127
            intro v128 e129
            intro v130 e131
            have g132 : s0.1 35 2 = v130 := by rw [e131]
            intro v133 e134
            intro v135 e136
            have b137 := vg_and e136 (by omega)
            refine And.intro ⟨by omega, by omega⟩ ?_
            intro v138 e139
            intro v140 e141
            intro v142 e143
            intro v144 e145
            intro v146 e147
            have b148 := vg_add e147 (by omega) (by omega)
            exact ⟨rfl, ⟨102, v144, v146, rfl, (by decide), (by omega), (by omega), rfl⟩, (by show (11 - v146.toInt).toNat < (11 - w31.toInt).toNat; omega)⟩
        ·
          refine And.intro (fun c149 => ?_) (fun c149 => ?_)
          · have c149 : (Int32.ofNat 7).toInt ≤ w31.toInt := c149
            intro v150 e151
            have g152 : s0.1 35 0 = v150 := by rw [e151]
            refine And.intro (Nat.le_of_ble_eq_true rfl) (And.intro ⟨16, v150, rfl, by decide, i0⟩ ?_)
            intro v153 s155 h154
            have h154 : s155 = s0 ∧ (True) := h154
            have q158 := h154.1.symm
            subst q158
            intro v159 e160
            intro v161 e162
            show s0 = s0 ∧ (True)
            exact ⟨rfl, (trivial)⟩
          · have c149 : ¬ ((Int32.ofNat 7).toInt ≤ w31.toInt) := c149
            refine And.intro ⟨by omega, by omega⟩ ?_
            intro v163 e164
            intro v165 e166
            intro v167 e168
            have g169 : s0.1 35 2 = v167 := by rw [e168]
            intro v170 e171
            intro v172 e173
            have b174 := vg_and e173 (by omega)
            refine And.intro ⟨by omega, by omega⟩ ?_
            intro v175 e176
            intro v177 e178
            intro v179 e180
            intro v181 e182
            intro v183 e184
            have b185 := vg_add e184 (by omega) (by omega)
            exact ⟨rfl, ⟨17, v181, v183, rfl, (by decide), (by omega), (by omega), rfl⟩, (by show (11 - v183.toInt).toNat < (11 - w31.toInt).toNat; omega)⟩
  ·
    simp only [List.mem_cons, List.not_mem_nil, or_false] at ha1
    rcases ha1 with rfl
    ·
      have z0 : (Int32.ofInt 0).toInt = 0 := by decide
      have z1 : (Int32.ofInt 1).toInt = 1 := by decide
      have z15 : (Int32.ofInt 15).toInt = 15 := by decide
      have n3 : (Int32.ofNat 3).toInt = 3 := by decide
      have n7 : (Int32.ofNat 7).toInt = 7 := by decide
      have n11 : (Int32.ofNat 11).toInt = 11 := by decide
      refine ⟨Nat.le_of_ble_eq_true rfl, [(14, [true, true, true, true, false, true], (fun L t => ∃ (x2 : Nat) (x3 : Int64) (x5 : Int32), L = [some (.ref 37), some (.ref 16), some (.ref x2), some (.long x3), none, some (.int x5)] ∧ x2 ∈ ([100, 101, 102, 17] : List Nat) ∧ (0 : Int) ≤ x5.toInt ∧ x5.toInt ≤ (11 : Int) ∧ t = s0), (fun L _ => (11 - (vg_li L 5).toInt).toNat))], ?_, List.forall_mem_cons.mpr ⟨?_, fun _ h => absurd h List.not_mem_nil⟩⟩
      ·
        intro v1 e2
        have g3 : s0.1 37 0 = v1 := by rw [e2]
        refine And.intro (Nat.le_of_ble_eq_true rfl) (And.intro ⟨16, v1, rfl, by decide, i0⟩ ?_)
        refine And.intro ?_ ?_
        ·
          intro s5 h4
          have h4 : s5 = s0 ∧ ((v1.toInt = 0 ∧ 100 = 100) ∨ (v1.toInt = 1 ∧ 100 = 101) ∨ (v1.toInt = 2 ∧ 100 = 102) ∨ (¬ v1.toInt = 0 ∧ ¬ v1.toInt = 1 ∧ ¬ v1.toInt = 2 ∧ 100 = 17)) := h4
          have q8 := h4.1.symm
          subst q8
          have q9 := h4.2
          exact ⟨rfl, ⟨100, (Int64.ofNat 0), (Int32.ofInt 0), rfl, (by decide), (by omega), (by omega), rfl⟩, trivial⟩
        refine And.intro ?_ ?_
        ·
          intro s11 h10
          have h10 : s11 = s0 ∧ ((v1.toInt = 0 ∧ 101 = 100) ∨ (v1.toInt = 1 ∧ 101 = 101) ∨ (v1.toInt = 2 ∧ 101 = 102) ∨ (¬ v1.toInt = 0 ∧ ¬ v1.toInt = 1 ∧ ¬ v1.toInt = 2 ∧ 101 = 17)) := h10
          have q14 := h10.1.symm
          subst q14
          have q15 := h10.2
          exact ⟨rfl, ⟨101, (Int64.ofNat 0), (Int32.ofInt 0), rfl, (by decide), (by omega), (by omega), rfl⟩, trivial⟩
        refine And.intro ?_ ?_
        ·
          intro s17 h16
          have h16 : s17 = s0 ∧ ((v1.toInt = 0 ∧ 102 = 100) ∨ (v1.toInt = 1 ∧ 102 = 101) ∨ (v1.toInt = 2 ∧ 102 = 102) ∨ (¬ v1.toInt = 0 ∧ ¬ v1.toInt = 1 ∧ ¬ v1.toInt = 2 ∧ 102 = 17)) := h16
          have q20 := h16.1.symm
          subst q20
          have q21 := h16.2
          exact ⟨rfl, ⟨102, (Int64.ofNat 0), (Int32.ofInt 0), rfl, (by decide), (by omega), (by omega), rfl⟩, trivial⟩
        refine And.intro ?_ ?_
        ·
          intro s23 h22
          have h22 : s23 = s0 ∧ ((v1.toInt = 0 ∧ 17 = 100) ∨ (v1.toInt = 1 ∧ 17 = 101) ∨ (v1.toInt = 2 ∧ 17 = 102) ∨ (¬ v1.toInt = 0 ∧ ¬ v1.toInt = 1 ∧ ¬ v1.toInt = 2 ∧ 17 = 17)) := h22
          have q26 := h22.1.symm
          subst q26
          have q27 := h22.2
          exact ⟨rfl, ⟨17, (Int64.ofNat 0), (Int32.ofInt 0), rfl, (by decide), (by omega), (by omega), rfl⟩, trivial⟩
        exact trivial
      ·
        intro L s34 hL
        obtain ⟨p28, w30, w31, rfl, h29, b32, b33, q37⟩ := hL
        have q37 := q37.symm
        subst q37
        simp only [List.mem_cons, List.not_mem_nil, or_false] at h29
        rcases h29 with rfl | rfl | rfl | rfl
        ·
          refine And.intro (fun c38 => ?_) (fun c38 => ?_)
          · have c38 : (Int32.ofNat 3).toInt ≤ w31.toInt := c38
            intro v39 e40
            have g41 : s0.1 37 0 = v39 := by rw [e40]
            refine And.intro (Nat.le_of_ble_eq_true rfl) (And.intro ⟨16, v39, rfl, by decide, i0⟩ ?_)
            intro v42 s44 h43
            have h43 : s44 = s0 ∧ (True) := h43
            have q47 := h43.1.symm
            subst q47
            intro v48 e49
            intro v50 e51
            show s0 = s0 ∧ (True)
            exact ⟨rfl, (trivial)⟩
          · have c38 : ¬ ((Int32.ofNat 3).toInt ≤ w31.toInt) := c38
            refine And.intro ⟨by omega, by omega⟩ ?_
            intro v52 e53
            intro v54 e55
            intro v56 e57
            have g58 : s0.1 37 2 = v56 := by rw [e57]
            intro v59 e60
            intro v61 e62
            have b63 := vg_and e62 (by omega)
            refine And.intro ⟨by omega, by omega⟩ ?_
            intro v64 e65
            intro v66 e67
            intro v68 e69
            intro v70 e71
            intro v72 e73
            have b74 := vg_add e73 (by omega) (by omega)
            exact ⟨rfl, ⟨100, v70, v72, rfl, (by decide), (by omega), (by omega), rfl⟩, (by show (11 - v72.toInt).toNat < (11 - w31.toInt).toNat; omega)⟩
        ·
          refine And.intro (fun c75 => ?_) (fun c75 => ?_)
          · have c75 : (Int32.ofNat 7).toInt ≤ w31.toInt := c75
            intro v76 e77
            have g78 : s0.1 37 0 = v76 := by rw [e77]
            refine And.intro (Nat.le_of_ble_eq_true rfl) (And.intro ⟨16, v76, rfl, by decide, i0⟩ ?_)
            intro v79 s81 h80
            have h80 : s81 = s0 ∧ (True) := h80
            have q84 := h80.1.symm
            subst q84
            intro v85 e86
            intro v87 e88
            show s0 = s0 ∧ (True)
            exact ⟨rfl, (trivial)⟩
          · have c75 : ¬ ((Int32.ofNat 7).toInt ≤ w31.toInt) := c75
            refine And.intro ⟨by omega, by omega⟩ ?_
            intro v89 e90
            intro v91 e92
            intro v93 e94
            have g95 : s0.1 37 2 = v93 := by rw [e94]
            intro v96 e97
            intro v98 e99
            have b100 := vg_and e99 (by omega)
            refine And.intro ⟨by omega, by omega⟩ ?_
            intro v101 e102
            intro v103 e104
            intro v105 e106
            intro v107 e108
            intro v109 e110
            have b111 := vg_add e110 (by omega) (by omega)
            exact ⟨rfl, ⟨101, v107, v109, rfl, (by decide), (by omega), (by omega), rfl⟩, (by show (11 - v109.toInt).toNat < (11 - w31.toInt).toNat; omega)⟩
        ·
          refine And.intro (fun c112 => ?_) (fun c112 => ?_)
          · have c112 : (Int32.ofNat 11).toInt ≤ w31.toInt := c112
            intro v113 e114
            have g115 : s0.1 37 0 = v113 := by rw [e114]
            refine And.intro (Nat.le_of_ble_eq_true rfl) (And.intro ⟨16, v113, rfl, by decide, i0⟩ ?_)
            intro v116 s118 h117
            have h117 : s118 = s0 ∧ (True) := h117
            have q121 := h117.1.symm
            subst q121
            intro v122 e123
            intro v124 e125
            show s0 = s0 ∧ (True)
            exact ⟨rfl, (trivial)⟩
          · have c112 : ¬ ((Int32.ofNat 11).toInt ≤ w31.toInt) := c112
            refine And.intro ⟨by omega, by omega⟩ ?_
            intro v126 e127
            intro v128 e129
            intro v130 e131
            have g132 : s0.1 37 2 = v130 := by rw [e131]
            intro v133 e134
            intro v135 e136
            have b137 := vg_and e136 (by omega)
            refine And.intro ⟨by omega, by omega⟩ ?_
            intro v138 e139
            intro v140 e141
            intro v142 e143
            intro v144 e145
            intro v146 e147
            have b148 := vg_add e147 (by omega) (by omega)
            exact ⟨rfl, ⟨102, v144, v146, rfl, (by decide), (by omega), (by omega), rfl⟩, (by show (11 - v146.toInt).toNat < (11 - w31.toInt).toNat; omega)⟩
        ·
          refine And.intro (fun c149 => ?_) (fun c149 => ?_)
          · have c149 : (Int32.ofNat 7).toInt ≤ w31.toInt := c149
            intro v150 e151
            have g152 : s0.1 37 0 = v150 := by rw [e151]
            refine And.intro (Nat.le_of_ble_eq_true rfl) (And.intro ⟨16, v150, rfl, by decide, i0⟩ ?_)
            intro v153 s155 h154
            have h154 : s155 = s0 ∧ (True) := h154
            have q158 := h154.1.symm
            subst q158
            intro v159 e160
            intro v161 e162
            show s0 = s0 ∧ (True)
            exact ⟨rfl, (trivial)⟩
          · have c149 : ¬ ((Int32.ofNat 7).toInt ≤ w31.toInt) := c149
            refine And.intro ⟨by omega, by omega⟩ ?_
            intro v163 e164
            intro v165 e166
            intro v167 e168
            have g169 : s0.1 37 2 = v167 := by rw [e168]
            intro v170 e171
            intro v172 e173
            have b174 := vg_and e173 (by omega)
            refine And.intro ⟨by omega, by omega⟩ ?_
            intro v175 e176
            intro v177 e178
            intro v179 e180
            intro v181 e182
            intro v183 e184
            have b185 := vg_add e184 (by omega) (by omega)
            exact ⟨rfl, ⟨17, v181, v183, rfl, (by decide), (by omega), (by omega), rfl⟩, (by show (11 - v183.toInt).toNat < (11 - w31.toInt).toNat; omega)⟩
  ·
    simp only [List.mem_cons, List.not_mem_nil, or_false] at ha1
    rcases ha1 with rfl
    ·
      have z0 : (Int32.ofInt 0).toInt = 0 := by decide
      have z1 : (Int32.ofInt 1).toInt = 1 := by decide
      have z15 : (Int32.ofInt 15).toInt = 15 := by decide
      have n3 : (Int32.ofNat 3).toInt = 3 := by decide
      have n7 : (Int32.ofNat 7).toInt = 7 := by decide
      have n11 : (Int32.ofNat 11).toInt = 11 := by decide
      refine ⟨Nat.le_of_ble_eq_true rfl, [(14, [true, true, true, true, false, true], (fun L t => ∃ (x2 : Nat) (x3 : Int64) (x5 : Int32), L = [some (.ref 39), some (.ref 16), some (.ref x2), some (.long x3), none, some (.int x5)] ∧ x2 ∈ ([100, 101, 102, 17] : List Nat) ∧ (0 : Int) ≤ x5.toInt ∧ x5.toInt ≤ (11 : Int) ∧ t = s0), (fun L _ => (11 - (vg_li L 5).toInt).toNat))], ?_, List.forall_mem_cons.mpr ⟨?_, fun _ h => absurd h List.not_mem_nil⟩⟩
      ·
        intro v1 e2
        have g3 : s0.1 39 0 = v1 := by rw [e2]
        refine And.intro (Nat.le_of_ble_eq_true rfl) (And.intro ⟨16, v1, rfl, by decide, i0⟩ ?_)
        refine And.intro ?_ ?_
        ·
          intro s5 h4
          have h4 : s5 = s0 ∧ ((v1.toInt = 0 ∧ 100 = 100) ∨ (v1.toInt = 1 ∧ 100 = 101) ∨ (v1.toInt = 2 ∧ 100 = 102) ∨ (¬ v1.toInt = 0 ∧ ¬ v1.toInt = 1 ∧ ¬ v1.toInt = 2 ∧ 100 = 17)) := h4
          have q8 := h4.1.symm
          subst q8
          have q9 := h4.2
          exact ⟨rfl, ⟨100, (Int64.ofNat 0), (Int32.ofInt 0), rfl, (by decide), (by omega), (by omega), rfl⟩, trivial⟩
        refine And.intro ?_ ?_
        ·
          intro s11 h10
          have h10 : s11 = s0 ∧ ((v1.toInt = 0 ∧ 101 = 100) ∨ (v1.toInt = 1 ∧ 101 = 101) ∨ (v1.toInt = 2 ∧ 101 = 102) ∨ (¬ v1.toInt = 0 ∧ ¬ v1.toInt = 1 ∧ ¬ v1.toInt = 2 ∧ 101 = 17)) := h10
          have q14 := h10.1.symm
          subst q14
          have q15 := h10.2
          exact ⟨rfl, ⟨101, (Int64.ofNat 0), (Int32.ofInt 0), rfl, (by decide), (by omega), (by omega), rfl⟩, trivial⟩
        refine And.intro ?_ ?_
        ·
          intro s17 h16
          have h16 : s17 = s0 ∧ ((v1.toInt = 0 ∧ 102 = 100) ∨ (v1.toInt = 1 ∧ 102 = 101) ∨ (v1.toInt = 2 ∧ 102 = 102) ∨ (¬ v1.toInt = 0 ∧ ¬ v1.toInt = 1 ∧ ¬ v1.toInt = 2 ∧ 102 = 17)) := h16
          have q20 := h16.1.symm
          subst q20
          have q21 := h16.2
          exact ⟨rfl, ⟨102, (Int64.ofNat 0), (Int32.ofInt 0), rfl, (by decide), (by omega), (by omega), rfl⟩, trivial⟩
        refine And.intro ?_ ?_
        ·
          intro s23 h22
          have h22 : s23 = s0 ∧ ((v1.toInt = 0 ∧ 17 = 100) ∨ (v1.toInt = 1 ∧ 17 = 101) ∨ (v1.toInt = 2 ∧ 17 = 102) ∨ (¬ v1.toInt = 0 ∧ ¬ v1.toInt = 1 ∧ ¬ v1.toInt = 2 ∧ 17 = 17)) := h22
          have q26 := h22.1.symm
          subst q26
          have q27 := h22.2
          exact ⟨rfl, ⟨17, (Int64.ofNat 0), (Int32.ofInt 0), rfl, (by decide), (by omega), (by omega), rfl⟩, trivial⟩
        exact trivial
      ·
        intro L s34 hL
        obtain ⟨p28, w30, w31, rfl, h29, b32, b33, q37⟩ := hL
        have q37 := q37.symm
        subst q37
        simp only [List.mem_cons, List.not_mem_nil, or_false] at h29
        rcases h29 with rfl | rfl | rfl | rfl
        ·
          refine And.intro (fun c38 => ?_) (fun c38 => ?_)
          · have c38 : (Int32.ofNat 3).toInt ≤ w31.toInt := c38
            intro v39 e40
            have g41 : s0.1 39 0 = v39 := by rw [e40]
            refine And.intro (Nat.le_of_ble_eq_true rfl) (And.intro ⟨16, v39, rfl, by decide, i0⟩ ?_)
            intro v42 s44 h43
            have h43 : s44 = s0 ∧ (True) := h43
            have q47 := h43.1.symm
            subst q47
            intro v48 e49
            intro v50 e51
            show s0 = s0 ∧ (True)
            exact ⟨rfl, (trivial)⟩
          · have c38 : ¬ ((Int32.ofNat 3).toInt ≤ w31.toInt) := c38
            refine And.intro ⟨by omega, by omega⟩ ?_
            intro v52 e53
            intro v54 e55
            intro v56 e57
            have g58 : s0.1 39 2 = v56 := by rw [e57]
            intro v59 e60
            intro v61 e62
            have b63 := vg_and e62 (by omega)
            refine And.intro ⟨by omega, by omega⟩ ?_
            intro v64 e65
            intro v66 e67
            intro v68 e69
            intro v70 e71
            intro v72 e73
            have b74 := vg_add e73 (by omega) (by omega)
            exact ⟨rfl, ⟨100, v70, v72, rfl, (by decide), (by omega), (by omega), rfl⟩, (by show (11 - v72.toInt).toNat < (11 - w31.toInt).toNat; omega)⟩
        ·
          refine And.intro (fun c75 => ?_) (fun c75 => ?_)
          · have c75 : (Int32.ofNat 7).toInt ≤ w31.toInt := c75
            intro v76 e77
            have g78 : s0.1 39 0 = v76 := by rw [e77]
            refine And.intro (Nat.le_of_ble_eq_true rfl) (And.intro ⟨16, v76, rfl, by decide, i0⟩ ?_)
            intro v79 s81 h80
            have h80 : s81 = s0 ∧ (True) := h80
            have q84 := h80.1.symm
            subst q84
            intro v85 e86
            intro v87 e88
            show s0 = s0 ∧ (True)
            exact ⟨rfl, (trivial)⟩
          · have c75 : ¬ ((Int32.ofNat 7).toInt ≤ w31.toInt) := c75
            refine And.intro ⟨by omega, by omega⟩ ?_
            intro v89 e90
            intro v91 e92
            intro v93 e94
            have g95 : s0.1 39 2 = v93 := by rw [e94]
            intro v96 e97
            intro v98 e99
            have b100 := vg_and e99 (by omega)
            refine And.intro ⟨by omega, by omega⟩ ?_
            intro v101 e102
            intro v103 e104
            intro v105 e106
            intro v107 e108
            intro v109 e110
            have b111 := vg_add e110 (by omega) (by omega)
            exact ⟨rfl, ⟨101, v107, v109, rfl, (by decide), (by omega), (by omega), rfl⟩, (by show (11 - v109.toInt).toNat < (11 - w31.toInt).toNat; omega)⟩
        ·
          refine And.intro (fun c112 => ?_) (fun c112 => ?_)
          · have c112 : (Int32.ofNat 11).toInt ≤ w31.toInt := c112
            intro v113 e114
            have g115 : s0.1 39 0 = v113 := by rw [e114]
            refine And.intro (Nat.le_of_ble_eq_true rfl) (And.intro ⟨16, v113, rfl, by decide, i0⟩ ?_)
            intro v116 s118 h117
            have h117 : s118 = s0 ∧ (True) := h117
            have q121 := h117.1.symm
            subst q121
            intro v122 e123
            intro v124 e125
            show s0 = s0 ∧ (True)
            exact ⟨rfl, (trivial)⟩
          · have c112 : ¬ ((Int32.ofNat 11).toInt ≤ w31.toInt) := c112
            refine And.intro ⟨by omega, by omega⟩ ?_
            intro v126 e127
            intro v128 e129
            intro v130 e131
            have g132 : s0.1 39 2 = v130 := by rw [e131]
            intro v133 e134
            intro v135 e136
            have b137 := vg_and e136 (by omega)
            refine And.intro ⟨by omega, by omega⟩ ?_
            intro v138 e139
            intro v140 e141
            intro v142 e143
            intro v144 e145
            intro v146 e147
            have b148 := vg_add e147 (by omega) (by omega)
            exact ⟨rfl, ⟨102, v144, v146, rfl, (by decide), (by omega), (by omega), rfl⟩, (by show (11 - v146.toInt).toNat < (11 - w31.toInt).toNat; omega)⟩
        ·
          refine And.intro (fun c149 => ?_) (fun c149 => ?_)
          · have c149 : (Int32.ofNat 7).toInt ≤ w31.toInt := c149
            intro v150 e151
            have g152 : s0.1 39 0 = v150 := by rw [e151]
            refine And.intro (Nat.le_of_ble_eq_true rfl) (And.intro ⟨16, v150, rfl, by decide, i0⟩ ?_)
            intro v153 s155 h154
            have h154 : s155 = s0 ∧ (True) := h154
            have q158 := h154.1.symm
            subst q158
            intro v159 e160
            intro v161 e162
            show s0 = s0 ∧ (True)
            exact ⟨rfl, (trivial)⟩
          · have c149 : ¬ ((Int32.ofNat 7).toInt ≤ w31.toInt) := c149
            refine And.intro ⟨by omega, by omega⟩ ?_
            intro v163 e164
            intro v165 e166
            intro v167 e168
            have g169 : s0.1 39 2 = v167 := by rw [e168]
            intro v170 e171
            intro v172 e173
            have b174 := vg_and e173 (by omega)
            refine And.intro ⟨by omega, by omega⟩ ?_
            intro v175 e176
            intro v177 e178
            intro v179 e180
            intro v181 e182
            intro v183 e184
            have b185 := vg_add e184 (by omega) (by omega)
            exact ⟨rfl, ⟨17, v181, v183, rfl, (by decide), (by omega), (by omega), rfl⟩, (by show (11 - v183.toInt).toNat < (11 - w31.toInt).toNat; omega)⟩
def o_X8_tell : List vg_I := [(0, .aload_n 0, 1, 0, 0, 0, 0), (1, .getfield 7, 3, 334, 8, 0, 0), (4, .iconst 0, 1, 0, 0, 0, 0), (5, .iload_n 1, 1, 0, 0, 0, 0), (6, .iastore, 1, 0, 0, 0, 0), (7, .aload_n 0, 1, 0, 0, 0, 0), (8, .getfield 7, 3, 334, 8, 0, 0), (11, .iconst 1, 1, 0, 0, 0, 0), (12, .iload_n 2, 1, 0, 0, 0, 0), (13, .iastore, 1, 0, 0, 0, 0), (14, .aload_n 0, 1, 0, 0, 0, 0), (15, .getfield 7, 3, 334, 8, 0, 0), (18, .iconst 2, 1, 0, 0, 0, 0), (19, .iload_n 3, 1, 0, 0, 0, 0), (20, .iastore, 1, 0, 0, 0, 0), (21, .aload_n 0, 1, 0, 0, 0, 0), (22, .getfield 7, 3, 334, 8, 0, 0), (25, .iconst 3, 1, 0, 0, 0, 0), (26, .iload 4, 2, 0, 0, 0, 0), (28, .iastore, 1, 0, 0, 0, 0), (29, .aload_n 0, 1, 0, 0, 0, 0), (30, .getfield 7, 3, 334, 8, 0, 0), (33, .iconst 4, 1, 0, 0, 0, 0), (34, .iload_n 3, 1, 0, 0, 0, 0), (35, .iastore, 1, 0, 0, 0, 0), (36, .aload_n 0, 1, 0, 0, 0, 0), (37, .getfield 7, 3, 334, 8, 0, 0), (40, .iconst 5, 1, 0, 0, 0, 0), (41, .iload_n 2, 1, 0, 0, 0, 0), (42, .iastore, 1, 0, 0, 0, 0), (43, .aload_n 0, 1, 0, 0, 0, 0), (44, .getfield 7, 3, 334, 8, 0, 0), (47, .bipush 6, 2, 0, 0, 0, 0), (49, .iload_n 1, 1, 0, 0, 0, 0), (50, .iastore, 1, 0, 0, 0, 0), (51, .aload_n 0, 1, 0, 0, 0, 0), (52, .iload 5, 2, 0, 0, 0, 0), (54, .putfield 19, 3, 335, 8, 1, 0), (57, .return_, 1, 0, 0, 0, 0)]
set_option maxRecDepth 100000 in
set_option maxHeartbeats 4000000 in
theorem c_X8_tell (l : Launch) (G : vg_G) (hp : vg_Hp G) : vg_Ct l G vg_sh r_X8_tell := by
  refine vg_meth hp vg_sh_ok r_X8_tell k_X8_tell rfl (fun h => by cases h) o_X8_tell [] false (by decide +kernel) (by decide +kernel) ⟨_, _, rfl, rfl⟩ (fun _ h => absurd h List.not_mem_nil) (fun h => by cases h) 600 ?_
  intro as s0 hpre
  obtain ⟨r, a1, a2, a3, a4, a5, rfl, hr, i0⟩ := hpre
  simp only [List.mem_cons, List.not_mem_nil, or_false] at hr
  rcases hr with rfl
  ·
    have z0 : (Int32.ofInt 0).toInt = 0 := by decide
    have z1 : (Int32.ofInt 1).toInt = 1 := by decide
    have z2 : (Int32.ofInt 2).toInt = 2 := by decide
    have z3 : (Int32.ofInt 3).toInt = 3 := by decide
    have z4 : (Int32.ofInt 4).toInt = 4 := by decide
    have z5 : (Int32.ofInt 5).toInt = 5 := by decide
    have z6 : (Int32.ofInt 6).toInt = 6 := by decide
    refine ⟨Nat.le_of_ble_eq_true rfl, [], ?_, fun _ h => absurd h List.not_mem_nil⟩
    ·
      refine And.intro ⟨by omega, by omega⟩ ?_
      intro s1 e2
      have i3 : Iv s1 := Iv.a1 i0 e2 rfl
      have k4 : K_X10_taps s0 s1 := Kx.u1 Kx.rf e2 rfl
      refine And.intro ⟨by omega, by omega⟩ ?_
      intro s5 e6
      have i7 : Iv s5 := Iv.a1 i3 e6 rfl
      have k8 : K_X10_taps s0 s5 := Kx.u1 k4 e6 rfl
      refine And.intro ⟨by omega, by omega⟩ ?_
      intro s9 e10
      have i11 : Iv s9 := Iv.a1 i7 e10 rfl
      have k12 : K_X10_taps s0 s9 := Kx.u1 k8 e10 rfl
      refine And.intro ⟨by omega, by omega⟩ ?_
      intro s13 e14
      have i15 : Iv s13 := Iv.a1 i11 e14 rfl
      have k16 : K_X10_taps s0 s13 := Kx.u1 k12 e14 rfl
      refine And.intro ⟨by omega, by omega⟩ ?_
      intro s17 e18
      have i19 : Iv s17 := Iv.a1 i15 e18 rfl
      have k20 : K_X10_taps s0 s17 := Kx.u1 k16 e18 rfl
      refine And.intro ⟨by omega, by omega⟩ ?_
      intro s21 e22
      have i23 : Iv s21 := Iv.a1 i19 e22 rfl
      have k24 : K_X10_taps s0 s21 := Kx.u1 k20 e22 rfl
      refine And.intro ⟨by omega, by omega⟩ ?_
      intro s25 e26
      have i27 : Iv s25 := Iv.a1 i23 e26 rfl
      have k28 : K_X10_taps s0 s25 := Kx.u1 k24 e26 rfl
      intro s29 e30
      have i31 : Iv s29 := Iv.u1 i27 e30 rfl
      have k32 : K_X10_taps s0 s29 := Kx.u1 k28 e30 rfl
      show Iv s29 ∧ K_X10_taps s0 s29 ∧ (s29.1 16 1 = a5 ∧ s29.1 17 0 = a1 ∧ s29.1 17 1 = a2 ∧ s29.1 17 2 = a3 ∧ s29.1 17 3 = a4 ∧ s29.1 17 4 = a3 ∧ s29.1 17 5 = a2 ∧ s29.1 17 6 = a1)
      exact ⟨i31, k32, (vg_tell7 e2 e6 e10 e14 e18 e22 e26 e30)⟩
def o_X8_sumOf : List vg_I := [(0, .iconst 0, 1, 0, 0, 0, 0), (1, .istore_n 2, 1, 0, 0, 0, 0), (2, .aload_n 0, 1, 0, 0, 0, 0), (3, .iload_n 1, 1, 0, 0, 0, 0), (4, .invokevirtual 32, 3, 0, 8, 1, 587), (7, .astore_n 3, 1, 0, 0, 0, 0), (8, .aload_n 3, 1, 0, 0, 0, 0), (9, .arraylength, 1, 0, 0, 0, 0), (10, .istore 4, 2, 0, 0, 0, 0), (12, .iconst 0, 1, 0, 0, 0, 0), (13, .istore 5, 2, 0, 0, 0, 0), (15, .iload 5, 2, 0, 0, 0, 0), (17, .iload 4, 2, 0, 0, 0, 0), (19, .if_icmp .ge 20, 3, 0, 0, 0, 0), (22, .aload_n 3, 1, 0, 0, 0, 0), (23, .iload 5, 2, 0, 0, 0, 0), (25, .iaload, 1, 0, 0, 0, 0), (26, .istore 6, 2, 0, 0, 0, 0), (28, .iload_n 2, 1, 0, 0, 0, 0), (29, .iload 6, 2, 0, 0, 0, 0), (31, .iadd, 1, 0, 0, 0, 0), (32, .istore_n 2, 1, 0, 0, 0, 0), (33, .iinc 5 1, 3, 0, 0, 0, 0), (36, .goto (-21), 3, 0, 0, 0, 0), (39, .iload_n 2, 1, 0, 0, 0, 0), (40, .ireturn, 1, 0, 0, 0, 0)]
set_option maxRecDepth 100000 in
set_option maxHeartbeats 4000000 in
theorem c_X8_sumOf (l : Launch) (G : vg_G) (hp : vg_Hp G) : vg_Ct l G vg_sh r_X8_sumOf := by
  refine vg_meth hp vg_sh_ok r_X8_sumOf k_X8_sumOf rfl (fun h => by cases h) o_X8_sumOf [r_X8_rowOf] false (by decide +kernel) (by decide +kernel) ⟨_, _, rfl, rfl⟩ (List.forall_mem_cons.mpr ⟨⟨c_X8_rowOf l G hp, Nat.le_of_ble_eq_true rfl, Nat.le_of_ble_eq_true rfl⟩, fun _ h => absurd h List.not_mem_nil⟩) (fun h => by cases h) 600 ?_
  intro as s0 hpre
  obtain ⟨r, a1, rfl, hr, i0⟩ := hpre
  simp only [List.mem_cons, List.not_mem_nil, or_false] at hr
  rcases hr with rfl
  ·
    have z0 : (Int32.ofInt 0).toInt = 0 := by decide
    have z1 : (Int32.ofInt 1).toInt = 1 := by decide
    have n3 : (Int32.ofNat 3).toInt = 3 := by decide
    have n7 : (Int32.ofNat 7).toInt = 7 := by decide
    have n11 : (Int32.ofNat 11).toInt = 11 := by decide
    refine ⟨Nat.le_of_ble_eq_true rfl, [(15, [false, false, true, true, true, true, false], (fun L t => ∃ (x2 : Int32) (x3 : Nat) (x4 : Int32) (x5 : Int32), L = [none, none, some (.int x2), some (.ref x3), some (.int x4), some (.int x5), none] ∧ x3 ∈ ([100, 101, 102, 17] : List Nat) ∧ (3 : Int) ≤ x4.toInt ∧ x4.toInt ≤ (11 : Int) ∧ (0 : Int) ≤ x5.toInt ∧ x5.toInt ≤ (11 : Int) ∧ ((x3 = 100 → x4.toInt = 3 ∧ a1.toInt = 0) ∧ (x3 = 101 → x4.toInt = 7 ∧ a1.toInt = 1) ∧ (x3 = 102 → x4.toInt = 11 ∧ a1.toInt = 2) ∧ (x3 = 17 → x4.toInt = 7 ∧ ¬ a1.toInt = 0 ∧ ¬ a1.toInt = 1 ∧ ¬ a1.toInt = 2) ∧ x5.toInt ≤ x4.toInt ∧ x2 = vg_rs (vg_rw s0 x3) x5.toNatClampNeg) ∧ t = s0), (fun L _ => (11 - (vg_li L 5).toInt).toNat))], ?_, List.forall_mem_cons.mpr ⟨?_, fun _ h => absurd h List.not_mem_nil⟩⟩
    ·
      refine And.intro (Nat.le_of_ble_eq_true rfl) (And.intro ⟨16, a1, rfl, by decide, i0⟩ ?_)
      refine And.intro ?_ ?_
      ·
        intro s2 h1
        have h1 : s2 = s0 ∧ ((a1.toInt = 0 ∧ 100 = 100) ∨ (a1.toInt = 1 ∧ 100 = 101) ∨ (a1.toInt = 2 ∧ 100 = 102) ∨ (¬ a1.toInt = 0 ∧ ¬ a1.toInt = 1 ∧ ¬ a1.toInt = 2 ∧ 100 = 17)) := h1
        have q5 := h1.1.symm
        subst q5
        have q6 := h1.2
        exact ⟨rfl, ⟨(Int32.ofInt 0), 100, (Int32.ofNat 3), (Int32.ofInt 0), rfl, (by decide), (by omega), (by omega), (by omega), (by omega), (by first | exact ⟨by omega, by omega, by omega, by omega, by omega, rfl⟩ | exact ⟨by omega, by omega, by omega, by omega, by omega, vg_rs_step None.2.2.2.2.2 None None (by omega) (by omega)⟩), rfl⟩, trivial⟩
      refine And.intro ?_ ?_
      ·
        intro s8 h7
        have h7 : s8 = s0 ∧ ((a1.toInt = 0 ∧ 101 = 100) ∨ (a1.toInt = 1 ∧ 101 = 101) ∨ (a1.toInt = 2 ∧ 101 = 102) ∨ (¬ a1.toInt = 0 ∧ ¬ a1.toInt = 1 ∧ ¬ a1.toInt = 2 ∧ 101 = 17)) := h7
        have q11 := h7.1.symm
        subst q11
        have q12 := h7.2
        exact ⟨rfl, ⟨(Int32.ofInt 0), 101, (Int32.ofNat 7), (Int32.ofInt 0), rfl, (by decide), (by omega), (by omega), (by omega), (by omega), (by first | exact ⟨by omega, by omega, by omega, by omega, by omega, rfl⟩ | exact ⟨by omega, by omega, by omega, by omega, by omega, vg_rs_step None.2.2.2.2.2 None None (by omega) (by omega)⟩), rfl⟩, trivial⟩
      refine And.intro ?_ ?_
      ·
        intro s14 h13
        have h13 : s14 = s0 ∧ ((a1.toInt = 0 ∧ 102 = 100) ∨ (a1.toInt = 1 ∧ 102 = 101) ∨ (a1.toInt = 2 ∧ 102 = 102) ∨ (¬ a1.toInt = 0 ∧ ¬ a1.toInt = 1 ∧ ¬ a1.toInt = 2 ∧ 102 = 17)) := h13
        have q17 := h13.1.symm
        subst q17
        have q18 := h13.2
        exact ⟨rfl, ⟨(Int32.ofInt 0), 102, (Int32.ofNat 11), (Int32.ofInt 0), rfl, (by decide), (by omega), (by omega), (by omega), (by omega), (by first | exact ⟨by omega, by omega, by omega, by omega, by omega, rfl⟩ | exact ⟨by omega, by omega, by omega, by omega, by omega, vg_rs_step None.2.2.2.2.2 None None (by omega) (by omega)⟩), rfl⟩, trivial⟩
      refine And.intro ?_ ?_
      ·
        intro s20 h19
        have h19 : s20 = s0 ∧ ((a1.toInt = 0 ∧ 17 = 100) ∨ (a1.toInt = 1 ∧ 17 = 101) ∨ (a1.toInt = 2 ∧ 17 = 102) ∨ (¬ a1.toInt = 0 ∧ ¬ a1.toInt = 1 ∧ ¬ a1.toInt = 2 ∧ 17 = 17)) := h19
        have q23 := h19.1.symm
        subst q23
        have q24 := h19.2
        exact ⟨rfl, ⟨(Int32.ofInt 0), 17, (Int32.ofNat 7), (Int32.ofInt 0), rfl, (by decide), (by omega), (by omega), (by omega), (by omega), (by first | exact ⟨by omega, by omega, by omega, by omega, by omega, rfl⟩ | exact ⟨by omega, by omega, by omega, by omega, by omega, vg_rs_step None.2.2.2.2.2 None None (by omega) (by omega)⟩), rfl⟩, trivial⟩
      exact trivial
    ·
      intro L s35 hL
      obtain ⟨w25, p26, w28, w31, rfl, h27, b29, b30, b32, b33, x34, q38⟩ := hL
      have q38 := q38.symm
      subst q38
      simp only [List.mem_cons, List.not_mem_nil, or_false] at h27
      rcases h27 with rfl | rfl | rfl | rfl
      ·
        refine And.intro (fun c39 => ?_) (fun c39 => ?_)
        · have c39 : w28.toInt ≤ w31.toInt := c39
          show s0 = s0 ∧ ((a1.toInt = 3 → w25 = vg_rs (s0.1 17) 7) ∧ (a1.toInt = 0 → w25.toInt = 4) ∧ (a1.toInt = 1 → w25.toInt = 32) ∧ (a1.toInt = 2 → w25.toInt = 512))
          exact ⟨rfl, (by have h9 := x34.2.2.2.2.2; first | (have h8 := vg_rs_at (n := 3) h9 (by omega); exact ⟨fun h => absurd h (by omega), fun _ => (by rw [h8]; show (vg_rs (fun j => ([1, 2, 1] : List Int32).getD j 0) 3).toInt = 4; decide), fun h => absurd h (by omega), fun h => absurd h (by omega)⟩) | (have h8 := vg_rs_at (n := 7) h9 (by omega); exact ⟨fun h => absurd h (by omega), fun h => absurd h (by omega), fun _ => (by rw [h8]; show (vg_rs (fun j => ([-1, 0, 9, 16, 9, 0, -1] : List Int32).getD j 0) 7).toInt = 32; decide), fun h => absurd h (by omega)⟩) | (have h8 := vg_rs_at (n := 11) h9 (by omega); exact ⟨fun h => absurd h (by omega), fun h => absurd h (by omega), fun h => absurd h (by omega), fun _ => (by rw [h8]; show (vg_rs (fun j => ([3, 0, -25, 0, 150, 256, 150, 0, -25, 0, 3] : List Int32).getD j 0) 11).toInt = 512; decide)⟩) | (have h8 := vg_rs_at (n := 7) h9 (by omega); exact ⟨fun _ => h8, fun h => absurd h (by omega), fun h => absurd h (by omega), fun h => absurd h (by omega)⟩))⟩
        · have c39 : ¬ (w28.toInt ≤ w31.toInt) := c39
          refine And.intro ⟨by omega, by omega⟩ ?_
          intro v40 e41
          intro v42 e43
          intro v44 e45
          have b46 := vg_add e45 (by omega) (by omega)
          exact ⟨rfl, ⟨v42, 100, w28, v44, rfl, (by decide), (by omega), (by omega), (by omega), (by omega), (by first | exact ⟨by omega, by omega, by omega, by omega, by omega, rfl⟩ | exact ⟨by omega, by omega, by omega, by omega, by omega, vg_rs_step x34.2.2.2.2.2 e41 e43 (by omega) (by omega)⟩), rfl⟩, (by show (11 - v44.toInt).toNat < (11 - w31.toInt).toNat; omega)⟩
      ·
        refine And.intro (fun c47 => ?_) (fun c47 => ?_)
        · have c47 : w28.toInt ≤ w31.toInt := c47
          show s0 = s0 ∧ ((a1.toInt = 3 → w25 = vg_rs (s0.1 17) 7) ∧ (a1.toInt = 0 → w25.toInt = 4) ∧ (a1.toInt = 1 → w25.toInt = 32) ∧ (a1.toInt = 2 → w25.toInt = 512))
          exact ⟨rfl, (by have h9 := x34.2.2.2.2.2; first | (have h8 := vg_rs_at (n := 3) h9 (by omega); exact ⟨fun h => absurd h (by omega), fun _ => (by rw [h8]; show (vg_rs (fun j => ([1, 2, 1] : List Int32).getD j 0) 3).toInt = 4; decide), fun h => absurd h (by omega), fun h => absurd h (by omega)⟩) | (have h8 := vg_rs_at (n := 7) h9 (by omega); exact ⟨fun h => absurd h (by omega), fun h => absurd h (by omega), fun _ => (by rw [h8]; show (vg_rs (fun j => ([-1, 0, 9, 16, 9, 0, -1] : List Int32).getD j 0) 7).toInt = 32; decide), fun h => absurd h (by omega)⟩) | (have h8 := vg_rs_at (n := 11) h9 (by omega); exact ⟨fun h => absurd h (by omega), fun h => absurd h (by omega), fun h => absurd h (by omega), fun _ => (by rw [h8]; show (vg_rs (fun j => ([3, 0, -25, 0, 150, 256, 150, 0, -25, 0, 3] : List Int32).getD j 0) 11).toInt = 512; decide)⟩) | (have h8 := vg_rs_at (n := 7) h9 (by omega); exact ⟨fun _ => h8, fun h => absurd h (by omega), fun h => absurd h (by omega), fun h => absurd h (by omega)⟩))⟩
        · have c47 : ¬ (w28.toInt ≤ w31.toInt) := c47
          refine And.intro ⟨by omega, by omega⟩ ?_
          intro v48 e49
          intro v50 e51
          intro v52 e53
          have b54 := vg_add e53 (by omega) (by omega)
          exact ⟨rfl, ⟨v50, 101, w28, v52, rfl, (by decide), (by omega), (by omega), (by omega), (by omega), (by first | exact ⟨by omega, by omega, by omega, by omega, by omega, rfl⟩ | exact ⟨by omega, by omega, by omega, by omega, by omega, vg_rs_step x34.2.2.2.2.2 e49 e51 (by omega) (by omega)⟩), rfl⟩, (by show (11 - v52.toInt).toNat < (11 - w31.toInt).toNat; omega)⟩
      ·
        refine And.intro (fun c55 => ?_) (fun c55 => ?_)
        · have c55 : w28.toInt ≤ w31.toInt := c55
          show s0 = s0 ∧ ((a1.toInt = 3 → w25 = vg_rs (s0.1 17) 7) ∧ (a1.toInt = 0 → w25.toInt = 4) ∧ (a1.toInt = 1 → w25.toInt = 32) ∧ (a1.toInt = 2 → w25.toInt = 512))
          exact ⟨rfl, (by have h9 := x34.2.2.2.2.2; first | (have h8 := vg_rs_at (n := 3) h9 (by omega); exact ⟨fun h => absurd h (by omega), fun _ => (by rw [h8]; show (vg_rs (fun j => ([1, 2, 1] : List Int32).getD j 0) 3).toInt = 4; decide), fun h => absurd h (by omega), fun h => absurd h (by omega)⟩) | (have h8 := vg_rs_at (n := 7) h9 (by omega); exact ⟨fun h => absurd h (by omega), fun h => absurd h (by omega), fun _ => (by rw [h8]; show (vg_rs (fun j => ([-1, 0, 9, 16, 9, 0, -1] : List Int32).getD j 0) 7).toInt = 32; decide), fun h => absurd h (by omega)⟩) | (have h8 := vg_rs_at (n := 11) h9 (by omega); exact ⟨fun h => absurd h (by omega), fun h => absurd h (by omega), fun h => absurd h (by omega), fun _ => (by rw [h8]; show (vg_rs (fun j => ([3, 0, -25, 0, 150, 256, 150, 0, -25, 0, 3] : List Int32).getD j 0) 11).toInt = 512; decide)⟩) | (have h8 := vg_rs_at (n := 7) h9 (by omega); exact ⟨fun _ => h8, fun h => absurd h (by omega), fun h => absurd h (by omega), fun h => absurd h (by omega)⟩))⟩
        · have c55 : ¬ (w28.toInt ≤ w31.toInt) := c55
          refine And.intro ⟨by omega, by omega⟩ ?_
          intro v56 e57
          intro v58 e59
          intro v60 e61
          have b62 := vg_add e61 (by omega) (by omega)
          exact ⟨rfl, ⟨v58, 102, w28, v60, rfl, (by decide), (by omega), (by omega), (by omega), (by omega), (by first | exact ⟨by omega, by omega, by omega, by omega, by omega, rfl⟩ | exact ⟨by omega, by omega, by omega, by omega, by omega, vg_rs_step x34.2.2.2.2.2 e57 e59 (by omega) (by omega)⟩), rfl⟩, (by show (11 - v60.toInt).toNat < (11 - w31.toInt).toNat; omega)⟩
      ·
        refine And.intro (fun c63 => ?_) (fun c63 => ?_)
        · have c63 : w28.toInt ≤ w31.toInt := c63
          show s0 = s0 ∧ ((a1.toInt = 3 → w25 = vg_rs (s0.1 17) 7) ∧ (a1.toInt = 0 → w25.toInt = 4) ∧ (a1.toInt = 1 → w25.toInt = 32) ∧ (a1.toInt = 2 → w25.toInt = 512))
          exact ⟨rfl, (by have h9 := x34.2.2.2.2.2; first | (have h8 := vg_rs_at (n := 3) h9 (by omega); exact ⟨fun h => absurd h (by omega), fun _ => (by rw [h8]; show (vg_rs (fun j => ([1, 2, 1] : List Int32).getD j 0) 3).toInt = 4; decide), fun h => absurd h (by omega), fun h => absurd h (by omega)⟩) | (have h8 := vg_rs_at (n := 7) h9 (by omega); exact ⟨fun h => absurd h (by omega), fun h => absurd h (by omega), fun _ => (by rw [h8]; show (vg_rs (fun j => ([-1, 0, 9, 16, 9, 0, -1] : List Int32).getD j 0) 7).toInt = 32; decide), fun h => absurd h (by omega)⟩) | (have h8 := vg_rs_at (n := 11) h9 (by omega); exact ⟨fun h => absurd h (by omega), fun h => absurd h (by omega), fun h => absurd h (by omega), fun _ => (by rw [h8]; show (vg_rs (fun j => ([3, 0, -25, 0, 150, 256, 150, 0, -25, 0, 3] : List Int32).getD j 0) 11).toInt = 512; decide)⟩) | (have h8 := vg_rs_at (n := 7) h9 (by omega); exact ⟨fun _ => h8, fun h => absurd h (by omega), fun h => absurd h (by omega), fun h => absurd h (by omega)⟩))⟩
        · have c63 : ¬ (w28.toInt ≤ w31.toInt) := c63
          refine And.intro ⟨by omega, by omega⟩ ?_
          intro v64 e65
          intro v66 e67
          intro v68 e69
          have b70 := vg_add e69 (by omega) (by omega)
          exact ⟨rfl, ⟨v66, 17, w28, v68, rfl, (by decide), (by omega), (by omega), (by omega), (by omega), (by first | exact ⟨by omega, by omega, by omega, by omega, by omega, rfl⟩ | exact ⟨by omega, by omega, by omega, by omega, by omega, vg_rs_step x34.2.2.2.2.2 e65 e67 (by omega) (by omega)⟩), rfl⟩, (by show (11 - v68.toInt).toNat < (11 - w31.toInt).toNat; omega)⟩
def o_X8_isHalfBand : List vg_I := [(0, .aload_n 0, 1, 0, 0, 0, 0), (1, .iload_n 1, 1, 0, 0, 0, 0), (2, .invokevirtual 32, 3, 0, 8, 1, 587), (5, .astore_n 2, 1, 0, 0, 0, 0), (6, .aload_n 2, 1, 0, 0, 0, 0), (7, .arraylength, 1, 0, 0, 0, 0), (8, .iconst 2, 1, 0, 0, 0, 0), (9, .idiv, 1, 0, 0, 0, 0), (10, .iconst 2, 1, 0, 0, 0, 0), (11, .iadd, 1, 0, 0, 0, 0), (12, .istore_n 3, 1, 0, 0, 0, 0), (13, .iload_n 3, 1, 0, 0, 0, 0), (14, .aload_n 2, 1, 0, 0, 0, 0), (15, .arraylength, 1, 0, 0, 0, 0), (16, .if_icmp .ge 17, 3, 0, 0, 0, 0), (19, .aload_n 2, 1, 0, 0, 0, 0), (20, .iload_n 3, 1, 0, 0, 0, 0), (21, .iaload, 1, 0, 0, 0, 0), (22, .ifCond .eq 5, 3, 0, 0, 0, 0), (25, .iconst 0, 1, 0, 0, 0, 0), (26, .ireturn, 1, 0, 0, 0, 1), (27, .iinc 3 2, 3, 0, 0, 0, 0), (30, .goto (-17), 3, 0, 0, 0, 0), (33, .iconst 1, 1, 0, 0, 0, 0), (34, .ireturn, 1, 0, 0, 0, 1)]
set_option maxRecDepth 100000 in
set_option maxHeartbeats 4000000 in
theorem c_X8_isHalfBand (l : Launch) (G : vg_G) (hp : vg_Hp G) : vg_Ct l G vg_sh r_X8_isHalfBand := by
  refine vg_meth hp vg_sh_ok r_X8_isHalfBand k_X8_isHalfBand rfl (fun h => by cases h) o_X8_isHalfBand [r_X8_rowOf] false (by decide +kernel) (by decide +kernel) ⟨_, _, rfl, rfl⟩ (List.forall_mem_cons.mpr ⟨⟨c_X8_rowOf l G hp, Nat.le_of_ble_eq_true rfl, Nat.le_of_ble_eq_true rfl⟩, fun _ h => absurd h List.not_mem_nil⟩) (fun h => by cases h) 600 ?_
  intro as s0 hpre
  obtain ⟨r, a1, rfl, hr, i0⟩ := hpre
  simp only [List.mem_cons, List.not_mem_nil, or_false] at hr
  rcases hr with rfl
  ·
    have z0 : (Int32.ofInt 0).toInt = 0 := by decide
    have z1 : (Int32.ofInt 1).toInt = 1 := by decide
    have z2 : (Int32.ofInt 2).toInt = 2 := by decide
    have n3 : (Int32.ofNat 3).toInt = 3 := by decide
    have n7 : (Int32.ofNat 7).toInt = 7 := by decide
    have n11 : (Int32.ofNat 11).toInt = 11 := by decide
    refine ⟨Nat.le_of_ble_eq_true rfl, [(13, [false, false, true, true], (fun L t => ∃ (x2 : Nat) (x3 : Int32), L = [none, none, some (.ref x2), some (.int x3)] ∧ x2 ∈ ([100, 101, 102, 17] : List Nat) ∧ (0 : Int) ≤ x3.toInt ∧ x3.toInt ≤ (13 : Int) ∧ t = s0), (fun L _ => (13 - (vg_li L 3).toInt).toNat))], ?_, List.forall_mem_cons.mpr ⟨?_, fun _ h => absurd h List.not_mem_nil⟩⟩
    ·
      refine And.intro (Nat.le_of_ble_eq_true rfl) (And.intro ⟨16, a1, rfl, by decide, i0⟩ ?_)
      refine And.intro ?_ ?_
      ·
        intro s2 h1
        have h1 : s2 = s0 ∧ ((a1.toInt = 0 ∧ 100 = 100) ∨ (a1.toInt = 1 ∧ 100 = 101) ∨ (a1.toInt = 2 ∧ 100 = 102) ∨ (¬ a1.toInt = 0 ∧ ¬ a1.toInt = 1 ∧ ¬ a1.toInt = 2 ∧ 100 = 17)) := h1
        have q5 := h1.1.symm
        subst q5
        have q6 := h1.2
        refine And.intro (by omega) ?_
        intro v7 e8
        have b9 : v7.toInt = (Int32.ofNat 3).toInt / 2 := by have h9 := vg_div e8 (by omega) (by omega); rw [z2] at h9; exact h9
        intro v10 e11
        have b12 := vg_add e11 (by omega) (by omega)
        exact ⟨rfl, ⟨100, v10, rfl, (by decide), (by omega), (by omega), rfl⟩, trivial⟩
      refine And.intro ?_ ?_
      ·
        intro s14 h13
        have h13 : s14 = s0 ∧ ((a1.toInt = 0 ∧ 101 = 100) ∨ (a1.toInt = 1 ∧ 101 = 101) ∨ (a1.toInt = 2 ∧ 101 = 102) ∨ (¬ a1.toInt = 0 ∧ ¬ a1.toInt = 1 ∧ ¬ a1.toInt = 2 ∧ 101 = 17)) := h13
        have q17 := h13.1.symm
        subst q17
        have q18 := h13.2
        refine And.intro (by omega) ?_
        intro v19 e20
        have b21 : v19.toInt = (Int32.ofNat 7).toInt / 2 := by have h9 := vg_div e20 (by omega) (by omega); rw [z2] at h9; exact h9
        intro v22 e23
        have b24 := vg_add e23 (by omega) (by omega)
        exact ⟨rfl, ⟨101, v22, rfl, (by decide), (by omega), (by omega), rfl⟩, trivial⟩
      refine And.intro ?_ ?_
      ·
        intro s26 h25
        have h25 : s26 = s0 ∧ ((a1.toInt = 0 ∧ 102 = 100) ∨ (a1.toInt = 1 ∧ 102 = 101) ∨ (a1.toInt = 2 ∧ 102 = 102) ∨ (¬ a1.toInt = 0 ∧ ¬ a1.toInt = 1 ∧ ¬ a1.toInt = 2 ∧ 102 = 17)) := h25
        have q29 := h25.1.symm
        subst q29
        have q30 := h25.2
        refine And.intro (by omega) ?_
        intro v31 e32
        have b33 : v31.toInt = (Int32.ofNat 11).toInt / 2 := by have h9 := vg_div e32 (by omega) (by omega); rw [z2] at h9; exact h9
        intro v34 e35
        have b36 := vg_add e35 (by omega) (by omega)
        exact ⟨rfl, ⟨102, v34, rfl, (by decide), (by omega), (by omega), rfl⟩, trivial⟩
      refine And.intro ?_ ?_
      ·
        intro s38 h37
        have h37 : s38 = s0 ∧ ((a1.toInt = 0 ∧ 17 = 100) ∨ (a1.toInt = 1 ∧ 17 = 101) ∨ (a1.toInt = 2 ∧ 17 = 102) ∨ (¬ a1.toInt = 0 ∧ ¬ a1.toInt = 1 ∧ ¬ a1.toInt = 2 ∧ 17 = 17)) := h37
        have q41 := h37.1.symm
        subst q41
        have q42 := h37.2
        refine And.intro (by omega) ?_
        intro v43 e44
        have b45 : v43.toInt = (Int32.ofNat 7).toInt / 2 := by have h9 := vg_div e44 (by omega) (by omega); rw [z2] at h9; exact h9
        intro v46 e47
        have b48 := vg_add e47 (by omega) (by omega)
        exact ⟨rfl, ⟨17, v46, rfl, (by decide), (by omega), (by omega), rfl⟩, trivial⟩
      exact trivial
    ·
      intro L s54 hL
      obtain ⟨p49, w51, rfl, h50, b52, b53, q57⟩ := hL
      have q57 := q57.symm
      subst q57
      simp only [List.mem_cons, List.not_mem_nil, or_false] at h50
      rcases h50 with rfl | rfl | rfl | rfl
      ·
        refine And.intro (fun c58 => ?_) (fun c58 => ?_)
        · have c58 : (Int32.ofNat 3).toInt ≤ w51.toInt := c58
          refine And.intro (by first | exact Or.inl rfl | exact Or.inr rfl | exact vg_01 (by omega) (by omega)) ?_
          show s0 = s0 ∧ (0 ≤ (Int32.ofInt 1).toInt ∧ (Int32.ofInt 1).toInt ≤ 1)
          exact ⟨rfl, (by first | trivial | omega | assumption)⟩
        · have c58 : ¬ ((Int32.ofNat 3).toInt ≤ w51.toInt) := c58
          refine And.intro ⟨by omega, by omega⟩ ?_
          intro v59 e60
          refine And.intro (fun c61 => ?_) (fun c61 => ?_)
          · have c61 : v59.toInt = 0 := c61
            intro v62 e63
            have b64 := vg_add e63 (by omega) (by omega)
            exact ⟨rfl, ⟨100, v62, rfl, (by decide), (by omega), (by omega), rfl⟩, (by show (13 - v62.toInt).toNat < (13 - w51.toInt).toNat; omega)⟩
          · have c61 : ¬ (v59.toInt = 0) := c61
            refine And.intro (by first | exact Or.inl rfl | exact Or.inr rfl | exact vg_01 (by omega) (by omega)) ?_
            show s0 = s0 ∧ (0 ≤ (Int32.ofInt 0).toInt ∧ (Int32.ofInt 0).toInt ≤ 1)
            exact ⟨rfl, (by first | trivial | omega | assumption)⟩
      ·
        refine And.intro (fun c65 => ?_) (fun c65 => ?_)
        · have c65 : (Int32.ofNat 7).toInt ≤ w51.toInt := c65
          refine And.intro (by first | exact Or.inl rfl | exact Or.inr rfl | exact vg_01 (by omega) (by omega)) ?_
          show s0 = s0 ∧ (0 ≤ (Int32.ofInt 1).toInt ∧ (Int32.ofInt 1).toInt ≤ 1)
          exact ⟨rfl, (by first | trivial | omega | assumption)⟩
        · have c65 : ¬ ((Int32.ofNat 7).toInt ≤ w51.toInt) := c65
          refine And.intro ⟨by omega, by omega⟩ ?_
          intro v66 e67
          refine And.intro (fun c68 => ?_) (fun c68 => ?_)
          · have c68 : v66.toInt = 0 := c68
            intro v69 e70
            have b71 := vg_add e70 (by omega) (by omega)
            exact ⟨rfl, ⟨101, v69, rfl, (by decide), (by omega), (by omega), rfl⟩, (by show (13 - v69.toInt).toNat < (13 - w51.toInt).toNat; omega)⟩
          · have c68 : ¬ (v66.toInt = 0) := c68
            refine And.intro (by first | exact Or.inl rfl | exact Or.inr rfl | exact vg_01 (by omega) (by omega)) ?_
            show s0 = s0 ∧ (0 ≤ (Int32.ofInt 0).toInt ∧ (Int32.ofInt 0).toInt ≤ 1)
            exact ⟨rfl, (by first | trivial | omega | assumption)⟩
      ·
        refine And.intro (fun c72 => ?_) (fun c72 => ?_)
        · have c72 : (Int32.ofNat 11).toInt ≤ w51.toInt := c72
          refine And.intro (by first | exact Or.inl rfl | exact Or.inr rfl | exact vg_01 (by omega) (by omega)) ?_
          show s0 = s0 ∧ (0 ≤ (Int32.ofInt 1).toInt ∧ (Int32.ofInt 1).toInt ≤ 1)
          exact ⟨rfl, (by first | trivial | omega | assumption)⟩
        · have c72 : ¬ ((Int32.ofNat 11).toInt ≤ w51.toInt) := c72
          refine And.intro ⟨by omega, by omega⟩ ?_
          intro v73 e74
          refine And.intro (fun c75 => ?_) (fun c75 => ?_)
          · have c75 : v73.toInt = 0 := c75
            intro v76 e77
            have b78 := vg_add e77 (by omega) (by omega)
            exact ⟨rfl, ⟨102, v76, rfl, (by decide), (by omega), (by omega), rfl⟩, (by show (13 - v76.toInt).toNat < (13 - w51.toInt).toNat; omega)⟩
          · have c75 : ¬ (v73.toInt = 0) := c75
            refine And.intro (by first | exact Or.inl rfl | exact Or.inr rfl | exact vg_01 (by omega) (by omega)) ?_
            show s0 = s0 ∧ (0 ≤ (Int32.ofInt 0).toInt ∧ (Int32.ofInt 0).toInt ≤ 1)
            exact ⟨rfl, (by first | trivial | omega | assumption)⟩
      ·
        refine And.intro (fun c79 => ?_) (fun c79 => ?_)
        · have c79 : (Int32.ofNat 7).toInt ≤ w51.toInt := c79
          refine And.intro (by first | exact Or.inl rfl | exact Or.inr rfl | exact vg_01 (by omega) (by omega)) ?_
          show s0 = s0 ∧ (0 ≤ (Int32.ofInt 1).toInt ∧ (Int32.ofInt 1).toInt ≤ 1)
          exact ⟨rfl, (by first | trivial | omega | assumption)⟩
        · have c79 : ¬ ((Int32.ofNat 7).toInt ≤ w51.toInt) := c79
          refine And.intro ⟨by omega, by omega⟩ ?_
          intro v80 e81
          refine And.intro (fun c82 => ?_) (fun c82 => ?_)
          · have c82 : v80.toInt = 0 := c82
            intro v83 e84
            have b85 := vg_add e84 (by omega) (by omega)
            exact ⟨rfl, ⟨17, v83, rfl, (by decide), (by omega), (by omega), rfl⟩, (by show (13 - v83.toInt).toNat < (13 - w51.toInt).toNat; omega)⟩
          · have c82 : ¬ (v80.toInt = 0) := c82
            refine And.intro (by first | exact Or.inl rfl | exact Or.inr rfl | exact vg_01 (by omega) (by omega)) ?_
            show s0 = s0 ∧ (0 ≤ (Int32.ofInt 0).toInt ∧ (Int32.ofInt 0).toInt ≤ 1)
            exact ⟨rfl, (by first | trivial | omega | assumption)⟩
def o_X8_manyOf : List vg_I := [(0, .aload_n 0, 1, 0, 0, 0, 0), (1, .iload_n 1, 1, 0, 0, 0, 0), (2, .invokevirtual 32, 3, 0, 8, 1, 587), (5, .astore_n 3, 1, 0, 0, 0, 0), (6, .iconst 0, 1, 0, 0, 0, 0), (7, .istore 4, 2, 0, 0, 0, 0), (9, .iconst 0, 1, 0, 0, 0, 0), (10, .istore 5, 2, 0, 0, 0, 0), (12, .iload 5, 2, 0, 0, 0, 0), (14, .iload_n 2, 1, 0, 0, 0, 0), (15, .if_icmp .ge 26, 3, 0, 0, 0, 0), (18, .iload 5, 2, 0, 0, 0, 0), (20, .aload_n 3, 1, 0, 0, 0, 0), (21, .arraylength, 1, 0, 0, 0, 0), (22, .if_icmp .ge 19, 3, 0, 0, 0, 0), (25, .aload_n 3, 1, 0, 0, 0, 0), (26, .iload 5, 2, 0, 0, 0, 0), (28, .iaload, 1, 0, 0, 0, 0), (29, .ifCond .eq 6, 3, 0, 0, 0, 0), (32, .iinc 4 1, 3, 0, 0, 0, 0), (35, .iinc 5 1, 3, 0, 0, 0, 0), (38, .goto (-26), 3, 0, 0, 0, 0), (41, .iload 4, 2, 0, 0, 0, 0), (43, .ireturn, 1, 0, 0, 0, 0)]
set_option maxRecDepth 100000 in
set_option maxHeartbeats 4000000 in
theorem c_X8_manyOf (l : Launch) (G : vg_G) (hp : vg_Hp G) : vg_Ct l G vg_sh r_X8_manyOf := by
  refine vg_meth hp vg_sh_ok r_X8_manyOf k_X8_manyOf rfl (fun h => by cases h) o_X8_manyOf [r_X8_rowOf] false (by decide +kernel) (by decide +kernel) ⟨_, _, rfl, rfl⟩ (List.forall_mem_cons.mpr ⟨⟨c_X8_rowOf l G hp, Nat.le_of_ble_eq_true rfl, Nat.le_of_ble_eq_true rfl⟩, fun _ h => absurd h List.not_mem_nil⟩) (fun h => by cases h) 600 ?_
  intro as s0 hpre
  obtain ⟨r, a1, a2, rfl, hr, i0⟩ := hpre
  simp only [List.mem_cons, List.not_mem_nil, or_false] at hr
  rcases hr with rfl
  ·
    have z0 : (Int32.ofInt 0).toInt = 0 := by decide
    have z1 : (Int32.ofInt 1).toInt = 1 := by decide
    have n3 : (Int32.ofNat 3).toInt = 3 := by decide
    have n7 : (Int32.ofNat 7).toInt = 7 := by decide
    have n11 : (Int32.ofNat 11).toInt = 11 := by decide
    refine ⟨Nat.le_of_ble_eq_true rfl, [(12, [false, false, true, true, true, true], (fun L t => ∃ (x3 : Nat) (x4 : Int32) (x5 : Int32), L = [none, none, some (.int a2), some (.ref x3), some (.int x4), some (.int x5)] ∧ x3 ∈ ([100, 101, 102, 17] : List Nat) ∧ (0 : Int) ≤ x5.toInt ∧ x5.toInt ≤ (11 : Int) ∧ t = s0), (fun L _ => (11 - (vg_li L 5).toInt).toNat))], ?_, List.forall_mem_cons.mpr ⟨?_, fun _ h => absurd h List.not_mem_nil⟩⟩
    ·
      refine And.intro (Nat.le_of_ble_eq_true rfl) (And.intro ⟨16, a1, rfl, by decide, i0⟩ ?_)
      refine And.intro ?_ ?_
      ·
        intro s2 h1
        have h1 : s2 = s0 ∧ ((a1.toInt = 0 ∧ 100 = 100) ∨ (a1.toInt = 1 ∧ 100 = 101) ∨ (a1.toInt = 2 ∧ 100 = 102) ∨ (¬ a1.toInt = 0 ∧ ¬ a1.toInt = 1 ∧ ¬ a1.toInt = 2 ∧ 100 = 17)) := h1
        have q5 := h1.1.symm
        subst q5
        have q6 := h1.2
        exact ⟨rfl, ⟨100, (Int32.ofInt 0), (Int32.ofInt 0), rfl, (by decide), (by omega), (by omega), rfl⟩, trivial⟩
      refine And.intro ?_ ?_
      ·
        intro s8 h7
        have h7 : s8 = s0 ∧ ((a1.toInt = 0 ∧ 101 = 100) ∨ (a1.toInt = 1 ∧ 101 = 101) ∨ (a1.toInt = 2 ∧ 101 = 102) ∨ (¬ a1.toInt = 0 ∧ ¬ a1.toInt = 1 ∧ ¬ a1.toInt = 2 ∧ 101 = 17)) := h7
        have q11 := h7.1.symm
        subst q11
        have q12 := h7.2
        exact ⟨rfl, ⟨101, (Int32.ofInt 0), (Int32.ofInt 0), rfl, (by decide), (by omega), (by omega), rfl⟩, trivial⟩
      refine And.intro ?_ ?_
      ·
        intro s14 h13
        have h13 : s14 = s0 ∧ ((a1.toInt = 0 ∧ 102 = 100) ∨ (a1.toInt = 1 ∧ 102 = 101) ∨ (a1.toInt = 2 ∧ 102 = 102) ∨ (¬ a1.toInt = 0 ∧ ¬ a1.toInt = 1 ∧ ¬ a1.toInt = 2 ∧ 102 = 17)) := h13
        have q17 := h13.1.symm
        subst q17
        have q18 := h13.2
        exact ⟨rfl, ⟨102, (Int32.ofInt 0), (Int32.ofInt 0), rfl, (by decide), (by omega), (by omega), rfl⟩, trivial⟩
      refine And.intro ?_ ?_
      ·
        intro s20 h19
        have h19 : s20 = s0 ∧ ((a1.toInt = 0 ∧ 17 = 100) ∨ (a1.toInt = 1 ∧ 17 = 101) ∨ (a1.toInt = 2 ∧ 17 = 102) ∨ (¬ a1.toInt = 0 ∧ ¬ a1.toInt = 1 ∧ ¬ a1.toInt = 2 ∧ 17 = 17)) := h19
        have q23 := h19.1.symm
        subst q23
        have q24 := h19.2
        exact ⟨rfl, ⟨17, (Int32.ofInt 0), (Int32.ofInt 0), rfl, (by decide), (by omega), (by omega), rfl⟩, trivial⟩
      exact trivial
    ·
      intro L s31 hL
      obtain ⟨p25, w27, w28, rfl, h26, b29, b30, q34⟩ := hL
      have q34 := q34.symm
      subst q34
      simp only [List.mem_cons, List.not_mem_nil, or_false] at h26
      rcases h26 with rfl | rfl | rfl | rfl
      ·
        refine And.intro (fun c35 => ?_) (fun c35 => ?_)
        · have c35 : a2.toInt ≤ w28.toInt := c35
          show s0 = s0 ∧ (True)
          exact ⟨rfl, (trivial)⟩
        · have c35 : ¬ (a2.toInt ≤ w28.toInt) := c35
          refine And.intro (fun c36 => ?_) (fun c36 => ?_)
          · have c36 : (Int32.ofNat 3).toInt ≤ w28.toInt := c36
            show s0 = s0 ∧ (True)
            exact ⟨rfl, (trivial)⟩
          · have c36 : ¬ ((Int32.ofNat 3).toInt ≤ w28.toInt) := c36
            refine And.intro ⟨by omega, by omega⟩ ?_
            intro v37 e38
            refine And.intro (fun c39 => ?_) (fun c39 => ?_)
            · have c39 : v37.toInt = 0 := c39
              intro v40 e41
              have b42 := vg_add e41 (by omega) (by omega)
              exact ⟨rfl, ⟨100, w27, v40, rfl, (by decide), (by omega), (by omega), rfl⟩, (by show (11 - v40.toInt).toNat < (11 - w28.toInt).toNat; omega)⟩
            · have c39 : ¬ (v37.toInt = 0) := c39
              intro v43 e44
              intro v45 e46
              have b47 := vg_add e46 (by omega) (by omega)
              exact ⟨rfl, ⟨100, v43, v45, rfl, (by decide), (by omega), (by omega), rfl⟩, (by show (11 - v45.toInt).toNat < (11 - w28.toInt).toNat; omega)⟩
      ·
        refine And.intro (fun c48 => ?_) (fun c48 => ?_)
        · have c48 : a2.toInt ≤ w28.toInt := c48
          show s0 = s0 ∧ (True)
          exact ⟨rfl, (trivial)⟩
        · have c48 : ¬ (a2.toInt ≤ w28.toInt) := c48
          refine And.intro (fun c49 => ?_) (fun c49 => ?_)
          · have c49 : (Int32.ofNat 7).toInt ≤ w28.toInt := c49
            show s0 = s0 ∧ (True)
            exact ⟨rfl, (trivial)⟩
          · have c49 : ¬ ((Int32.ofNat 7).toInt ≤ w28.toInt) := c49
            refine And.intro ⟨by omega, by omega⟩ ?_
            intro v50 e51
            refine And.intro (fun c52 => ?_) (fun c52 => ?_)
            · have c52 : v50.toInt = 0 := c52
              intro v53 e54
              have b55 := vg_add e54 (by omega) (by omega)
              exact ⟨rfl, ⟨101, w27, v53, rfl, (by decide), (by omega), (by omega), rfl⟩, (by show (11 - v53.toInt).toNat < (11 - w28.toInt).toNat; omega)⟩
            · have c52 : ¬ (v50.toInt = 0) := c52
              intro v56 e57
              intro v58 e59
              have b60 := vg_add e59 (by omega) (by omega)
              exact ⟨rfl, ⟨101, v56, v58, rfl, (by decide), (by omega), (by omega), rfl⟩, (by show (11 - v58.toInt).toNat < (11 - w28.toInt).toNat; omega)⟩
      ·
        refine And.intro (fun c61 => ?_) (fun c61 => ?_)
        · have c61 : a2.toInt ≤ w28.toInt := c61
          show s0 = s0 ∧ (True)
          exact ⟨rfl, (trivial)⟩
        · have c61 : ¬ (a2.toInt ≤ w28.toInt) := c61
          refine And.intro (fun c62 => ?_) (fun c62 => ?_)
          · have c62 : (Int32.ofNat 11).toInt ≤ w28.toInt := c62
            show s0 = s0 ∧ (True)
            exact ⟨rfl, (trivial)⟩
          · have c62 : ¬ ((Int32.ofNat 11).toInt ≤ w28.toInt) := c62
            refine And.intro ⟨by omega, by omega⟩ ?_
            intro v63 e64
            refine And.intro (fun c65 => ?_) (fun c65 => ?_)
            · have c65 : v63.toInt = 0 := c65
              intro v66 e67
              have b68 := vg_add e67 (by omega) (by omega)
              exact ⟨rfl, ⟨102, w27, v66, rfl, (by decide), (by omega), (by omega), rfl⟩, (by show (11 - v66.toInt).toNat < (11 - w28.toInt).toNat; omega)⟩
            · have c65 : ¬ (v63.toInt = 0) := c65
              intro v69 e70
              intro v71 e72
              have b73 := vg_add e72 (by omega) (by omega)
              exact ⟨rfl, ⟨102, v69, v71, rfl, (by decide), (by omega), (by omega), rfl⟩, (by show (11 - v71.toInt).toNat < (11 - w28.toInt).toNat; omega)⟩
      ·
        refine And.intro (fun c74 => ?_) (fun c74 => ?_)
        · have c74 : a2.toInt ≤ w28.toInt := c74
          show s0 = s0 ∧ (True)
          exact ⟨rfl, (trivial)⟩
        · have c74 : ¬ (a2.toInt ≤ w28.toInt) := c74
          refine And.intro (fun c75 => ?_) (fun c75 => ?_)
          · have c75 : (Int32.ofNat 7).toInt ≤ w28.toInt := c75
            show s0 = s0 ∧ (True)
            exact ⟨rfl, (trivial)⟩
          · have c75 : ¬ ((Int32.ofNat 7).toInt ≤ w28.toInt) := c75
            refine And.intro ⟨by omega, by omega⟩ ?_
            intro v76 e77
            refine And.intro (fun c78 => ?_) (fun c78 => ?_)
            · have c78 : v76.toInt = 0 := c78
              intro v79 e80
              have b81 := vg_add e80 (by omega) (by omega)
              exact ⟨rfl, ⟨17, w27, v79, rfl, (by decide), (by omega), (by omega), rfl⟩, (by show (11 - v79.toInt).toNat < (11 - w28.toInt).toNat; omega)⟩
            · have c78 : ¬ (v76.toInt = 0) := c78
              intro v82 e83
              intro v84 e85
              have b86 := vg_add e85 (by omega) (by omega)
              exact ⟨rfl, ⟨17, v82, v84, rfl, (by decide), (by omega), (by omega), rfl⟩, (by show (11 - v84.toInt).toNat < (11 - w28.toInt).toNat; omega)⟩
def o_X8_plainOf : List vg_I := [(0, .aload_n 0, 1, 0, 0, 0, 0), (1, .iload_n 1, 1, 0, 0, 0, 0), (2, .aload_n 0, 1, 0, 0, 0, 0), (3, .iload_n 1, 1, 0, 0, 0, 0), (4, .invokevirtual 32, 3, 0, 8, 1, 587), (7, .arraylength, 1, 0, 0, 0, 0), (8, .invokevirtual 36, 3, 1, 8, 2, 880), (11, .ireturn, 1, 0, 0, 0, 0)]
set_option maxRecDepth 100000 in
set_option maxHeartbeats 4000000 in
theorem c_X8_plainOf (l : Launch) (G : vg_G) (hp : vg_Hp G) : vg_Ct l G vg_sh r_X8_plainOf := by
  refine vg_meth hp vg_sh_ok r_X8_plainOf k_X8_plainOf rfl (fun h => by cases h) o_X8_plainOf [r_X8_rowOf, r_X8_manyOf] false (by decide +kernel) (by decide +kernel) ⟨_, _, rfl, rfl⟩ (List.forall_mem_cons.mpr ⟨⟨c_X8_rowOf l G hp, Nat.le_of_ble_eq_true rfl, Nat.le_of_ble_eq_true rfl⟩, List.forall_mem_cons.mpr ⟨⟨c_X8_manyOf l G hp, Nat.le_of_ble_eq_true rfl, Nat.le_of_ble_eq_true rfl⟩, fun _ h => absurd h List.not_mem_nil⟩⟩) (fun h => by cases h) 600 ?_
  intro as s0 hpre
  obtain ⟨r, a1, rfl, hr, i0⟩ := hpre
  simp only [List.mem_cons, List.not_mem_nil, or_false] at hr
  rcases hr with rfl
  ·
    have n3 : (Int32.ofNat 3).toInt = 3 := by decide
    have n7 : (Int32.ofNat 7).toInt = 7 := by decide
    have n11 : (Int32.ofNat 11).toInt = 11 := by decide
    refine ⟨Nat.le_of_ble_eq_true rfl, [], ?_, fun _ h => absurd h List.not_mem_nil⟩
    ·
      refine And.intro (Nat.le_of_ble_eq_true rfl) (And.intro ⟨16, a1, rfl, by decide, i0⟩ ?_)
      refine And.intro ?_ ?_
      ·
        intro s2 h1
        have h1 : s2 = s0 ∧ ((a1.toInt = 0 ∧ 100 = 100) ∨ (a1.toInt = 1 ∧ 100 = 101) ∨ (a1.toInt = 2 ∧ 100 = 102) ∨ (¬ a1.toInt = 0 ∧ ¬ a1.toInt = 1 ∧ ¬ a1.toInt = 2 ∧ 100 = 17)) := h1
        have q5 := h1.1.symm
        subst q5
        have q6 := h1.2
        refine And.intro (Nat.le_of_ble_eq_true rfl) (And.intro ⟨16, a1, (Int32.ofNat 3), rfl, by decide, i0⟩ ?_)
        intro v7 s9 h8
        have h8 : s9 = s0 ∧ (True) := h8
        have q12 := h8.1.symm
        subst q12
        show s0 = s0 ∧ (True)
        exact ⟨rfl, (trivial)⟩
      refine And.intro ?_ ?_
      ·
        intro s14 h13
        have h13 : s14 = s0 ∧ ((a1.toInt = 0 ∧ 101 = 100) ∨ (a1.toInt = 1 ∧ 101 = 101) ∨ (a1.toInt = 2 ∧ 101 = 102) ∨ (¬ a1.toInt = 0 ∧ ¬ a1.toInt = 1 ∧ ¬ a1.toInt = 2 ∧ 101 = 17)) := h13
        have q17 := h13.1.symm
        subst q17
        have q18 := h13.2
        refine And.intro (Nat.le_of_ble_eq_true rfl) (And.intro ⟨16, a1, (Int32.ofNat 7), rfl, by decide, i0⟩ ?_)
        intro v19 s21 h20
        have h20 : s21 = s0 ∧ (True) := h20
        have q24 := h20.1.symm
        subst q24
        show s0 = s0 ∧ (True)
        exact ⟨rfl, (trivial)⟩
      refine And.intro ?_ ?_
      ·
        intro s26 h25
        have h25 : s26 = s0 ∧ ((a1.toInt = 0 ∧ 102 = 100) ∨ (a1.toInt = 1 ∧ 102 = 101) ∨ (a1.toInt = 2 ∧ 102 = 102) ∨ (¬ a1.toInt = 0 ∧ ¬ a1.toInt = 1 ∧ ¬ a1.toInt = 2 ∧ 102 = 17)) := h25
        have q29 := h25.1.symm
        subst q29
        have q30 := h25.2
        refine And.intro (Nat.le_of_ble_eq_true rfl) (And.intro ⟨16, a1, (Int32.ofNat 11), rfl, by decide, i0⟩ ?_)
        intro v31 s33 h32
        have h32 : s33 = s0 ∧ (True) := h32
        have q36 := h32.1.symm
        subst q36
        show s0 = s0 ∧ (True)
        exact ⟨rfl, (trivial)⟩
      refine And.intro ?_ ?_
      ·
        intro s38 h37
        have h37 : s38 = s0 ∧ ((a1.toInt = 0 ∧ 17 = 100) ∨ (a1.toInt = 1 ∧ 17 = 101) ∨ (a1.toInt = 2 ∧ 17 = 102) ∨ (¬ a1.toInt = 0 ∧ ¬ a1.toInt = 1 ∧ ¬ a1.toInt = 2 ∧ 17 = 17)) := h37
        have q41 := h37.1.symm
        subst q41
        have q42 := h37.2
        refine And.intro (Nat.le_of_ble_eq_true rfl) (And.intro ⟨16, a1, (Int32.ofNat 7), rfl, by decide, i0⟩ ?_)
        intro v43 s45 h44
        have h44 : s45 = s0 ∧ (True) := h44
        have q48 := h44.1.symm
        subst q48
        show s0 = s0 ∧ (True)
        exact ⟨rfl, (trivial)⟩
      exact trivial
def o_X8_foldedOf : List vg_I := [(0, .aload_n 0, 1, 0, 0, 0, 0), (1, .iload_n 1, 1, 0, 0, 0, 0), (2, .aload_n 0, 1, 0, 0, 0, 0), (3, .iload_n 1, 1, 0, 0, 0, 0), (4, .invokevirtual 32, 3, 0, 8, 1, 587), (7, .arraylength, 1, 0, 0, 0, 0), (8, .iconst 2, 1, 0, 0, 0, 0), (9, .idiv, 1, 0, 0, 0, 0), (10, .iconst 1, 1, 0, 0, 0, 0), (11, .iadd, 1, 0, 0, 0, 0), (12, .invokevirtual 36, 3, 1, 8, 2, 880), (15, .ireturn, 1, 0, 0, 0, 0)]
set_option maxRecDepth 100000 in
set_option maxHeartbeats 4000000 in
theorem c_X8_foldedOf (l : Launch) (G : vg_G) (hp : vg_Hp G) : vg_Ct l G vg_sh r_X8_foldedOf := by
  refine vg_meth hp vg_sh_ok r_X8_foldedOf k_X8_foldedOf rfl (fun h => by cases h) o_X8_foldedOf [r_X8_rowOf, r_X8_manyOf] false (by decide +kernel) (by decide +kernel) ⟨_, _, rfl, rfl⟩ (List.forall_mem_cons.mpr ⟨⟨c_X8_rowOf l G hp, Nat.le_of_ble_eq_true rfl, Nat.le_of_ble_eq_true rfl⟩, List.forall_mem_cons.mpr ⟨⟨c_X8_manyOf l G hp, Nat.le_of_ble_eq_true rfl, Nat.le_of_ble_eq_true rfl⟩, fun _ h => absurd h List.not_mem_nil⟩⟩) (fun h => by cases h) 600 ?_
  intro as s0 hpre
  obtain ⟨r, a1, rfl, hr, i0⟩ := hpre
  simp only [List.mem_cons, List.not_mem_nil, or_false] at hr
  rcases hr with rfl
  ·
    have z1 : (Int32.ofInt 1).toInt = 1 := by decide
    have z2 : (Int32.ofInt 2).toInt = 2 := by decide
    have n3 : (Int32.ofNat 3).toInt = 3 := by decide
    have n7 : (Int32.ofNat 7).toInt = 7 := by decide
    have n11 : (Int32.ofNat 11).toInt = 11 := by decide
    refine ⟨Nat.le_of_ble_eq_true rfl, [], ?_, fun _ h => absurd h List.not_mem_nil⟩
    ·
      refine And.intro (Nat.le_of_ble_eq_true rfl) (And.intro ⟨16, a1, rfl, by decide, i0⟩ ?_)
      refine And.intro ?_ ?_
      ·
        intro s2 h1
        have h1 : s2 = s0 ∧ ((a1.toInt = 0 ∧ 100 = 100) ∨ (a1.toInt = 1 ∧ 100 = 101) ∨ (a1.toInt = 2 ∧ 100 = 102) ∨ (¬ a1.toInt = 0 ∧ ¬ a1.toInt = 1 ∧ ¬ a1.toInt = 2 ∧ 100 = 17)) := h1
        have q5 := h1.1.symm
        subst q5
        have q6 := h1.2
        refine And.intro (by omega) ?_
        intro v7 e8
        have b9 : v7.toInt = (Int32.ofNat 3).toInt / 2 := by have h9 := vg_div e8 (by omega) (by omega); rw [z2] at h9; exact h9
        intro v10 e11
        have b12 := vg_add e11 (by omega) (by omega)
        refine And.intro (Nat.le_of_ble_eq_true rfl) (And.intro ⟨16, a1, v10, rfl, by decide, i0⟩ ?_)
        intro v13 s15 h14
        have h14 : s15 = s0 ∧ (True) := h14
        have q18 := h14.1.symm
        subst q18
        show s0 = s0 ∧ (True)
        exact ⟨rfl, (trivial)⟩
      refine And.intro ?_ ?_
      ·
        intro s20 h19
        have h19 : s20 = s0 ∧ ((a1.toInt = 0 ∧ 101 = 100) ∨ (a1.toInt = 1 ∧ 101 = 101) ∨ (a1.toInt = 2 ∧ 101 = 102) ∨ (¬ a1.toInt = 0 ∧ ¬ a1.toInt = 1 ∧ ¬ a1.toInt = 2 ∧ 101 = 17)) := h19
        have q23 := h19.1.symm
        subst q23
        have q24 := h19.2
        refine And.intro (by omega) ?_
        intro v25 e26
        have b27 : v25.toInt = (Int32.ofNat 7).toInt / 2 := by have h9 := vg_div e26 (by omega) (by omega); rw [z2] at h9; exact h9
        intro v28 e29
        have b30 := vg_add e29 (by omega) (by omega)
        refine And.intro (Nat.le_of_ble_eq_true rfl) (And.intro ⟨16, a1, v28, rfl, by decide, i0⟩ ?_)
        intro v31 s33 h32
        have h32 : s33 = s0 ∧ (True) := h32
        have q36 := h32.1.symm
        subst q36
        show s0 = s0 ∧ (True)
        exact ⟨rfl, (trivial)⟩
      refine And.intro ?_ ?_
      ·
        intro s38 h37
        have h37 : s38 = s0 ∧ ((a1.toInt = 0 ∧ 102 = 100) ∨ (a1.toInt = 1 ∧ 102 = 101) ∨ (a1.toInt = 2 ∧ 102 = 102) ∨ (¬ a1.toInt = 0 ∧ ¬ a1.toInt = 1 ∧ ¬ a1.toInt = 2 ∧ 102 = 17)) := h37
        have q41 := h37.1.symm
        subst q41
        have q42 := h37.2
        refine And.intro (by omega) ?_
        intro v43 e44
        have b45 : v43.toInt = (Int32.ofNat 11).toInt / 2 := by have h9 := vg_div e44 (by omega) (by omega); rw [z2] at h9; exact h9
        intro v46 e47
        have b48 := vg_add e47 (by omega) (by omega)
        refine And.intro (Nat.le_of_ble_eq_true rfl) (And.intro ⟨16, a1, v46, rfl, by decide, i0⟩ ?_)
        intro v49 s51 h50
        have h50 : s51 = s0 ∧ (True) := h50
        have q54 := h50.1.symm
        subst q54
        show s0 = s0 ∧ (True)
        exact ⟨rfl, (trivial)⟩
      refine And.intro ?_ ?_
      ·
        intro s56 h55
        have h55 : s56 = s0 ∧ ((a1.toInt = 0 ∧ 17 = 100) ∨ (a1.toInt = 1 ∧ 17 = 101) ∨ (a1.toInt = 2 ∧ 17 = 102) ∨ (¬ a1.toInt = 0 ∧ ¬ a1.toInt = 1 ∧ ¬ a1.toInt = 2 ∧ 17 = 17)) := h55
        have q59 := h55.1.symm
        subst q59
        have q60 := h55.2
        refine And.intro (by omega) ?_
        intro v61 e62
        have b63 : v61.toInt = (Int32.ofNat 7).toInt / 2 := by have h9 := vg_div e62 (by omega) (by omega); rw [z2] at h9; exact h9
        intro v64 e65
        have b66 := vg_add e65 (by omega) (by omega)
        refine And.intro (Nat.le_of_ble_eq_true rfl) (And.intro ⟨16, a1, v64, rfl, by decide, i0⟩ ?_)
        intro v67 s69 h68
        have h68 : s69 = s0 ∧ (True) := h68
        have q72 := h68.1.symm
        subst q72
        show s0 = s0 ∧ (True)
        exact ⟨rfl, (trivial)⟩
      exact trivial
