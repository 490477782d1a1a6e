def o_X10_putTo : List vg_I := [(0, .iload_n 0, 1, 0, 0, 0, 0), (1, .iload_n 1, 1, 0, 0, 0, 0), (2, .if_icmp .le 5, 3, 0, 0, 0, 0), (5, .iload_n 1, 1, 0, 0, 0, 0), (6, .ireturn, 1, 0, 0, 0, 0), (7, .iload_n 0, 1, 0, 0, 0, 0), (8, .iload_n 1, 1, 0, 0, 0, 0), (9, .ineg, 1, 0, 0, 0, 0), (10, .if_icmp .ge 8, 3, 0, 0, 0, 0), (13, .iload_n 1, 1, 0, 0, 0, 0), (14, .ineg, 1, 0, 0, 0, 0), (15, .goto 4, 3, 0, 0, 0, 0), (18, .iload_n 0, 1, 0, 0, 0, 0), (19, .ireturn, 1, 0, 0, 0, 0)]
set_option maxRecDepth 100000 in
set_option maxHeartbeats 4000000 in
theorem c_X10_putTo (l : Launch) (G : vg_G) (hp : vg_Hp G) : vg_Ct l G vg_sh r_X10_putTo := by
  refine vg_meth hp vg_sh_ok r_X10_putTo k_X10_putTo rfl (fun h => by cases h) o_X10_putTo [] false (by decide +kernel) (by decide +kernel) ⟨_, _, rfl, rfl⟩ (fun _ h => absurd h List.not_mem_nil) (fun h => by cases h) 600 ?_
  intro as s0 hpre
  obtain ⟨a1, a2, rfl, -⟩ := hpre
  refine ⟨Nat.le_of_ble_eq_true rfl, [], ?_, fun _ h => absurd h List.not_mem_nil⟩
  ·
    refine And.intro (fun c1 => ?_) (fun c1 => ?_)
    · have c1 : a1.toInt ≤ a2.toInt := c1
      intro v2 e3
      refine And.intro (fun c4 => ?_) (fun c4 => ?_)
      · have c4 : v2.toInt ≤ a1.toInt := c4
        show s0 = s0 ∧ (True)
        exact ⟨rfl, (trivial)⟩
      · have c4 : ¬ (v2.toInt ≤ a1.toInt) := c4
        intro v5 e6
        show s0 = s0 ∧ (True)
        exact ⟨rfl, (trivial)⟩
    · have c1 : ¬ (a1.toInt ≤ a2.toInt) := c1
      show s0 = s0 ∧ (True)
      exact ⟨rfl, (trivial)⟩
def o_X10_within : List vg_I := [(0, .iload_n 0, 1, 0, 0, 0, 0), (1, .iload_n 1, 1, 0, 0, 0, 0), (2, .if_icmp .lt 12, 3, 0, 0, 0, 0), (5, .iload_n 0, 1, 0, 0, 0, 0), (6, .iload_n 2, 1, 0, 0, 0, 0), (7, .if_icmp .gt 7, 3, 0, 0, 0, 0), (10, .iconst 1, 1, 0, 0, 0, 0), (11, .goto 4, 3, 0, 0, 0, 0), (14, .iconst 0, 1, 0, 0, 0, 0), (15, .ireturn, 1, 0, 0, 0, 1)]
set_option maxRecDepth 100000 in
set_option maxHeartbeats 4000000 in
theorem c_X10_within (l : Launch) (G : vg_G) (hp : vg_Hp G) : vg_Ct l G vg_sh r_X10_within := by
  refine vg_meth hp vg_sh_ok r_X10_within k_X10_within rfl (fun h => by cases h) o_X10_within [] false (by decide +kernel) (by decide +kernel) ⟨_, _, rfl, rfl⟩ (fun _ h => absurd h List.not_mem_nil) (fun h => by cases h) 600 ?_
  intro as s0 hpre
  obtain ⟨a1, a2, a3, rfl, -⟩ := hpre
  have z0 : (Int32.ofInt 0).toInt = 0 := by decide
  have z1 : (Int32.ofInt 1).toInt = 1 := by decide
  refine ⟨Nat.le_of_ble_eq_true rfl, [], ?_, fun _ h => absurd h List.not_mem_nil⟩
  ·
    refine And.intro (fun c1 => ?_) (fun c1 => ?_)
    · have c1 : a1.toInt < a2.toInt := c1
      refine And.intro (by first | exact Or.inl rfl | exact Or.inr rfl | exact vg_01 (by omega) (by omega)) ?_
      show s0 = s0 ∧ (((Int32.ofInt 0).toInt = 1 ∧ a2.toInt ≤ a1.toInt ∧ a1.toInt ≤ a3.toInt) ∨ ((Int32.ofInt 0).toInt = 0 ∧ (a1.toInt < a2.toInt ∨ a3.toInt < a1.toInt)))
      exact ⟨rfl, (by first | trivial | omega | assumption)⟩
    · have c1 : ¬ (a1.toInt < a2.toInt) := c1
      refine And.intro (fun c2 => ?_) (fun c2 => ?_)
      · have c2 : a3.toInt < a1.toInt := c2
        refine And.intro (by first | exact Or.inl rfl | exact Or.inr rfl | exact vg_01 (by omega) (by omega)) ?_
        show s0 = s0 ∧ (((Int32.ofInt 0).toInt = 1 ∧ a2.toInt ≤ a1.toInt ∧ a1.toInt ≤ a3.toInt) ∨ ((Int32.ofInt 0).toInt = 0 ∧ (a1.toInt < a2.toInt ∨ a3.toInt < a1.toInt)))
        exact ⟨rfl, (by first | trivial | omega | assumption)⟩
      · have c2 : ¬ (a3.toInt < a1.toInt) := c2
        refine And.intro (by first | exact Or.inl rfl | exact Or.inr rfl | exact vg_01 (by omega) (by omega)) ?_
        show s0 = s0 ∧ (((Int32.ofInt 1).toInt = 1 ∧ a2.toInt ≤ a1.toInt ∧ a1.toInt ≤ a3.toInt) ∨ ((Int32.ofInt 1).toInt = 0 ∧ (a1.toInt < a2.toInt ∨ a3.toInt < a1.toInt)))
        exact ⟨rfl, (by first | trivial | omega | assumption)⟩
def o_X10_isNumber : List vg_I := [(0, .iload_n 0, 1, 0, 0, 0, 0), (1, .sipush (-30000), 3, 0, 0, 0, 0), (4, .sipush 30000, 3, 0, 0, 0, 0), (7, .invokestatic 82, 3, 0, 1, 3, 478), (10, .ireturn, 1, 0, 0, 0, 1)]
set_option maxRecDepth 100000 in
set_option maxHeartbeats 4000000 in
theorem c_X10_isNumber (l : Launch) (G : vg_G) (hp : vg_Hp G) : vg_Ct l G vg_sh r_X10_isNumber := by
  refine vg_meth hp vg_sh_ok r_X10_isNumber k_X10_isNumber rfl (fun h => by cases h) o_X10_isNumber [r_X10_within] false (by decide +kernel) (by decide +kernel) ⟨_, _, rfl, rfl⟩ (List.forall_mem_cons.mpr ⟨⟨c_X10_within l G hp, Nat.le_of_ble_eq_true rfl, Nat.le_of_ble_eq_true rfl⟩, fun _ h => absurd h List.not_mem_nil⟩) (fun h => by cases h) 600 ?_
  intro as s0 hpre
  obtain ⟨a1, rfl, -⟩ := hpre
  have zm30000 : (Int32.ofInt (-30000)).toInt = -30000 := by decide
  have z30000 : (Int32.ofInt 30000).toInt = 30000 := by decide
  refine ⟨Nat.le_of_ble_eq_true rfl, [], ?_, fun _ h => absurd h List.not_mem_nil⟩
  ·
    refine And.intro (Nat.le_of_ble_eq_true rfl) (And.intro ⟨a1, (Int32.ofInt (-30000)), (Int32.ofInt 30000), rfl, trivial⟩ ?_)
    intro v1 s3 h2
    have h2 : s3 = s0 ∧ ((v1.toInt = 1 ∧ (Int32.ofInt (-30000)).toInt ≤ a1.toInt ∧ a1.toInt ≤ (Int32.ofInt 30000).toInt) ∨ (v1.toInt = 0 ∧ (a1.toInt < (Int32.ofInt (-30000)).toInt ∨ (Int32.ofInt 30000).toInt < a1.toInt))) := h2
    have q6 := h2.1.symm
    subst q6
    have q7 := h2.2
    refine And.intro (by first | exact Or.inl rfl | exact Or.inr rfl | exact vg_01 (by omega) (by omega)) ?_
    show s0 = s0 ∧ ((v1.toInt = 1 ∧ -30000 ≤ a1.toInt ∧ a1.toInt ≤ 30000) ∨ (v1.toInt = 0 ∧ (a1.toInt < -30000 ∨ 30000 < a1.toInt)))
    exact ⟨rfl, (by first | trivial | omega | assumption)⟩
def o_X10_isTap : List vg_I := [(0, .iload_n 0, 1, 0, 0, 0, 0), (1, .sipush (-999), 3, 0, 0, 0, 0), (4, .sipush 999, 3, 0, 0, 0, 0), (7, .invokestatic 82, 3, 0, 1, 3, 478), (10, .ireturn, 1, 0, 0, 0, 1)]
set_option maxRecDepth 100000 in
set_option maxHeartbeats 4000000 in
theorem c_X10_isTap (l : Launch) (G : vg_G) (hp : vg_Hp G) : vg_Ct l G vg_sh r_X10_isTap := by
  refine vg_meth hp vg_sh_ok r_X10_isTap k_X10_isTap rfl (fun h => by cases h) o_X10_isTap [r_X10_within] false (by decide +kernel) (by decide +kernel) ⟨_, _, rfl, rfl⟩ (List.forall_mem_cons.mpr ⟨⟨c_X10_within l G hp, Nat.le_of_ble_eq_true rfl, Nat.le_of_ble_eq_true rfl⟩, fun _ h => absurd h List.not_mem_nil⟩) (fun h => by cases h) 600 ?_
  intro as s0 hpre
  obtain ⟨a1, rfl, -⟩ := hpre
  have zm999 : (Int32.ofInt (-999)).toInt = -999 := by decide
  have z999 : (Int32.ofInt 999).toInt = 999 := by decide
  refine ⟨Nat.le_of_ble_eq_true rfl, [], ?_, fun _ h => absurd h List.not_mem_nil⟩
  ·
    refine And.intro (Nat.le_of_ble_eq_true rfl) (And.intro ⟨a1, (Int32.ofInt (-999)), (Int32.ofInt 999), rfl, trivial⟩ ?_)
    intro v1 s3 h2
    have h2 : s3 = s0 ∧ ((v1.toInt = 1 ∧ (Int32.ofInt (-999)).toInt ≤ a1.toInt ∧ a1.toInt ≤ (Int32.ofInt 999).toInt) ∨ (v1.toInt = 0 ∧ (a1.toInt < (Int32.ofInt (-999)).toInt ∨ (Int32.ofInt 999).toInt < a1.toInt))) := h2
    have q6 := h2.1.symm
    subst q6
    have q7 := h2.2
    refine And.intro (by first | exact Or.inl rfl | exact Or.inr rfl | exact vg_01 (by omega) (by omega)) ?_
    show s0 = s0 ∧ ((v1.toInt = 1 ∧ -999 ≤ a1.toInt ∧ a1.toInt ≤ 999) ∨ (v1.toInt = 0 ∧ (a1.toInt < -999 ∨ 999 < a1.toInt)))
    exact ⟨rfl, (by first | trivial | omega | assumption)⟩
def o_X10_isStage : List vg_I := [(0, .iload_n 0, 1, 0, 0, 0, 0), (1, .iconst 0, 1, 0, 0, 0, 0), (2, .bipush 6, 2, 0, 0, 0, 0), (4, .invokestatic 82, 3, 0, 1, 3, 478), (7, .ireturn, 1, 0, 0, 0, 1)]
set_option maxRecDepth 100000 in
set_option maxHeartbeats 4000000 in
theorem c_X10_isStage (l : Launch) (G : vg_G) (hp : vg_Hp G) : vg_Ct l G vg_sh r_X10_isStage := by
  refine vg_meth hp vg_sh_ok r_X10_isStage k_X10_isStage rfl (fun h => by cases h) o_X10_isStage [r_X10_within] false (by decide +kernel) (by decide +kernel) ⟨_, _, rfl, rfl⟩ (List.forall_mem_cons.mpr ⟨⟨c_X10_within l G hp, Nat.le_of_ble_eq_true rfl, Nat.le_of_ble_eq_true rfl⟩, fun _ h => absurd h List.not_mem_nil⟩) (fun h => by cases h) 600 ?_
  intro as s0 hpre
  obtain ⟨a1, rfl, -⟩ := hpre
  have z0 : (Int32.ofInt 0).toInt = 0 := by decide
  have z6 : (Int32.ofInt 6).toInt = 6 := by decide
  refine ⟨Nat.le_of_ble_eq_true rfl, [], ?_, fun _ h => absurd h List.not_mem_nil⟩
  ·
    refine And.intro (Nat.le_of_ble_eq_true rfl) (And.intro ⟨a1, (Int32.ofInt 0), (Int32.ofInt 6), rfl, trivial⟩ ?_)
    intro v1 s3 h2
    have h2 : s3 = s0 ∧ ((v1.toInt = 1 ∧ (Int32.ofInt 0).toInt ≤ a1.toInt ∧ a1.toInt ≤ (Int32.ofInt 6).toInt) ∨ (v1.toInt = 0 ∧ (a1.toInt < (Int32.ofInt 0).toInt ∨ (Int32.ofInt 6).toInt < a1.toInt))) := h2
    have q6 := h2.1.symm
    subst q6
    have q7 := h2.2
    refine And.intro (by first | exact Or.inl rfl | exact Or.inr rfl | exact vg_01 (by omega) (by omega)) ?_
    show s0 = s0 ∧ ((v1.toInt = 1 ∧ 0 ≤ a1.toInt ∧ a1.toInt ≤ 6) ∨ (v1.toInt = 0 ∧ (a1.toInt < 0 ∨ 6 < a1.toInt)))
    exact ⟨rfl, (by first | trivial | omega | assumption)⟩
def o_X8_isKind : List vg_I := [(0, .iload_n 0, 1, 0, 0, 0, 0), (1, .iconst 0, 1, 0, 0, 0, 0), (2, .iconst 3, 1, 0, 0, 0, 0), (3, .invokestatic 13, 3, 0, 2, 3, 0), (6, .ireturn, 1, 0, 0, 0, 1)]
set_option maxRecDepth 100000 in
set_option maxHeartbeats 4000000 in
theorem c_X8_isKind (l : Launch) (G : vg_G) (hp : vg_Hp G) : vg_Ct l G vg_sh r_X8_isKind := by
  refine vg_meth hp vg_sh_ok r_X8_isKind k_X8_isKind rfl (fun h => by cases h) o_X8_isKind [r_X10_within] false (by decide +kernel) (by decide +kernel) ⟨_, _, rfl, rfl⟩ (List.forall_mem_cons.mpr ⟨⟨c_X10_within l G hp, Nat.le_of_ble_eq_true rfl, Nat.le_of_ble_eq_true rfl⟩, fun _ h => absurd h List.not_mem_nil⟩) (fun h => by cases h) 600 ?_
  intro as s0 hpre
  obtain ⟨a1, rfl, -⟩ := hpre
  have z0 : (Int32.ofInt 0).toInt = 0 := by decide
  have z3 : (Int32.ofInt 3).toInt = 3 := by decide
  refine ⟨Nat.le_of_ble_eq_true rfl, [], ?_, fun _ h => absurd h List.not_mem_nil⟩
  ·
    refine And.intro (Nat.le_of_ble_eq_true rfl) (And.intro ⟨a1, (Int32.ofInt 0), (Int32.ofInt 3), rfl, trivial⟩ ?_)
    intro v1 s3 h2
    have h2 : s3 = s0 ∧ ((v1.toInt = 1 ∧ (Int32.ofInt 0).toInt ≤ a1.toInt ∧ a1.toInt ≤ (Int32.ofInt 3).toInt) ∨ (v1.toInt = 0 ∧ (a1.toInt < (Int32.ofInt 0).toInt ∨ (Int32.ofInt 3).toInt < a1.toInt))) := h2
    have q6 := h2.1.symm
    subst q6
    have q7 := h2.2
    refine And.intro (by first | exact Or.inl rfl | exact Or.inr rfl | exact vg_01 (by omega) (by omega)) ?_
    show s0 = s0 ∧ ((v1.toInt = 1 ∧ 0 ≤ a1.toInt ∧ a1.toInt ≤ 3) ∨ (v1.toInt = 0 ∧ (a1.toInt < 0 ∨ 3 < a1.toInt)))
    exact ⟨rfl, (by first | trivial | omega | assumption)⟩
def o_X0_forget : List vg_I := [(0, .aload_n 0, 1, 0, 0, 0, 0), (1, .iconst 0, 1, 0, 0, 0, 0), (2, .putfield 13, 3, 353, 0, 1, 0), (5, .return_, 1, 0, 0, 0, 0)]
set_option maxRecDepth 100000 in
set_option maxHeartbeats 4000000 in
theorem c_X0_forget (l : Launch) (G : vg_G) (hp : vg_Hp G) : vg_Ct l G vg_sh r_X0_forget := by
  refine vg_meth hp vg_sh_ok r_X0_forget k_X0_forget rfl (fun h => by cases h) o_X0_forget [] false (by decide +kernel) (by decide +kernel) ⟨_, _, rfl, rfl⟩ (fun _ h => absurd h List.not_mem_nil) (fun h => by cases h) 600 ?_
  intro as s0 hpre
  obtain ⟨r, rfl, hr, i0⟩ := hpre
  simp only [List.mem_cons, List.not_mem_nil, or_false] at hr
  rcases hr with rfl
  ·
    have z0 : (Int32.ofInt 0).toInt = 0 := by decide
    refine ⟨Nat.le_of_ble_eq_true rfl, [], ?_, fun _ h => absurd h List.not_mem_nil⟩
    ·
      intro s1 e2
      have i3 : Iv s1 := Iv.c1 (lo := 0) (hi := 12) i0 e2 rfl (by omega) (by omega)
      have k4 : K_X0_forget s0 s1 := Kx.u1 Kx.rf e2 rfl
      have g5 : s1.1 20 1 = (Int32.ofInt 0) := by rw [e2]; exact vg_u1_self
      show Iv s1 ∧ K_X0_forget s0 s1 ∧ ((s1.1 20 1).toInt = 0)
      exact ⟨i3, k4, (by rw [g5]; exact z0)⟩
def o_X0_add : List vg_I := [(0, .iconst 0, 1, 0, 0, 0, 0), (1, .istore_n 2, 1, 0, 0, 0, 0), (2, .iload_n 2, 1, 0, 0, 0, 0), (3, .aload_n 0, 1, 0, 0, 0, 0), (4, .getfield 13, 3, 353, 0, 1, 0), (7, .if_icmp .ge 20, 3, 0, 0, 0, 0), (10, .aload_n 0, 1, 0, 0, 0, 0), (11, .getfield 9, 3, 351, 0, 0, 0), (14, .iload_n 2, 1, 0, 0, 0, 0), (15, .iaload, 1, 0, 0, 0, 0), (16, .iload_n 1, 1, 0, 0, 0, 0), (17, .if_icmp .ne 4, 3, 0, 0, 0, 0), (20, .return_, 1, 0, 0, 0, 0), (21, .iinc 2 1, 3, 0, 0, 0, 0), (24, .goto (-22), 3, 0, 0, 0, 0), (27, .aload_n 0, 1, 0, 0, 0, 0), (28, .getfield 13, 3, 353, 0, 1, 0), (31, .bipush 12, 2, 0, 0, 0, 0), (33, .if_icmp .ne 28, 3, 0, 0, 0, 0), (36, .aload_n 0, 1, 0, 0, 0, 0), (37, .getfield 9, 3, 351, 0, 0, 0), (40, .iconst 1, 1, 0, 0, 0, 0), (41, .aload_n 0, 1, 0, 0, 0, 0), (42, .getfield 9, 3, 351, 0, 0, 0), (45, .iconst 0, 1, 0, 0, 0, 0), (46, .bipush 11, 2, 0, 0, 0, 0), (48, .invokestatic 17, 3, 0, 3, 0, 945), (51, .aload_n 0, 1, 0, 0, 0, 0), (52, .dup, 1, 0, 0, 0, 0), (53, .getfield 13, 3, 353, 0, 1, 0), (56, .iconst 1, 1, 0, 0, 0, 0), (57, .isub, 1, 0, 0, 0, 0), (58, .putfield 13, 3, 353, 0, 1, 0), (61, .aload_n 0, 1, 0, 0, 0, 0), (62, .getfield 9, 3, 351, 0, 0, 0), (65, .aload_n 0, 1, 0, 0, 0, 0), (66, .getfield 13, 3, 353, 0, 1, 0), (69, .iload_n 1, 1, 0, 0, 0, 0), (70, .iastore, 1, 0, 0, 0, 0), (71, .aload_n 0, 1, 0, 0, 0, 0), (72, .dup, 1, 0, 0, 0, 0), (73, .getfield 13, 3, 353, 0, 1, 0), (76, .iconst 1, 1, 0, 0, 0, 0), (77, .iadd, 1, 0, 0, 0, 0), (78, .putfield 13, 3, 353, 0, 1, 0), (81, .return_, 1, 0, 0, 0, 0)]
set_option maxRecDepth 100000 in
set_option maxHeartbeats 4000000 in
theorem c_X0_add (l : Launch) (G : vg_G) (hp : vg_Hp G) : vg_Ct l G vg_sh r_X0_add := by
  refine vg_meth hp vg_sh_ok r_X0_add k_X0_add rfl (fun h => by cases h) o_X0_add [] true (by decide +kernel) (by decide +kernel) ⟨_, _, rfl, rfl⟩ (fun _ h => absurd h List.not_mem_nil) (fun _ => ⟨⟨Nat.le_of_ble_eq_true rfl, Nat.le_of_ble_eq_true rfl⟩, vg_cpw_in⟩) 600 ?_
  intro as s0 hpre
  obtain ⟨r, a1, rfl, hr, i0⟩ := hpre
  simp only [List.mem_cons, List.not_mem_nil, or_false] at hr
  rcases hr with rfl
  ·
    have z0 : (Int32.ofInt 0).toInt = 0 := by decide
    have z1 : (Int32.ofInt 1).toInt = 1 := by decide
    have z11 : (Int32.ofInt 11).toInt = 11 := by decide
    have z12 : (Int32.ofInt 12).toInt = 12 := by decide
    refine ⟨Nat.le_of_ble_eq_true rfl, [(2, [true, true, true], (fun L t => ∃ (x2 : Int32), L = [some (.ref 20), some (.int a1), some (.int x2)] ∧ (0 : Int) ≤ x2.toInt ∧ x2.toInt ≤ (12 : Int) ∧ (t.1 20 1 = s0.1 20 1 ∧ t.1 21 = s0.1 21 ∧ ∀ j : Nat, (j : Int) < x2.toInt → s0.1 21 j ≠ a1) ∧ Iv t ∧ K_X0_add s0 t), (fun L _ => (0 + (12 - (vg_li L 2).toInt) * 1000000000000).toNat))], ?_, List.forall_mem_cons.mpr ⟨?_, fun _ h => absurd h List.not_mem_nil⟩⟩
    ·
      exact ⟨rfl, ⟨(Int32.ofInt 0), rfl, (by omega), (by omega), (by first | exact ⟨rfl, rfl, fun j hj => absurd hj (by omega)⟩ | exact ⟨None.1, None.2.1, vg_nf_step None.2.2 None None.2.1 None (by omega) (by omega)⟩), i0, Kx.rf⟩, trivial⟩
    ·
      intro L s5 hL
      obtain ⟨w1, rfl, b2, b3, x4, i6, k7⟩ := hL
      have y0 := congrArg Int32.toInt x4.1
      intro v8 e9
      have g10 : s5.1 20 1 = v8 := by rw [e9]
      have b11 : v8.toInt = (s5.1 20 1).toInt := congrArg Int32.toInt e9
      have b12 : (0 : Int) ≤ v8.toInt ∧ v8.toInt ≤ 12 := by rw [e9]; exact Iv_20_1 i6
      refine And.intro (fun c13 => ?_) (fun c13 => ?_)
      · have c13 : v8.toInt ≤ w1.toInt := c13
        intro v14 e15
        have w16 : v8 = v14 := by rw [e15, g10]
        subst w16
        refine And.intro (fun c17 => ?_) (fun c17 => ?_)
        · have c17 : ¬ v8.toInt = (Int32.ofInt 12).toInt := c17
          intro v18 e19
          have w20 : v8 = v18 := by rw [e19, g10]
          subst w20
          refine And.intro ⟨by omega, by omega⟩ ?_
          intro s21 e22
          have i23 : Iv s21 := Iv.a1 i6 e22 rfl
          have k24 : K_X0_add s0 s21 := Kx.u1 k7 e22 rfl
          intro v25 e26
          have w27 : v8 = v25 := by rw [e26, e22, vg_u1_ne (a := 20) (k := 21) (by decide), g10]
          subst w27
          intro v28 e29
          have b30 := vg_add e29 (by omega) (by omega)
          intro s31 e32
          have i33 : Iv s31 := Iv.c1 (lo := 0) (hi := 12) i23 e32 rfl (by omega) (by omega)
          have k34 : K_X0_add s0 s31 := Kx.u1 k24 e32 rfl
          show Iv s31 ∧ K_X0_add s0 s31 ∧ (vg_adk (s0.1 20 1).toInt (s0.1 21) a1 (s31.1 20 1).toInt (s31.1 21))
          exact ⟨i33, k34, (by first | exact vg_adk_in None x4.2.1 c17 (by omega) (by omega) y0 | exact vg_adk_out (by decide) e22 e32 x4.2.1 x4.2.2 (by omega) (by omega) (by omega) (by omega) | exact vg_adk_full e22 e32 x4.2.1 x4.2.2 (by omega) (by omega) (by omega) (by omega))⟩
        · have c17 : ¬ (¬ v8.toInt = (Int32.ofInt 12).toInt) := c17
          refine And.intro (Nat.le_of_ble_eq_true rfl) (And.intro (by omega) (And.intro (by omega) (And.intro (by omega) (And.intro (by omega) (And.intro (by omega) ?_)))))
          intro s35 e36
          have i37 : Iv s35 := Iv.w1 i6 e36 rfl
          have k38 : K_X0_add s0 s35 := Kx.w1 k7 e36 (fun _ => rfl)
          intro v39 e40
          have w41 : v8 = v39 := by rw [e40, e36, vg_w1_at (a := 20) (k := 21) (by decide), g10]
          subst w41
          intro v42 e43
          have b44 := vg_sub e43 (by omega) (by omega)
          intro s45 e46
          have i47 : Iv s45 := Iv.c1 (lo := 0) (hi := 12) i37 e46 rfl (by omega) (by omega)
          have k48 : K_X0_add s0 s45 := Kx.u1 k38 e46 rfl
          intro v49 e50
          have w51 : v42 = v49 := by rw [e50, e46]; exact vg_u1_self.symm
          subst w51
          refine And.intro ⟨by omega, by omega⟩ ?_
          intro s52 e53
          have i54 : Iv s52 := Iv.a1 i47 e53 rfl
          have k55 : K_X0_add s0 s52 := Kx.u1 k48 e53 rfl
          intro v56 e57
          have w58 : v42 = v56 := by rw [e57, e53, vg_u1_ne (a := 20) (k := 21) (by decide), e46]; exact vg_u1_self.symm
          subst w58
          intro v59 e60
          have b61 := vg_add e60 (by omega) (by omega)
          intro s62 e63
          have i64 : Iv s62 := Iv.c1 (lo := 0) (hi := 12) i54 e63 rfl (by omega) (by omega)
          have k65 : K_X0_add s0 s62 := Kx.u1 k55 e63 rfl
          show Iv s62 ∧ K_X0_add s0 s62 ∧ (vg_adk (s0.1 20 1).toInt (s0.1 21) a1 (s62.1 20 1).toInt (s62.1 21))
          exact ⟨i64, k65, (by first | exact vg_adk_in None x4.2.1 c17 (by omega) (by omega) y0 | exact vg_adk_out (by decide) e36 e46 e53 e63 x4.2.1 x4.2.2 (by omega) (by omega) (by omega) (by omega) | exact vg_adk_full e36 e46 e53 e63 x4.2.1 x4.2.2 (by omega) (by omega) (by omega) (by omega))⟩
      · have c13 : ¬ (v8.toInt ≤ w1.toInt) := c13
        refine And.intro ⟨by omega, by omega⟩ ?_
        intro v66 e67
        refine And.intro (fun c68 => ?_) (fun c68 => ?_)
        · have c68 : ¬ v66.toInt = a1.toInt := c68
          intro v69 e70
          have b71 := vg_add e70 (by omega) (by omega)
          exact ⟨rfl, ⟨v69, rfl, (by omega), (by omega), (by first | exact ⟨rfl, rfl, fun j hj => absurd hj (by omega)⟩ | exact ⟨x4.1, x4.2.1, vg_nf_step x4.2.2 e67 x4.2.1 c68 (by omega) (by omega)⟩), i6, k7⟩, (by show (0 + (12 - v69.toInt) * 1000000000000).toNat < (0 + (12 - w1.toInt) * 1000000000000).toNat; omega)⟩
        · have c68 : ¬ (¬ v66.toInt = a1.toInt) := c68
          show Iv s5 ∧ K_X0_add s0 s5 ∧ (vg_adk (s0.1 20 1).toInt (s0.1 21) a1 (s5.1 20 1).toInt (s5.1 21))
          exact ⟨i6, k7, (by first | exact vg_adk_in e67 x4.2.1 c68 (by omega) (by omega) y0 | exact vg_adk_out (by decide)  x4.2.1 x4.2.2 (by omega) (by omega) (by omega) (by omega) | exact vg_adk_full  x4.2.1 x4.2.2 (by omega) (by omega) (by omega) (by omega))⟩
def o_X1_begin : List vg_I := [(0, .aload_n 0, 1, 0, 0, 0, 0), (1, .getfield 21, 3, 297, 1, 4, 0), (4, .lconst 0, 1, 0, 0, 0, 0), (5, .invokestatic 32, 3, 0, 1, 2, 512), (8, .aload_n 0, 1, 0, 0, 0, 0), (9, .getfield 25, 3, 299, 1, 5, 0), (12, .lconst 0, 1, 0, 0, 0, 0), (13, .invokestatic 32, 3, 0, 1, 2, 512), (16, .aload_n 0, 1, 0, 0, 0, 0), (17, .iconst 0, 1, 0, 0, 0, 0), (18, .putfield 38, 3, 300, 1, 6, 0), (21, .aload_n 0, 1, 0, 0, 0, 0), (22, .iconst 0, 1, 0, 0, 0, 0), (23, .putfield 41, 3, 301, 1, 7, 0), (26, .aload_n 0, 1, 0, 0, 0, 0), (27, .lconst 0, 1, 0, 0, 0, 0), (28, .putfield 44, 3, 303, 1, 8, 2), (31, .return_, 1, 0, 0, 0, 0)]
set_option maxRecDepth 100000 in
set_option maxHeartbeats 4000000 in
theorem c_X1_begin (l : Launch) (G : vg_G) (hp : vg_Hp G) : vg_Ct l G vg_sh r_X1_begin := by
  refine vg_meth hp vg_sh_ok r_X1_begin k_X1_begin rfl (fun h => by cases h) o_X1_begin [r_J7_fill_d0a16] false (by decide +kernel) (by decide +kernel) ⟨_, _, rfl, rfl⟩ (List.forall_mem_cons.mpr ⟨⟨c_J7_fill_d0a16 l G hp, Nat.le_of_ble_eq_true rfl, Nat.le_of_ble_eq_true rfl⟩, fun _ h => absurd h List.not_mem_nil⟩) (fun h => by cases h) 600 ?_
  intro as s0 hpre
  obtain ⟨r, rfl, hr, i0⟩ := hpre
  simp only [List.mem_cons, List.not_mem_nil, or_false] at hr
  rcases hr with rfl
  ·
    have z0 : (Int32.ofInt 0).toInt = 0 := by decide
    refine ⟨Nat.le_of_ble_eq_true rfl, [], ?_, fun _ h => absurd h List.not_mem_nil⟩
    ·
      refine And.intro (Nat.le_of_ble_eq_true rfl) (And.intro ⟨13, (Int64.ofNat 0), rfl, by decide, i0⟩ ?_)
      intro s2 h1
      have h1 : Iv s2 ∧ Kp s0 s2 ∧ (True) := h1
      have i3 := h1.1
      have k4 : Kp s0 s2 := Kx.tr Kx.rf (h1.2.1)
      refine And.intro (Nat.le_of_ble_eq_true rfl) (And.intro ⟨14, (Int64.ofNat 0), rfl, by decide, i3⟩ ?_)
      intro s6 h5
      have h5 : Iv s6 ∧ Kp s2 s6 ∧ (True) := h5
      have i7 := h5.1
      have k8 : Kp s0 s6 := Kx.tr k4 (h5.2.1)
      intro s9 e10
      have i11 : Iv s9 := Iv.u1 i7 e10 rfl
      have k12 : Kp s0 s9 := Kx.u1 k8 e10 rfl
      intro s13 e14
      have i15 : Iv s13 := Iv.u1 i11 e14 rfl
      have k16 : Kp s0 s13 := Kx.u1 k12 e14 rfl
      intro s17 e18
      have i19 : Iv s17 := Iv.u2 i15 e18
      have k20 : Kp s0 s17 := Kx.u2 k16 e18 (vg_kq_no ⟨rfl, rfl, rfl⟩).1
      show Iv s17 ∧ Kp s0 s17 ∧ (True)
      exact ⟨i19, k20, (trivial)⟩
def o_X1_cut : List vg_I := [(0, .bipush 64, 2, 0, 0, 0, 0), (2, .aload_n 0, 1, 0, 0, 0, 0), (3, .getfield 18, 3, 294, 1, 2, 0), (6, .isub, 1, 0, 0, 0, 0), (7, .istore_n 3, 1, 0, 0, 0, 0), (8, .lload_n 1, 1, 0, 0, 0, 0), (9, .iload_n 3, 1, 0, 0, 0, 0), (10, .lshl, 1, 0, 0, 0, 0), (11, .iload_n 3, 1, 0, 0, 0, 0), (12, .lshr, 1, 0, 0, 0, 0), (13, .l2i, 1, 0, 0, 0, 0), (14, .ireturn, 1, 0, 0, 0, 0)]
set_option maxRecDepth 100000 in
set_option maxHeartbeats 4000000 in
theorem c_X1_cut (l : Launch) (G : vg_G) (hp : vg_Hp G) : vg_Ct l G vg_sh r_X1_cut := by
  refine vg_meth hp vg_sh_ok r_X1_cut k_X1_cut rfl (fun h => by cases h) o_X1_cut [] false (by decide +kernel) (by decide +kernel) ⟨_, _, rfl, rfl⟩ (fun _ h => absurd h List.not_mem_nil) (fun h => by cases h) 600 ?_
  intro as s0 hpre
  obtain ⟨r, a1, rfl, hr, i0⟩ := hpre
  simp only [List.mem_cons, List.not_mem_nil, or_false] at hr
  rcases hr with rfl
  ·
    have z64 : (Int32.ofInt 64).toInt = 64 := by decide
    refine ⟨Nat.le_of_ble_eq_true rfl, [], ?_, fun _ h => absurd h List.not_mem_nil⟩
    ·
      intro v1 e2
      have g3 : s0.1 12 2 = v1 := by rw [e2]
      have b4 : (8 : Int) ≤ v1.toInt ∧ v1.toInt ≤ 32 := by rw [e2]; exact Iv_12_2 i0
      intro v5 e6
      have b7 := vg_sub e6 (by omega) (by omega)
      intro v8 e9
      intro v10 e11
      intro v12 e13
      show s0 = s0 ∧ (True)
      exact ⟨rfl, (trivial)⟩
def o_X1_number : List vg_I := [(0, .aload_n 0, 1, 0, 0, 0, 0), (1, .aload_n 0, 1, 0, 0, 0, 0), (2, .getfield 44, 3, 303, 1, 8, 0), (5, .invokevirtual 52, 3, 0, 1, 1, 758), (8, .ireturn, 1, 0, 0, 0, 0)]
set_option maxRecDepth 100000 in
set_option maxHeartbeats 4000000 in
theorem c_X1_number (l : Launch) (G : vg_G) (hp : vg_Hp G) : vg_Ct l G vg_sh r_X1_number := by
  refine vg_meth hp vg_sh_ok r_X1_number k_X1_number rfl (fun h => by cases h) o_X1_number [r_X1_cut] false (by decide +kernel) (by decide +kernel) ⟨_, _, rfl, rfl⟩ (List.forall_mem_cons.mpr ⟨⟨c_X1_cut l G hp, Nat.le_of_ble_eq_true rfl, Nat.le_of_ble_eq_true rfl⟩, fun _ h => absurd h List.not_mem_nil⟩) (fun h => by cases h) 600 ?_
  intro as s0 hpre
  obtain ⟨r, rfl, hr, i0⟩ := hpre
  simp only [List.mem_cons, List.not_mem_nil, or_false] at hr
  rcases hr with rfl
  ·
    refine ⟨Nat.le_of_ble_eq_true rfl, [], ?_, fun _ h => absurd h List.not_mem_nil⟩
    ·
      intro v1 e2
      refine And.intro (Nat.le_of_ble_eq_true rfl) (And.intro ⟨12, v1, rfl, by decide, i0⟩ ?_)
      intro v3 s5 h4
      have h4 : s5 = s0 ∧ (True) := h4
      have q8 := h4.1.symm
      subst q8
      show s0 = s0 ∧ (True)
      exact ⟨rfl, (trivial)⟩
def o_X1_take : List vg_I := [(0, .iload_n 1, 1, 0, 0, 0, 0), (1, .i2l, 1, 0, 0, 0, 0), (2, .lstore_n 2, 1, 0, 0, 0, 0), (3, .iconst 0, 1, 0, 0, 0, 0), (4, .istore 4, 2, 0, 0, 0, 0), (6, .iload 4, 2, 0, 0, 0, 0), (8, .aload_n 0, 1, 0, 0, 0, 0), (9, .getfield 11, 3, 290, 1, 0, 0), (12, .if_icmp .ge 28, 3, 0, 0, 0, 0), (15, .aload_n 0, 1, 0, 0, 0, 0), (16, .getfield 21, 3, 297, 1, 4, 0), (19, .iload 4, 2, 0, 0, 0, 0), (21, .dup2, 1, 0, 0, 0, 0), (22, .laload, 1, 0, 0, 0, 0), (23, .lload_n 2, 1, 0, 0, 0, 0), (24, .ladd, 1, 0, 0, 0, 0), (25, .lastore, 1, 0, 0, 0, 0), (26, .aload_n 0, 1, 0, 0, 0, 0), (27, .getfield 21, 3, 297, 1, 4, 0), (30, .iload 4, 2, 0, 0, 0, 0), (32, .laload, 1, 0, 0, 0, 0), (33, .lstore_n 2, 1, 0, 0, 0, 0), (34, .iinc 4 1, 3, 0, 0, 0, 0), (37, .goto (-31), 3, 0, 0, 0, 0), (40, .aload_n 0, 1, 0, 0, 0, 0), (41, .dup, 1, 0, 0, 0, 0), (42, .getfield 38, 3, 300, 1, 6, 0), (45, .iconst 1, 1, 0, 0, 0, 0), (46, .iadd, 1, 0, 0, 0, 0), (47, .putfield 38, 3, 300, 1, 6, 0), (50, .aload_n 0, 1, 0, 0, 0, 0), (51, .getfield 38, 3, 300, 1, 6, 0), (54, .aload_n 0, 1, 0, 0, 0, 0), (55, .getfield 15, 3, 292, 1, 1, 0), (58, .if_icmp .ge 5, 3, 0, 0, 0, 0), (61, .iconst 0, 1, 0, 0, 0, 0), (62, .ireturn, 1, 0, 0, 0, 1), (63, .aload_n 0, 1, 0, 0, 0, 0), (64, .iconst 0, 1, 0, 0, 0, 0), (65, .putfield 38, 3, 300, 1, 6, 0), (68, .iconst 0, 1, 0, 0, 0, 0), (69, .istore 4, 2, 0, 0, 0, 0), (71, .iload 4, 2, 0, 0, 0, 0), (73, .aload_n 0, 1, 0, 0, 0, 0), (74, .getfield 11, 3, 290, 1, 0, 0), (77, .if_icmp .ge 31, 3, 0, 0, 0, 0), (80, .aload_n 0, 1, 0, 0, 0, 0), (81, .getfield 25, 3, 299, 1, 5, 0), (84, .iload 4, 2, 0, 0, 0, 0), (86, .laload, 1, 0, 0, 0, 0), (87, .lstore 5, 2, 0, 0, 0, 0), (89, .aload_n 0, 1, 0, 0, 0, 0), (90, .getfield 25, 3, 299, 1, 5, 0), (93, .iload 4, 2, 0, 0, 0, 0), (95, .lload_n 2, 1, 0, 0, 0, 0), (96, .lastore, 1, 0, 0, 0, 0), (97, .lload_n 2, 1, 0, 0, 0, 0), (98, .lload 5, 2, 0, 0, 0, 0), (100, .lsub, 1, 0, 0, 0, 0), (101, .lstore_n 2, 1, 0, 0, 0, 0), (102, .iinc 4 1, 3, 0, 0, 0, 0), (105, .goto (-34), 3, 0, 0, 0, 0), (108, .aload_n 0, 1, 0, 0, 0, 0), (109, .lload_n 2, 1, 0, 0, 0, 0), (110, .putfield 44, 3, 303, 1, 8, 2), (113, .aload_n 0, 1, 0, 0, 0, 0), (114, .invokevirtual 48, 3, 0, 1, 0, 754), (117, .i2l, 1, 0, 0, 0, 0), (118, .aload_n 0, 1, 0, 0, 0, 0), (119, .getfield 44, 3, 303, 1, 8, 0), (122, .lcmp, 1, 0, 0, 0, 0), (123, .ifCond .eq 13, 3, 0, 0, 0, 0), (126, .aload_n 0, 1, 0, 0, 0, 0), (127, .dup, 1, 0, 0, 0, 0), (128, .getfield 41, 3, 301, 1, 7, 0), (131, .iconst 1, 1, 0, 0, 0, 0), (132, .iadd, 1, 0, 0, 0, 0), (133, .putfield 41, 3, 301, 1, 7, 0), (136, .iconst 1, 1, 0, 0, 0, 0), (137, .ireturn, 1, 0, 0, 0, 1)]
set_option maxRecDepth 100000 in
set_option maxHeartbeats 4000000 in
theorem c_X1_take (l : Launch) (G : vg_G) (hp : vg_Hp G) : vg_Ct l G vg_sh r_X1_take := by
  refine vg_meth hp vg_sh_ok r_X1_take k_X1_take rfl (fun h => by cases h) o_X1_take [r_X1_number] false (by decide +kernel) (by decide +kernel) ⟨_, _, rfl, rfl⟩ (List.forall_mem_cons.mpr ⟨⟨c_X1_number l G hp, Nat.le_of_ble_eq_true rfl, Nat.le_of_ble_eq_true rfl⟩, fun _ h => absurd h List.not_mem_nil⟩) (fun h => by cases h) 600 ?_
  intro as s0 hpre
  obtain ⟨r, a1, rfl, hr, i0⟩ := hpre
  simp only [List.mem_cons, List.not_mem_nil, or_false] at hr
  rcases hr with rfl
  ·
    have z0 : (Int32.ofInt 0).toInt = 0 := by decide
    have z1 : (Int32.ofInt 1).toInt = 1 := by decide
    refine ⟨Nat.le_of_ble_eq_true rfl, [(6, [true, false, true, false, true, false, false], (fun L t => ∃ (x2 : Int64) (x4 : Int32), L = [some (.ref 12), none, some (.long x2), none, some (.int x4), none, none] ∧ (0 : Int) ≤ x4.toInt ∧ x4.toInt ≤ (5 : Int) ∧ Iv t ∧ Kp s0 t), (fun L _ => (10000000000000000 + (5 - (vg_li L 4).toInt) * 1000000000000).toNat)), (71, [true, false, true, false, true, false, false], (fun L t => ∃ (x2 : Int64) (x4 : Int32), L = [some (.ref 12), none, some (.long x2), none, some (.int x4), none, none] ∧ (0 : Int) ≤ x4.toInt ∧ x4.toInt ≤ (5 : Int) ∧ Iv t ∧ Kp s0 t), (fun L _ => (0 + (5 - (vg_li L 4).toInt) * 1000000000000).toNat))], ?_, List.forall_mem_cons.mpr ⟨?_, List.forall_mem_cons.mpr ⟨?_, fun _ h => absurd h List.not_mem_nil⟩⟩⟩
    ·
      intro v1 e2
      exact ⟨rfl, ⟨v1, (Int32.ofInt 0), rfl, (by omega), (by omega), i0, Kx.rf⟩, trivial⟩
    ·
      intro L s7 hL
      obtain ⟨w3, w4, rfl, b5, b6, i8, k9⟩ := hL
      intro v10 e11
      have g12 : s7.1 12 0 = v10 := by rw [e11]
      have b13 : (1 : Int) ≤ v10.toInt ∧ v10.toInt ≤ 5 := by rw [e11]; exact Iv_12_0 i8
      refine And.intro (fun c14 => ?_) (fun c14 => ?_)
      · have c14 : v10.toInt ≤ w4.toInt := c14
        intro v15 e16
        have g17 : s7.1 12 6 = v15 := by rw [e16]
        intro v18 e19
        intro s20 e21
        have i22 : Iv s20 := Iv.u1 i8 e21 rfl
        have k23 : Kp s0 s20 := Kx.u1 k9 e21 rfl
        intro v24 e25
        have w26 : v18 = v24 := by rw [e25, e21]; exact vg_u1_self.symm
        subst w26
        intro v27 e28
        have g29 : s7.1 12 1 = v27 := by rw [e28, e21, vg_u1_at (a := 12) (b := 1) (k := 12) (i := 6) (by decide)]
        have b30 : (1 : Int) ≤ v27.toInt ∧ v27.toInt ≤ 16 := by rw [e28]; exact Iv_12_1 i22
        refine And.intro (fun c31 => ?_) (fun c31 => ?_)
        · have c31 : v27.toInt ≤ v18.toInt := c31
          intro s32 e33
          have i34 : Iv s32 := Iv.u1 i22 e33 rfl
          have k35 : Kp s0 s32 := Kx.u1 k23 e33 rfl
          exact ⟨rfl, ⟨w3, (Int32.ofInt 0), rfl, (by omega), (by omega), i34, k35⟩, (by show (0 + (5 - (Int32.ofInt 0).toInt) * 1000000000000).toNat < (10000000000000000 + (5 - w4.toInt) * 1000000000000).toNat; omega)⟩
        · have c31 : ¬ (v27.toInt ≤ v18.toInt) := c31
          refine And.intro (by first | exact Or.inl rfl | exact Or.inr rfl | exact vg_01 (by omega) (by omega)) ?_
          show Iv s20 ∧ Kp s0 s20 ∧ (True)
          exact ⟨i22, k23, (trivial)⟩
      · have c14 : ¬ (v10.toInt ≤ w4.toInt) := c14
        refine And.intro ⟨by omega, by omega⟩ ?_
        intro v36 e37
        intro v38 e39
        refine And.intro ⟨by omega, by omega⟩ ?_
        intro s40 e41
        have i42 : Iv s40 := Iv.u2 i8 e41
        have k43 : Kp s0 s40 := Kx.u2 k9 e41 (vg_kq_no ⟨rfl, rfl, rfl⟩).1
        refine And.intro ⟨by omega, by omega⟩ ?_
        intro v44 e45
        intro v46 e47
        have b48 := vg_add e47 (by omega) (by omega)
        exact ⟨rfl, ⟨v44, v46, rfl, (by omega), (by omega), i42, k43⟩, (by show (10000000000000000 + (5 - v46.toInt) * 1000000000000).toNat < (10000000000000000 + (5 - w4.toInt) * 1000000000000).toNat; omega)⟩
    ·
      intro L s53 hL
      obtain ⟨w49, w50, rfl, b51, b52, i54, k55⟩ := hL
      intro v56 e57
      have g58 : s53.1 12 0 = v56 := by rw [e57]
      have b59 : (1 : Int) ≤ v56.toInt ∧ v56.toInt ≤ 5 := by rw [e57]; exact Iv_12_0 i54
      refine And.intro (fun c60 => ?_) (fun c60 => ?_)
      · have c60 : v56.toInt ≤ w50.toInt := c60
        intro s61 e62
        have i63 : Iv s61 := Iv.u2 i54 e62
        have k64 : Kp s0 s61 := Kx.u2 k55 e62 (vg_kq_no ⟨rfl, rfl, rfl⟩).1
        refine And.intro (Nat.le_of_ble_eq_true rfl) (And.intro ⟨12, rfl, by decide, i63⟩ ?_)
        intro v65 s67 h66
        have h66 : s67 = s61 ∧ (True) := h66
        have q70 := h66.1.symm
        subst q70
        intro v71 e72
        intro v73 e74
        intro v75 e76
        refine And.intro (fun c77 => ?_) (fun c77 => ?_)
        · have c77 : v75.toInt = 0 := c77
          refine And.intro (by first | exact Or.inl rfl | exact Or.inr rfl | exact vg_01 (by omega) (by omega)) ?_
          show Iv s61 ∧ Kp s0 s61 ∧ (True)
          exact ⟨i63, k64, (trivial)⟩
        · have c77 : ¬ (v75.toInt = 0) := c77
          intro v78 e79
          have g80 : s53.1 12 7 = v78 := by rw [e79, e62, vg_u2_1]
          intro v81 e82
          intro s83 e84
          have i85 : Iv s83 := Iv.u1 i63 e84 rfl
          have k86 : Kp s0 s83 := Kx.u1 k64 e84 rfl
          refine And.intro (by first | exact Or.inl rfl | exact Or.inr rfl | exact vg_01 (by omega) (by omega)) ?_
          show Iv s83 ∧ Kp s0 s83 ∧ (True)
          exact ⟨i85, k86, (trivial)⟩
      · have c60 : ¬ (v56.toInt ≤ w50.toInt) := c60
        refine And.intro ⟨by omega, by omega⟩ ?_
        intro v87 e88
        refine And.intro ⟨by omega, by omega⟩ ?_
        intro s89 e90
        have i91 : Iv s89 := Iv.u2 i54 e90
        have k92 : Kp s0 s89 := Kx.u2 k55 e90 (vg_kq_no ⟨rfl, rfl, rfl⟩).1
        intro v93 e94
        intro v95 e96
        have b97 := vg_add e96 (by omega) (by omega)
        exact ⟨rfl, ⟨v93, v95, rfl, (by omega), (by omega), i91, k92⟩, (by show (0 + (5 - v95.toInt) * 1000000000000).toNat < (0 + (5 - w50.toInt) * 1000000000000).toNat; omega)⟩
def o_X1_leastWidth : List vg_I := [(0, .iload_n 1, 1, 0, 0, 0, 0), (1, .i2l, 1, 0, 0, 0, 0), (2, .lstore_n 2, 1, 0, 0, 0, 0), (3, .iconst 0, 1, 0, 0, 0, 0), (4, .istore 4, 2, 0, 0, 0, 0), (6, .iload 4, 2, 0, 0, 0, 0), (8, .aload_n 0, 1, 0, 0, 0, 0), (9, .getfield 11, 3, 290, 1, 0, 0), (12, .if_icmp .ge 17, 3, 0, 0, 0, 0), (15, .lload_n 2, 1, 0, 0, 0, 0), (16, .aload_n 0, 1, 0, 0, 0, 0), (17, .getfield 15, 3, 292, 1, 1, 0), (20, .i2l, 1, 0, 0, 0, 0), (21, .lmul, 1, 0, 0, 0, 0), (22, .lstore_n 2, 1, 0, 0, 0, 0), (23, .iinc 4 1, 3, 0, 0, 0, 0), (26, .goto (-20), 3, 0, 0, 0, 0), (29, .bipush 8, 2, 0, 0, 0, 0), (31, .istore 4, 2, 0, 0, 0, 0), (33, .iload 4, 2, 0, 0, 0, 0), (35, .bipush 32, 2, 0, 0, 0, 0), (37, .if_icmp .gt 23, 3, 0, 0, 0, 0), (40, .lload_n 2, 1, 0, 0, 0, 0), (41, .lconst 1, 1, 0, 0, 0, 0), (42, .iload 4, 2, 0, 0, 0, 0), (44, .iconst 1, 1, 0, 0, 0, 0), (45, .isub, 1, 0, 0, 0, 0), (46, .lshl, 1, 0, 0, 0, 0), (47, .lcmp, 1, 0, 0, 0, 0), (48, .ifCond .ge 6, 3, 0, 0, 0, 0), (51, .iload 4, 2, 0, 0, 0, 0), (53, .ireturn, 1, 0, 0, 0, 0), (54, .iinc 4 1, 3, 0, 0, 0, 0), (57, .goto (-24), 3, 0, 0, 0, 0), (60, .iconst (-1), 1, 0, 0, 0, 0), (61, .ireturn, 1, 0, 0, 0, 0)]
set_option maxRecDepth 100000 in
set_option maxHeartbeats 4000000 in
theorem c_X1_leastWidth (l : Launch) (G : vg_G) (hp : vg_Hp G) : vg_Ct l G vg_sh r_X1_leastWidth := by
  refine vg_meth hp vg_sh_ok r_X1_leastWidth k_X1_leastWidth rfl (fun h => by cases h) o_X1_leastWidth [] false (by decide +kernel) (by decide +kernel) ⟨_, _, rfl, rfl⟩ (fun _ h => absurd h List.not_mem_nil) (fun h => by cases h) 600 ?_
  intro as s0 hpre
  obtain ⟨r, a1, rfl, hr, i0⟩ := hpre
  simp only [List.mem_cons, List.not_mem_nil, or_false] at hr
  rcases hr with rfl
  ·
    have zm1 : (Int32.ofInt (-1)).toInt = -1 := by decide
    have z0 : (Int32.ofInt 0).toInt = 0 := by decide
    have z1 : (Int32.ofInt 1).toInt = 1 := by decide
    have z8 : (Int32.ofInt 8).toInt = 8 := by decide
    have z32 : (Int32.ofInt 32).toInt = 32 := by decide
    refine ⟨Nat.le_of_ble_eq_true rfl, [(6, [true, false, true, false, true], (fun L t => ∃ (x2 : Int64) (x4 : Int32), L = [some (.ref 12), none, some (.long x2), none, some (.int x4)] ∧ (0 : Int) ≤ x4.toInt ∧ x4.toInt ≤ (5 : Int) ∧ (x2 = vg_mp (s0.1 12 1).toInt64 a1.toInt64 x4.toNatClampNeg ∧ x4.toInt ≤ (s0.1 12 0).toInt) ∧ t = s0), (fun L _ => (10000000000000000 + (5 - (vg_li L 4).toInt) * 1000000000000).toNat)), (33, [false, false, true, false, true], (fun L t => ∃ (x2 : Int64) (x4 : Int32), L = [none, none, some (.long x2), none, some (.int x4)] ∧ (8 : Int) ≤ x4.toInt ∧ x4.toInt ≤ (33 : Int) ∧ (x2 = vg_mp (s0.1 12 1).toInt64 a1.toInt64 (s0.1 12 0).toNatClampNeg ∧ vg_ge8 x2 x4) ∧ t = s0), (fun L _ => (0 + (33 - (vg_li L 4).toInt) * 1000000000000).toNat))], ?_, List.forall_mem_cons.mpr ⟨?_, List.forall_mem_cons.mpr ⟨?_, fun _ h => absurd h List.not_mem_nil⟩⟩⟩
    ·
      intro v1 e2
      exact ⟨rfl, ⟨v1, (Int32.ofInt 0), rfl, (by omega), (by omega), (by first | exact ⟨e2, by have h9 := Iv_12_0 i0; omega⟩ | exact ⟨vg_mp_step None.1 None e2 None (by omega) (by omega), by omega⟩), rfl⟩, trivial⟩
    ·
      intro L s8 hL
      obtain ⟨w3, w4, rfl, b5, b6, x7, q11⟩ := hL
      have q11 := q11.symm
      subst q11
      intro v12 e13
      have g14 : s0.1 12 0 = v12 := by rw [e13]
      have b15 : v12.toInt = (s0.1 12 0).toInt := congrArg Int32.toInt e13
      have b16 : (1 : Int) ≤ v12.toInt ∧ v12.toInt ≤ 5 := by rw [e13]; exact Iv_12_0 i0
      refine And.intro (fun c17 => ?_) (fun c17 => ?_)
      · have c17 : v12.toInt ≤ w4.toInt := c17
        exact ⟨rfl, ⟨w3, (Int32.ofInt 8), rfl, (by omega), (by omega), (by first | exact ⟨x7.1, vg_ge8_step x7.2 None None None c17 (by omega)⟩ | exact ⟨vg_mp_at x7.1 (by omega), vg_ge8_0⟩), rfl⟩, (by show (0 + (33 - (Int32.ofInt 8).toInt) * 1000000000000).toNat < (10000000000000000 + (5 - w4.toInt) * 1000000000000).toNat; omega)⟩
      · have c17 : ¬ (v12.toInt ≤ w4.toInt) := c17
        intro v18 e19
        have g20 : s0.1 12 1 = v18 := by rw [e19]
        have b21 : (1 : Int) ≤ v18.toInt ∧ v18.toInt ≤ 16 := by rw [e19]; exact Iv_12_1 i0
        intro v22 e23
        have b24 := vg_i2l e23
        intro v25 e26
        intro v27 e28
        have b29 := vg_add e28 (by omega) (by omega)
        exact ⟨rfl, ⟨v25, v27, rfl, (by omega), (by omega), (by first | exact ⟨e23, by have h9 := Iv_12_0 i0; omega⟩ | exact ⟨vg_mp_step x7.1 e19 e23 e26 (by omega) (by omega), by omega⟩), rfl⟩, (by show (10000000000000000 + (5 - v27.toInt) * 1000000000000).toNat < (10000000000000000 + (5 - w4.toInt) * 1000000000000).toNat; omega)⟩
    ·
      intro L s35 hL
      obtain ⟨w30, w31, rfl, b32, b33, x34, q38⟩ := hL
      have q38 := q38.symm
      subst q38
      refine And.intro (fun c39 => ?_) (fun c39 => ?_)
      · have c39 : (Int32.ofInt 32).toInt < w31.toInt := c39
        show s0 = s0 ∧ (vg_isneed (vg_mp (s0.1 12 1).toInt64 a1.toInt64 (s0.1 12 0).toNatClampNeg) (Int32.ofInt (-1)))
        exact ⟨rfl, (by first | exact vg_isneed1 x34.1 x34.2 None None None c39 (by omega) (by omega) | exact vg_isneed2 x34.1 x34.2 (by omega) (by decide))⟩
      · have c39 : ¬ ((Int32.ofInt 32).toInt < w31.toInt) := c39
        intro v40 e41
        have b42 := vg_sub e41 (by omega) (by omega)
        intro v43 e44
        intro v45 e46
        refine And.intro (fun c47 => ?_) (fun c47 => ?_)
        · have c47 : 0 ≤ v45.toInt := c47
          intro v48 e49
          have b50 := vg_add e49 (by omega) (by omega)
          exact ⟨rfl, ⟨w30, v48, rfl, (by omega), (by omega), (by first | exact ⟨x34.1, vg_ge8_step x34.2 e41 e44 e46 c47 (by omega)⟩ | exact ⟨vg_mp_at x34.1 (by omega), vg_ge8_0⟩), rfl⟩, (by show (0 + (33 - v48.toInt) * 1000000000000).toNat < (0 + (33 - w31.toInt) * 1000000000000).toNat; omega)⟩
        · have c47 : ¬ (0 ≤ v45.toInt) := c47
          show s0 = s0 ∧ (vg_isneed (vg_mp (s0.1 12 1).toInt64 a1.toInt64 (s0.1 12 0).toNatClampNeg) w31)
          exact ⟨rfl, (by first | exact vg_isneed1 x34.1 x34.2 e41 e44 e46 c47 (by omega) (by omega) | exact vg_isneed2 x34.1 x34.2 (by omega) (by decide))⟩
def o_X1_lastOfResponse : List vg_I := [(0, .aload_n 0, 1, 0, 0, 0, 0), (1, .getfield 11, 3, 290, 1, 0, 0), (4, .aload_n 0, 1, 0, 0, 0, 0), (5, .getfield 15, 3, 292, 1, 1, 0), (8, .iconst 1, 1, 0, 0, 0, 0), (9, .isub, 1, 0, 0, 0, 0), (10, .imul, 1, 0, 0, 0, 0), (11, .ireturn, 1, 0, 0, 0, 0)]
set_option maxRecDepth 100000 in
set_option maxHeartbeats 4000000 in
theorem c_X1_lastOfResponse (l : Launch) (G : vg_G) (hp : vg_Hp G) : vg_Ct l G vg_sh r_X1_lastOfResponse := by
  refine vg_meth hp vg_sh_ok r_X1_lastOfResponse k_X1_lastOfResponse rfl (fun h => by cases h) o_X1_lastOfResponse [] false (by decide +kernel) (by decide +kernel) ⟨_, _, rfl, rfl⟩ (fun _ h => absurd h List.not_mem_nil) (fun h => by cases h) 600 ?_
  intro as s0 hpre
  obtain ⟨r, rfl, hr, i0⟩ := hpre
  simp only [List.mem_cons, List.not_mem_nil, or_false] at hr
  rcases hr with rfl
  ·
    have z1 : (Int32.ofInt 1).toInt = 1 := by decide
    refine ⟨Nat.le_of_ble_eq_true rfl, [], ?_, fun _ h => absurd h List.not_mem_nil⟩
    ·
      intro v1 e2
      have g3 : s0.1 12 0 = v1 := by rw [e2]
      have b4 : v1.toInt = (s0.1 12 0).toInt := congrArg Int32.toInt e2
      have b5 : (1 : Int) ≤ v1.toInt ∧ v1.toInt ≤ 5 := by rw [e2]; exact Iv_12_0 i0
      intro v6 e7
      have g8 : s0.1 12 1 = v6 := by rw [e7]
      have b9 : v6.toInt = (s0.1 12 1).toInt := congrArg Int32.toInt e7
      have b10 : (1 : Int) ≤ v6.toInt ∧ v6.toInt ≤ 16 := by rw [e7]; exact Iv_12_1 i0
      intro v11 e12
      have b13 := vg_sub e12 (by omega) (by omega)
      intro v14 e15
      show s0 = s0 ∧ (v14.toInt = vg_lres (s0.1 12 0) (s0.1 12 1) ∧ 0 ≤ v14.toInt ∧ v14.toInt ≤ 75)
      exact ⟨rfl, (vg_lres_mk e15 (by omega) (by omega) (by omega) (by omega))⟩
def o_X1_foldByOnes : List vg_I := [(0, .aload_n 0, 1, 0, 0, 0, 0), (1, .getfield 28, 3, 305, 1, 9, 0), (4, .arraylength, 1, 0, 0, 0, 0), (5, .iconst 1, 1, 0, 0, 0, 0), (6, .isub, 1, 0, 0, 0, 0), (7, .istore_n 1, 1, 0, 0, 0, 0), (8, .iload_n 1, 1, 0, 0, 0, 0), (9, .ifCond .lt 50, 3, 0, 0, 0, 0), (12, .iconst 0, 1, 0, 0, 0, 0), (13, .istore_n 2, 1, 0, 0, 0, 0), (14, .iconst 0, 1, 0, 0, 0, 0), (15, .istore_n 3, 1, 0, 0, 0, 0), (16, .iload_n 3, 1, 0, 0, 0, 0), (17, .aload_n 0, 1, 0, 0, 0, 0), (18, .getfield 15, 3, 292, 1, 1, 0), (21, .if_icmp .ge 25, 3, 0, 0, 0, 0), (24, .iload_n 3, 1, 0, 0, 0, 0), (25, .iload_n 1, 1, 0, 0, 0, 0), (26, .if_icmp .gt 20, 3, 0, 0, 0, 0), (29, .iload_n 2, 1, 0, 0, 0, 0), (30, .aload_n 0, 1, 0, 0, 0, 0), (31, .getfield 28, 3, 305, 1, 9, 0), (34, .iload_n 1, 1, 0, 0, 0, 0), (35, .iload_n 3, 1, 0, 0, 0, 0), (36, .isub, 1, 0, 0, 0, 0), (37, .iaload, 1, 0, 0, 0, 0), (38, .iadd, 1, 0, 0, 0, 0), (39, .istore_n 2, 1, 0, 0, 0, 0), (40, .iinc 3 1, 3, 0, 0, 0, 0), (43, .goto (-27), 3, 0, 0, 0, 0), (46, .aload_n 0, 1, 0, 0, 0, 0), (47, .getfield 28, 3, 305, 1, 9, 0), (50, .iload_n 1, 1, 0, 0, 0, 0), (51, .iload_n 2, 1, 0, 0, 0, 0), (52, .iastore, 1, 0, 0, 0, 0), (53, .iinc 1 (-1), 3, 0, 0, 0, 0), (56, .goto (-48), 3, 0, 0, 0, 0), (59, .return_, 1, 0, 0, 0, 0)]
set_option maxRecDepth 100000 in
set_option maxHeartbeats 4000000 in
theorem c_X1_foldByOnes (l : Launch) (G : vg_G) (hp : vg_Hp G) : vg_Ct l G vg_sh r_X1_foldByOnes := by
  refine vg_meth hp vg_sh_ok r_X1_foldByOnes k_X1_foldByOnes rfl (fun h => by cases h) o_X1_foldByOnes [] false (by decide +kernel) (by decide +kernel) ⟨_, _, rfl, rfl⟩ (fun _ h => absurd h List.not_mem_nil) (fun h => by cases h) 600 ?_
  intro as s0 hpre
  obtain ⟨r, rfl, hr, i0⟩ := hpre
  simp only [List.mem_cons, List.not_mem_nil, or_false] at hr
  rcases hr with rfl
  ·
    have zm1 : (Int32.ofInt (-1)).toInt = -1 := by decide
    have z0 : (Int32.ofInt 0).toInt = 0 := by decide
    have z1 : (Int32.ofInt 1).toInt = 1 := by decide
    have n76 : (Int32.ofNat 76).toInt = 76 := by decide
    refine ⟨Nat.le_of_ble_eq_true rfl, [(8, [true, true, false, false], (fun L t => ∃ (x1 : Int32), L = [some (.ref 12), some (.int x1), none, none] ∧ (-1 : Int) ≤ x1.toInt ∧ x1.toInt ≤ (75 : Int) ∧ (vg_fb s0 t x1) ∧ Iv t ∧ Kp s0 t), (fun L _ => (((vg_li L 1).toInt + 1) * 100).toNat)), (16, [true, true, true, true], (fun L t => ∃ (x1 : Int32) (x2 : Int32) (x3 : Int32), L = [some (.ref 12), some (.int x1), some (.int x2), some (.int x3)] ∧ (0 : Int) ≤ x1.toInt ∧ x1.toInt ≤ (75 : Int) ∧ (0 : Int) ≤ x3.toInt ∧ x3.toInt ≤ (17 : Int) ∧ (vg_fb s0 t x1 ∧ x2 = vg_ps (s0.1 15) x1.toNatClampNeg x3.toNatClampNeg ∧ x3.toInt ≤ (s0.1 12 1).toInt ∧ x3.toInt ≤ x1.toInt + 1) ∧ Iv t ∧ Kp s0 t), (fun L _ => ((vg_li L 1).toInt * 100 + (17 - (vg_li L 3).toInt) + 1).toNat))], ?_, List.forall_mem_cons.mpr ⟨?_, List.forall_mem_cons.mpr ⟨?_, fun _ h => absurd h List.not_mem_nil⟩⟩⟩
    ·
      intro v1 e2
      have b3 := vg_sub e2 (by omega) (by omega)
      exact ⟨rfl, ⟨v1, rfl, (by omega), (by omega), (by first | exact vg_fb0 (by omega) | exact vg_fb_nx None.1 None.2.1 rfl (by omega) (by omega) (by omega) (by omega)), i0, Kx.rf⟩, trivial⟩
    ·
      intro L s8 hL
      obtain ⟨w4, rfl, b5, b6, x7, i9, k10⟩ := hL
      refine And.intro (fun c11 => ?_) (fun c11 => ?_)
      · have c11 : w4.toInt < 0 := c11
        show Iv s8 ∧ Kp s0 s8 ∧ (∀ j : Nat, j < 76 → s8.1 15 j = vg_ps (s0.1 15) j (s0.1 12 1).toNatClampNeg)
        exact ⟨i9, k10, (fun j hj => x7.2 j (by omega) hj)⟩
      · have c11 : ¬ (w4.toInt < 0) := c11
        exact ⟨rfl, ⟨w4, (Int32.ofInt 0), (Int32.ofInt 0), rfl, (by omega), (by omega), (by omega), (by omega), (by first | exact ⟨x7, rfl, by have h9 := Iv_12_1 i0; omega, by omega⟩ | exact ⟨x7.1, vg_fb_in x7.1 x7.2.1 None (by omega) None (by omega) (by omega) (by omega), by omega, by omega⟩), i9, k10⟩, (by show (w4.toInt * 100 + (17 - (Int32.ofInt 0).toInt) + 1).toNat < ((w4.toInt + 1) * 100).toNat; omega)⟩
    ·
      intro L s20 hL
      obtain ⟨w12, w15, w16, rfl, b13, b14, b17, b18, x19, i21, k22⟩ := hL
      have y0 := congrArg Int32.toInt (k22.1 12 1 rfl)
      intro v23 e24
      have g25 : s20.1 12 1 = v23 := by rw [e24]
      have b26 : v23.toInt = (s20.1 12 1).toInt := congrArg Int32.toInt e24
      have b27 : (1 : Int) ≤ v23.toInt ∧ v23.toInt ≤ 16 := by rw [e24]; exact Iv_12_1 i21
      refine And.intro (fun c28 => ?_) (fun c28 => ?_)
      · have c28 : v23.toInt ≤ w16.toInt := c28
        refine And.intro ⟨by omega, by omega⟩ ?_
        intro s29 e30
        have i31 : Iv s29 := Iv.a1 i21 e30 rfl
        have k32 : Kp s0 s29 := Kx.u1 k22 e30 rfl
        intro v33 e34
        have b35 := vg_add e34 (by omega) (by omega)
        exact ⟨rfl, ⟨v33, rfl, (by omega), (by omega), (by first | exact vg_fb0 (by omega) | exact vg_fb_nx x19.1 x19.2.1 e30 (by omega) (by omega) (by omega) (by omega)), i31, k32⟩, (by show ((v33.toInt + 1) * 100).toNat < (w12.toInt * 100 + (17 - w16.toInt) + 1).toNat; omega)⟩
      · have c28 : ¬ (v23.toInt ≤ w16.toInt) := c28
        refine And.intro (fun c36 => ?_) (fun c36 => ?_)
        · have c36 : w12.toInt < w16.toInt := c36
          refine And.intro ⟨by omega, by omega⟩ ?_
          intro s37 e38
          have i39 : Iv s37 := Iv.a1 i21 e38 rfl
          have k40 : Kp s0 s37 := Kx.u1 k22 e38 rfl
          intro v41 e42
          have b43 := vg_add e42 (by omega) (by omega)
          exact ⟨rfl, ⟨v41, rfl, (by omega), (by omega), (by first | exact vg_fb0 (by omega) | exact vg_fb_nx x19.1 x19.2.1 e38 (by omega) (by omega) (by omega) (by omega)), i39, k40⟩, (by show ((v41.toInt + 1) * 100).toNat < (w12.toInt * 100 + (17 - w16.toInt) + 1).toNat; omega)⟩
        · have c36 : ¬ (w12.toInt < w16.toInt) := c36
          intro v44 e45
          have b46 := vg_sub e45 (by omega) (by omega)
          refine And.intro ⟨by omega, by omega⟩ ?_
          intro v47 e48
          intro v49 e50
          intro v51 e52
          have b53 := vg_add e52 (by omega) (by omega)
          exact ⟨rfl, ⟨w12, v49, v51, rfl, (by omega), (by omega), (by omega), (by omega), (by first | exact ⟨x19, rfl, by have h9 := Iv_12_1 i0; omega, by omega⟩ | exact ⟨x19.1, vg_fb_in x19.1 x19.2.1 e48 (by omega) e50 (by omega) (by omega) (by omega), by omega, by omega⟩), i21, k22⟩, (by show (w12.toInt * 100 + (17 - v51.toInt) + 1).toNat < (w12.toInt * 100 + (17 - w16.toInt) + 1).toNat; omega)⟩
def o_X1_responseAt : List vg_I := [(0, .iload_n 1, 1, 0, 0, 0, 0), (1, .ifCond .lt 12, 3, 0, 0, 0, 0), (4, .iload_n 1, 1, 0, 0, 0, 0), (5, .aload_n 0, 1, 0, 0, 0, 0), (6, .getfield 28, 3, 305, 1, 9, 0), (9, .arraylength, 1, 0, 0, 0, 0), (10, .if_icmp .lt 5, 3, 0, 0, 0, 0), (13, .iconst 0, 1, 0, 0, 0, 0), (14, .ireturn, 1, 0, 0, 0, 0), (15, .aload_n 0, 1, 0, 0, 0, 0), (16, .getfield 28, 3, 305, 1, 9, 0), (19, .iconst 0, 1, 0, 0, 0, 0), (20, .invokestatic 56, 3, 0, 1, 2, 905), (23, .aload_n 0, 1, 0, 0, 0, 0), (24, .getfield 28, 3, 305, 1, 9, 0), (27, .iconst 0, 1, 0, 0, 0, 0), (28, .iconst 1, 1, 0, 0, 0, 0), (29, .iastore, 1, 0, 0, 0, 0), (30, .iconst 0, 1, 0, 0, 0, 0), (31, .istore_n 2, 1, 0, 0, 0, 0), (32, .iload_n 2, 1, 0, 0, 0, 0), (33, .aload_n 0, 1, 0, 0, 0, 0), (34, .getfield 11, 3, 290, 1, 0, 0), (37, .if_icmp .ge 13, 3, 0, 0, 0, 0), (40, .aload_n 0, 1, 0, 0, 0, 0), (41, .invokevirtual 59, 3, 1, 1, 0, 906), (44, .iinc 2 1, 3, 0, 0, 0, 0), (47, .goto (-15), 3, 0, 0, 0, 0), (50, .aload_n 0, 1, 0, 0, 0, 0), (51, .getfield 28, 3, 305, 1, 9, 0), (54, .iload_n 1, 1, 0, 0, 0, 0), (55, .iaload, 1, 0, 0, 0, 0), (56, .ireturn, 1, 0, 0, 0, 0)]
set_option maxRecDepth 100000 in
set_option maxHeartbeats 4000000 in
theorem c_X1_responseAt (l : Launch) (G : vg_G) (hp : vg_Hp G) : vg_Ct l G vg_sh r_X1_responseAt := by
  refine vg_meth hp vg_sh_ok r_X1_responseAt k_X1_responseAt rfl (fun h => by cases h) o_X1_responseAt [r_J7_fill_53178_at15, r_X1_foldByOnes] false (by decide +kernel) (by decide +kernel) ⟨_, _, rfl, rfl⟩ (List.forall_mem_cons.mpr ⟨⟨c_J7_fill_53178_at15 l G hp, Nat.le_of_ble_eq_true rfl, Nat.le_of_ble_eq_true rfl⟩, List.forall_mem_cons.mpr ⟨⟨c_X1_foldByOnes l G hp, Nat.le_of_ble_eq_true rfl, Nat.le_of_ble_eq_true rfl⟩, fun _ h => absurd h List.not_mem_nil⟩⟩) (fun h => by cases h) 600 ?_
  intro as s0 hpre
  obtain ⟨r, a1, rfl, hr, i0⟩ := hpre
  simp only [List.mem_cons, List.not_mem_nil, or_false] at hr
  rcases hr with rfl
  ·
    have z0 : (Int32.ofInt 0).toInt = 0 := by decide
    have z1 : (Int32.ofInt 1).toInt = 1 := by decide
    have n76 : (Int32.ofNat 76).toInt = 76 := by decide
    refine ⟨Nat.le_of_ble_eq_true rfl, [(32, [true, true, true], (fun L t => ∃ (x2 : Int32), L = [some (.ref 12), some (.int a1), some (.int x2)] ∧ (0 : Int) ≤ x2.toInt ∧ x2.toInt ≤ (5 : Int) ∧ (0 : Int) ≤ a1.toInt ∧ a1.toInt ≤ (75 : Int) ∧ ((∀ j : Nat, j < 76 → t.1 15 j = vg_cc (s0.1 12 1).toNatClampNeg x2.toNatClampNeg j) ∧ x2.toInt ≤ (s0.1 12 0).toInt) ∧ Iv t ∧ Kp s0 t), (fun L _ => (0 + (5 - (vg_li L 2).toInt) * 1000000000000).toNat))], ?_, List.forall_mem_cons.mpr ⟨?_, fun _ h => absurd h List.not_mem_nil⟩⟩
    ·
      refine And.intro (fun c1 => ?_) (fun c1 => ?_)
      · have c1 : a1.toInt < 0 := c1
        show Iv s0 ∧ Kp s0 s0 ∧ ((0 ≤ a1.toInt ∧ a1.toInt ≤ 75) → (Int32.ofInt 0) = vg_cc (s0.1 12 1).toNatClampNeg (s0.1 12 0).toNatClampNeg a1.toNatClampNeg)
        exact ⟨i0, Kx.rf, (fun hh => by first | (exfalso; omega) | exact vg_cc_at None.1 None (by omega) hh)⟩
      · have c1 : ¬ (a1.toInt < 0) := c1
        refine And.intro (fun c2 => ?_) (fun c2 => ?_)
        · have c2 : a1.toInt < (Int32.ofNat 76).toInt := c2
          refine And.intro (Nat.le_of_ble_eq_true rfl) (And.intro ⟨15, (Int32.ofInt 0), rfl, by decide, i0⟩ ?_)
          intro s4 h3
          have h3 : Iv s4 ∧ Kp s0 s4 ∧ (∀ j : Nat, j < 76 → s4.1 15 j = (Int32.ofInt 0)) := h3
          have i5 := h3.1
          have k6 : Kp s0 s4 := Kx.tr Kx.rf (h3.2.1)
          have q7 := h3.2.2
          refine And.intro ⟨by omega, by omega⟩ ?_
          intro s8 e9
          have i10 : Iv s8 := Iv.a1 i5 e9 rfl
          have k11 : Kp s0 s8 := Kx.u1 k6 e9 rfl
          exact ⟨rfl, ⟨(Int32.ofInt 0), rfl, (by omega), (by omega), (by omega), (by omega), (by first | exact ⟨vg_cc0 q7 e9, by have h9 := Iv_12_0 i0; omega⟩ | exact ⟨vg_cc1 None.1 q7 y1 (by omega) (by omega), by omega⟩), i10, k11⟩, trivial⟩
        · have c2 : ¬ (a1.toInt < (Int32.ofNat 76).toInt) := c2
          show Iv s0 ∧ Kp s0 s0 ∧ ((0 ≤ a1.toInt ∧ a1.toInt ≤ 75) → (Int32.ofInt 0) = vg_cc (s0.1 12 1).toNatClampNeg (s0.1 12 0).toNatClampNeg a1.toNatClampNeg)
          exact ⟨i0, Kx.rf, (fun hh => by first | (exfalso; omega) | exact vg_cc_at None.1 None (by omega) hh)⟩
    ·
      intro L s18 hL
      obtain ⟨w12, rfl, b13, b14, b15, b16, x17, i19, k20⟩ := hL
      have y0 := congrArg Int32.toInt (k20.1 12 0 rfl)
      have y1 := congrArg Int32.toNatClampNeg (k20.1 12 1 rfl)
      intro v21 e22
      have g23 : s18.1 12 0 = v21 := by rw [e22]
      have b24 : v21.toInt = (s18.1 12 0).toInt := congrArg Int32.toInt e22
      have b25 : (1 : Int) ≤ v21.toInt ∧ v21.toInt ≤ 5 := by rw [e22]; exact Iv_12_0 i19
      refine And.intro (fun c26 => ?_) (fun c26 => ?_)
      · have c26 : v21.toInt ≤ w12.toInt := c26
        refine And.intro ⟨by omega, by omega⟩ ?_
        intro v27 e28
        show Iv s18 ∧ Kp s0 s18 ∧ ((0 ≤ a1.toInt ∧ a1.toInt ≤ 75) → v27 = vg_cc (s0.1 12 1).toNatClampNeg (s0.1 12 0).toNatClampNeg a1.toNatClampNeg)
        exact ⟨i19, k20, (fun hh => by first | (exfalso; omega) | exact vg_cc_at x17.1 e28 (by omega) hh)⟩
      · have c26 : ¬ (v21.toInt ≤ w12.toInt) := c26
        refine And.intro (Nat.le_of_ble_eq_true rfl) (And.intro ⟨12, rfl, by decide, i19⟩ ?_)
        intro s30 h29
        have h29 : Iv s30 ∧ Kp s18 s30 ∧ (∀ j : Nat, j < 76 → s30.1 15 j = vg_ps (s18.1 15) j (s18.1 12 1).toNatClampNeg) := h29
        have i31 := h29.1
        have k32 : Kp s0 s30 := Kx.tr k20 (h29.2.1)
        have q33 := h29.2.2
        intro v34 e35
        have b36 := vg_add e35 (by omega) (by omega)
        exact ⟨rfl, ⟨v34, rfl, (by omega), (by omega), (by omega), (by omega), (by first | exact ⟨vg_cc0 q33 rfl, by have h9 := Iv_12_0 i0; omega⟩ | exact ⟨vg_cc1 x17.1 q33 y1 (by omega) (by omega), by omega⟩), i31, k32⟩, (by show (0 + (5 - v34.toInt) * 1000000000000).toNat < (0 + (5 - w12.toInt) * 1000000000000).toNat; omega)⟩
