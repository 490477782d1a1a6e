def o_J9_max_7cf53 : List vg_I := [(0, .iload_n 0, 1, 0, 0, 0, 0), (1, .iload_n 1, 1, 0, 0, 0, 0), (2, .if_icmp .lt 7, 3, 0, 0, 0, 0), (5, .iload_n 0, 1, 0, 0, 0, 0), (6, .goto 4, 3, 0, 0, 0, 0), (9, .iload_n 1, 1, 0, 0, 0, 0), (10, .ireturn, 1, 0, 0, 0, 0)]
set_option maxRecDepth 100000 in
set_option maxHeartbeats 4000000 in
theorem c_J9_max_7cf53 (l : Launch) (G : vg_G) (hp : vg_Hp G) : vg_Ct l G vg_sh r_J9_max_7cf53 := by
  refine vg_meth hp vg_sh_ok r_J9_max_7cf53 k_J9_max_7cf53 rfl (fun h => by cases h) o_J9_max_7cf53 [] false (by decide +kernel) (by decide +kernel) ⟨_, _, rfl, rfl⟩ (fun _ h => absurd h List.not_mem_nil) (fun h => by cases h) 600 ?_
  intro as s0 hpre
  obtain ⟨a1, a2, rfl, -⟩ := hpre
  refine ⟨Nat.le_of_ble_eq_true rfl, [], ?_, fun _ h => absurd h List.not_mem_nil⟩
  ·
    refine And.intro (fun c1 => ?_) (fun c1 => ?_)
    · have c1 : a1.toInt < a2.toInt := c1
      show s0 = s0 ∧ (a1.toInt ≤ a2.toInt ∧ a2.toInt ≤ a2.toInt ∧ (a2.toInt = a1.toInt ∨ a2.toInt = a2.toInt))
      exact ⟨rfl, (by first | trivial | omega | assumption)⟩
    · have c1 : ¬ (a1.toInt < a2.toInt) := c1
      show s0 = s0 ∧ (a1.toInt ≤ a1.toInt ∧ a2.toInt ≤ a1.toInt ∧ (a1.toInt = a1.toInt ∨ a1.toInt = a2.toInt))
      exact ⟨rfl, (by first | trivial | omega | assumption)⟩
def o_J9_min_7cf53 : List vg_I := [(0, .iload_n 0, 1, 0, 0, 0, 0), (1, .iload_n 1, 1, 0, 0, 0, 0), (2, .if_icmp .gt 7, 3, 0, 0, 0, 0), (5, .iload_n 0, 1, 0, 0, 0, 0), (6, .goto 4, 3, 0, 0, 0, 0), (9, .iload_n 1, 1, 0, 0, 0, 0), (10, .ireturn, 1, 0, 0, 0, 0)]
set_option maxRecDepth 100000 in
set_option maxHeartbeats 4000000 in
theorem c_J9_min_7cf53 (l : Launch) (G : vg_G) (hp : vg_Hp G) : vg_Ct l G vg_sh r_J9_min_7cf53 := by
  refine vg_meth hp vg_sh_ok r_J9_min_7cf53 k_J9_min_7cf53 rfl (fun h => by cases h) o_J9_min_7cf53 [] false (by decide +kernel) (by decide +kernel) ⟨_, _, rfl, rfl⟩ (fun _ h => absurd h List.not_mem_nil) (fun h => by cases h) 600 ?_
  intro as s0 hpre
  obtain ⟨a1, a2, rfl, -⟩ := hpre
  refine ⟨Nat.le_of_ble_eq_true rfl, [], ?_, fun _ h => absurd h List.not_mem_nil⟩
  ·
    refine And.intro (fun c1 => ?_) (fun c1 => ?_)
    · have c1 : a2.toInt < a1.toInt := c1
      show s0 = s0 ∧ (a2.toInt ≤ a1.toInt ∧ a2.toInt ≤ a2.toInt ∧ (a2.toInt = a1.toInt ∨ a2.toInt = a2.toInt))
      exact ⟨rfl, (by first | trivial | omega | assumption)⟩
    · have c1 : ¬ (a2.toInt < a1.toInt) := c1
      show s0 = s0 ∧ (a1.toInt ≤ a1.toInt ∧ a1.toInt ≤ a2.toInt ∧ (a1.toInt = a1.toInt ∨ a1.toInt = a2.toInt))
      exact ⟨rfl, (by first | trivial | omega | assumption)⟩
def o_J9_abs_0f7a4 : List vg_I := [(0, .iload_n 0, 1, 0, 0, 0, 0), (1, .ifCond .ge 8, 3, 0, 0, 0, 0), (4, .iload_n 0, 1, 0, 0, 0, 0), (5, .ineg, 1, 0, 0, 0, 0), (6, .goto 4, 3, 0, 0, 0, 0), (9, .iload_n 0, 1, 0, 0, 0, 0), (10, .ireturn, 1, 0, 0, 0, 0)]
set_option maxRecDepth 100000 in
set_option maxHeartbeats 4000000 in
theorem c_J9_abs_0f7a4 (l : Launch) (G : vg_G) (hp : vg_Hp G) : vg_Ct l G vg_sh r_J9_abs_0f7a4 := by
  refine vg_meth hp vg_sh_ok r_J9_abs_0f7a4 k_J9_abs_0f7a4 rfl (fun h => by cases h) o_J9_abs_0f7a4 [] false (by decide +kernel) (by decide +kernel) ⟨_, _, rfl, rfl⟩ (fun _ h => absurd h List.not_mem_nil) (fun h => by cases h) 600 ?_
  intro as s0 hpre
  obtain ⟨a1, rfl, -⟩ := hpre
  refine ⟨Nat.le_of_ble_eq_true rfl, [], ?_, fun _ h => absurd h List.not_mem_nil⟩
  ·
    refine And.intro (fun c1 => ?_) (fun c1 => ?_)
    · have c1 : 0 ≤ a1.toInt := c1
      show s0 = s0 ∧ (True)
      exact ⟨rfl, (trivial)⟩
    · have c1 : ¬ (0 ≤ a1.toInt) := c1
      intro v2 e3
      show s0 = s0 ∧ (True)
      exact ⟨rfl, (trivial)⟩
def o_J9_abs_067f4 : List vg_I := [(0, .lload_n 0, 1, 0, 0, 0, 0), (1, .lconst 0, 1, 0, 0, 0, 0), (2, .lcmp, 1, 0, 0, 0, 0), (3, .ifCond .ge 8, 3, 0, 0, 0, 0), (6, .lload_n 0, 1, 0, 0, 0, 0), (7, .lneg, 1, 0, 0, 0, 0), (8, .goto 4, 3, 0, 0, 0, 0), (11, .lload_n 0, 1, 0, 0, 0, 0), (12, .lreturn, 1, 0, 0, 0, 0)]
set_option maxRecDepth 100000 in
set_option maxHeartbeats 4000000 in
theorem c_J9_abs_067f4 (l : Launch) (G : vg_G) (hp : vg_Hp G) : vg_Ct l G vg_sh r_J9_abs_067f4 := by
  refine vg_meth hp vg_sh_ok r_J9_abs_067f4 k_J9_abs_067f4 rfl (fun h => by cases h) o_J9_abs_067f4 [] false (by decide +kernel) (by decide +kernel) ⟨_, _, rfl, rfl⟩ (fun _ h => absurd h List.not_mem_nil) (fun h => by cases h) 600 ?_
  intro as s0 hpre
  obtain ⟨a1, rfl, -⟩ := hpre
  refine ⟨Nat.le_of_ble_eq_true rfl, [], ?_, fun _ h => absurd h List.not_mem_nil⟩
  ·
    intro v1 e2
    refine And.intro (fun c3 => ?_) (fun c3 => ?_)
    · have c3 : 0 ≤ v1.toInt := c3
      show s0 = s0 ∧ (True)
      exact ⟨rfl, (trivial)⟩
    · have c3 : ¬ (0 ≤ v1.toInt) := c3
      intro v4 e5
      show s0 = s0 ∧ (True)
      exact ⟨rfl, (trivial)⟩
def o_J9_max_f86c9 : List vg_I := [(0, .lload_n 0, 1, 0, 0, 0, 0), (1, .lload_n 2, 1, 0, 0, 0, 0), (2, .lcmp, 1, 0, 0, 0, 0), (3, .ifCond .lt 7, 3, 0, 0, 0, 0), (6, .lload_n 0, 1, 0, 0, 0, 0), (7, .goto 4, 3, 0, 0, 0, 0), (10, .lload_n 2, 1, 0, 0, 0, 0), (11, .lreturn, 1, 0, 0, 0, 0)]
set_option maxRecDepth 100000 in
set_option maxHeartbeats 4000000 in
theorem c_J9_max_f86c9 (l : Launch) (G : vg_G) (hp : vg_Hp G) : vg_Ct l G vg_sh r_J9_max_f86c9 := by
  refine vg_meth hp vg_sh_ok r_J9_max_f86c9 k_J9_max_f86c9 rfl (fun h => by cases h) o_J9_max_f86c9 [] false (by decide +kernel) (by decide +kernel) ⟨_, _, rfl, rfl⟩ (fun _ h => absurd h List.not_mem_nil) (fun h => by cases h) 600 ?_
  intro as s0 hpre
  obtain ⟨a1, a2, rfl, -⟩ := hpre
  refine ⟨Nat.le_of_ble_eq_true rfl, [], ?_, fun _ h => absurd h List.not_mem_nil⟩
  ·
    intro v1 e2
    refine And.intro (fun c3 => ?_) (fun c3 => ?_)
    · have c3 : v1.toInt < 0 := c3
      show s0 = s0 ∧ (True)
      exact ⟨rfl, (trivial)⟩
    · have c3 : ¬ (v1.toInt < 0) := c3
      show s0 = s0 ∧ (True)
      exact ⟨rfl, (trivial)⟩
def o_J9_min_f86c9 : List vg_I := [(0, .lload_n 0, 1, 0, 0, 0, 0), (1, .lload_n 2, 1, 0, 0, 0, 0), (2, .lcmp, 1, 0, 0, 0, 0), (3, .ifCond .gt 7, 3, 0, 0, 0, 0), (6, .lload_n 0, 1, 0, 0, 0, 0), (7, .goto 4, 3, 0, 0, 0, 0), (10, .lload_n 2, 1, 0, 0, 0, 0), (11, .lreturn, 1, 0, 0, 0, 0)]
set_option maxRecDepth 100000 in
set_option maxHeartbeats 4000000 in
theorem c_J9_min_f86c9 (l : Launch) (G : vg_G) (hp : vg_Hp G) : vg_Ct l G vg_sh r_J9_min_f86c9 := by
  refine vg_meth hp vg_sh_ok r_J9_min_f86c9 k_J9_min_f86c9 rfl (fun h => by cases h) o_J9_min_f86c9 [] false (by decide +kernel) (by decide +kernel) ⟨_, _, rfl, rfl⟩ (fun _ h => absurd h List.not_mem_nil) (fun h => by cases h) 600 ?_
  intro as s0 hpre
  obtain ⟨a1, a2, rfl, -⟩ := hpre
  refine ⟨Nat.le_of_ble_eq_true rfl, [], ?_, fun _ h => absurd h List.not_mem_nil⟩
  ·
    intro v1 e2
    refine And.intro (fun c3 => ?_) (fun c3 => ?_)
    · have c3 : 0 < v1.toInt := c3
      show s0 = s0 ∧ (True)
      exact ⟨rfl, (trivial)⟩
    · have c3 : ¬ (0 < v1.toInt) := c3
      show s0 = s0 ∧ (True)
      exact ⟨rfl, (trivial)⟩
def o_J6_bitCount_0f7a4 : List vg_I := [(0, .iload_n 0, 1, 0, 0, 0, 0), (1, .iload_n 0, 1, 0, 0, 0, 0), (2, .iconst 1, 1, 0, 0, 0, 0), (3, .iushr, 1, 0, 0, 0, 0), (4, .ldc_w 265, 3, 996, 0, 0, 1431655765), (7, .iand, 1, 0, 0, 0, 0), (8, .isub, 1, 0, 0, 0, 0), (9, .istore_n 0, 1, 0, 0, 0, 0), (10, .iload_n 0, 1, 0, 0, 0, 0), (11, .ldc_w 266, 3, 997, 0, 0, 858993459), (14, .iand, 1, 0, 0, 0, 0), (15, .iload_n 0, 1, 0, 0, 0, 0), (16, .iconst 2, 1, 0, 0, 0, 0), (17, .iushr, 1, 0, 0, 0, 0), (18, .ldc_w 266, 3, 997, 0, 0, 858993459), (21, .iand, 1, 0, 0, 0, 0), (22, .iadd, 1, 0, 0, 0, 0), (23, .istore_n 0, 1, 0, 0, 0, 0), (24, .iload_n 0, 1, 0, 0, 0, 0), (25, .iload_n 0, 1, 0, 0, 0, 0), (26, .iconst 4, 1, 0, 0, 0, 0), (27, .iushr, 1, 0, 0, 0, 0), (28, .iadd, 1, 0, 0, 0, 0), (29, .ldc_w 267, 3, 998, 0, 0, 252645135), (32, .iand, 1, 0, 0, 0, 0), (33, .istore_n 0, 1, 0, 0, 0, 0), (34, .iload_n 0, 1, 0, 0, 0, 0), (35, .iload_n 0, 1, 0, 0, 0, 0), (36, .bipush 8, 2, 0, 0, 0, 0), (38, .iushr, 1, 0, 0, 0, 0), (39, .iadd, 1, 0, 0, 0, 0), (40, .istore_n 0, 1, 0, 0, 0, 0), (41, .iload_n 0, 1, 0, 0, 0, 0), (42, .iload_n 0, 1, 0, 0, 0, 0), (43, .bipush 16, 2, 0, 0, 0, 0), (45, .iushr, 1, 0, 0, 0, 0), (46, .iadd, 1, 0, 0, 0, 0), (47, .istore_n 0, 1, 0, 0, 0, 0), (48, .iload_n 0, 1, 0, 0, 0, 0), (49, .bipush 63, 2, 0, 0, 0, 0), (51, .iand, 1, 0, 0, 0, 0), (52, .ireturn, 1, 0, 0, 0, 0)]
set_option maxRecDepth 100000 in
set_option maxHeartbeats 4000000 in
theorem c_J6_bitCount_0f7a4 (l : Launch) (G : vg_G) (hp : vg_Hp G) : vg_Ct l G vg_sh r_J6_bitCount_0f7a4 := by
  refine vg_meth hp vg_sh_ok r_J6_bitCount_0f7a4 k_J6_bitCount_0f7a4 rfl (fun h => by cases h) o_J6_bitCount_0f7a4 [] false (by decide +kernel) (by decide +kernel) ⟨_, _, rfl, rfl⟩ (fun _ h => absurd h List.not_mem_nil) (fun h => by cases h) 600 ?_
  intro as s0 hpre
  obtain ⟨a1, rfl, -⟩ := hpre
  have z1 : (Int32.ofInt 1).toInt = 1 := by decide
  have z2 : (Int32.ofInt 2).toInt = 2 := by decide
  have z4 : (Int32.ofInt 4).toInt = 4 := by decide
  have z8 : (Int32.ofInt 8).toInt = 8 := by decide
  have z16 : (Int32.ofInt 16).toInt = 16 := by decide
  have z63 : (Int32.ofInt 63).toInt = 63 := by decide
  have z252645135 : (Int32.ofInt 252645135).toInt = 252645135 := by decide
  have z858993459 : (Int32.ofInt 858993459).toInt = 858993459 := by decide
  have z1431655765 : (Int32.ofInt 1431655765).toInt = 1431655765 := by decide
  refine ⟨Nat.le_of_ble_eq_true rfl, [], ?_, fun _ h => absurd h List.not_mem_nil⟩
  ·
    intro v1 e2
    intro v3 e4
    have b5 := vg_and e4 (by omega)
    intro v6 e7
    intro v8 e9
    have b10 := vg_and e9 (by omega)
    intro v11 e12
    intro v13 e14
    have b15 := vg_and e14 (by omega)
    intro v16 e17
    have b18 := vg_add e17 (by omega) (by omega)
    intro v19 e20
    intro v21 e22
    intro v23 e24
    have b25 := vg_and e24 (by omega)
    intro v26 e27
    intro v28 e29
    intro v30 e31
    intro v32 e33
    intro v34 e35
    have b36 := vg_and e35 (by omega)
    show s0 = s0 ∧ (True)
    exact ⟨rfl, (trivial)⟩
def o_J9_floorDiv_7cf53 : List vg_I := [(0, .iload_n 0, 1, 0, 0, 0, 0), (1, .iload_n 1, 1, 0, 0, 0, 0), (2, .idiv, 1, 0, 0, 0, 0), (3, .istore_n 2, 1, 0, 0, 0, 0), (4, .iload_n 0, 1, 0, 0, 0, 0), (5, .iload_n 1, 1, 0, 0, 0, 0), (6, .ixor, 1, 0, 0, 0, 0), (7, .ifCond .ge 14, 3, 0, 0, 0, 0), (10, .iload_n 2, 1, 0, 0, 0, 0), (11, .iload_n 1, 1, 0, 0, 0, 0), (12, .imul, 1, 0, 0, 0, 0), (13, .iload_n 0, 1, 0, 0, 0, 0), (14, .if_icmp .eq 7, 3, 0, 0, 0, 0), (17, .iload_n 2, 1, 0, 0, 0, 0), (18, .iconst 1, 1, 0, 0, 0, 0), (19, .isub, 1, 0, 0, 0, 0), (20, .ireturn, 1, 0, 0, 0, 0), (21, .iload_n 2, 1, 0, 0, 0, 0), (22, .ireturn, 1, 0, 0, 0, 0)]
set_option maxRecDepth 100000 in
set_option maxHeartbeats 4000000 in
theorem c_J9_floorDiv_7cf53 (l : Launch) (G : vg_G) (hp : vg_Hp G) : vg_Ct l G vg_sh r_J9_floorDiv_7cf53 := by
  refine vg_meth hp vg_sh_ok r_J9_floorDiv_7cf53 k_J9_floorDiv_7cf53 rfl (fun h => by cases h) o_J9_floorDiv_7cf53 [] false (by decide +kernel) (by decide +kernel) ⟨_, _, rfl, rfl⟩ (fun _ h => absurd h List.not_mem_nil) (fun h => by cases h) 600 ?_
  intro as s0 hpre
  obtain ⟨a1, a2, rfl, p0⟩ := hpre
  have z1 : (Int32.ofInt 1).toInt = 1 := by decide
  refine ⟨Nat.le_of_ble_eq_true rfl, [], ?_, fun _ h => absurd h List.not_mem_nil⟩
  ·
    refine And.intro (by omega) ?_
    intro v1 e2
    intro v3 e4
    refine And.intro (fun c5 => ?_) (fun c5 => ?_)
    · have c5 : 0 ≤ v3.toInt := c5
      show s0 = s0 ∧ (True)
      exact ⟨rfl, (trivial)⟩
    · have c5 : ¬ (0 ≤ v3.toInt) := c5
      intro v6 e7
      refine And.intro (fun c8 => ?_) (fun c8 => ?_)
      · have c8 : v6.toInt = a1.toInt := c8
        show s0 = s0 ∧ (True)
        exact ⟨rfl, (trivial)⟩
      · have c8 : ¬ (v6.toInt = a1.toInt) := c8
        intro v9 e10
        show s0 = s0 ∧ (True)
        exact ⟨rfl, (trivial)⟩
def o_J9_floorMod_7cf53 : List vg_I := [(0, .iload_n 0, 1, 0, 0, 0, 0), (1, .iload_n 1, 1, 0, 0, 0, 0), (2, .irem, 1, 0, 0, 0, 0), (3, .istore_n 2, 1, 0, 0, 0, 0), (4, .iload_n 0, 1, 0, 0, 0, 0), (5, .iload_n 1, 1, 0, 0, 0, 0), (6, .ixor, 1, 0, 0, 0, 0), (7, .ifCond .ge 11, 3, 0, 0, 0, 0), (10, .iload_n 2, 1, 0, 0, 0, 0), (11, .ifCond .eq 7, 3, 0, 0, 0, 0), (14, .iload_n 2, 1, 0, 0, 0, 0), (15, .iload_n 1, 1, 0, 0, 0, 0), (16, .iadd, 1, 0, 0, 0, 0), (17, .ireturn, 1, 0, 0, 0, 0), (18, .iload_n 2, 1, 0, 0, 0, 0), (19, .ireturn, 1, 0, 0, 0, 0)]
set_option maxRecDepth 100000 in
set_option maxHeartbeats 4000000 in
theorem c_J9_floorMod_7cf53 (l : Launch) (G : vg_G) (hp : vg_Hp G) : vg_Ct l G vg_sh r_J9_floorMod_7cf53 := by
  refine vg_meth hp vg_sh_ok r_J9_floorMod_7cf53 k_J9_floorMod_7cf53 rfl (fun h => by cases h) o_J9_floorMod_7cf53 [] false (by decide +kernel) (by decide +kernel) ⟨_, _, rfl, rfl⟩ (fun _ h => absurd h List.not_mem_nil) (fun h => by cases h) 600 ?_
  intro as s0 hpre
  obtain ⟨a1, a2, rfl, p0⟩ := hpre
  have ra2 := vg_rng a2
  refine ⟨Nat.le_of_ble_eq_true rfl, [], ?_, fun _ h => absurd h List.not_mem_nil⟩
  ·
    refine And.intro (by omega) ?_
    intro v1 e2
    have b3 := vg_remx e2 (by omega)
    intro v4 e5
    have b6 := vg_xor_sign e5 (by omega)
    refine And.intro (fun c7 => ?_) (fun c7 => ?_)
    · have c7 : 0 ≤ v4.toInt := c7
      show s0 = s0 ∧ (0 ≤ v1.toInt ∧ v1.toInt < a2.toInt)
      exact ⟨rfl, (by first | trivial | omega | assumption)⟩
    · have c7 : ¬ (0 ≤ v4.toInt) := c7
      refine And.intro (fun c8 => ?_) (fun c8 => ?_)
      · have c8 : v1.toInt = 0 := c8
        show s0 = s0 ∧ (0 ≤ v1.toInt ∧ v1.toInt < a2.toInt)
        exact ⟨rfl, (by first | trivial | omega | assumption)⟩
      · have c8 : ¬ (v1.toInt = 0) := c8
        intro v9 e10
        have b11 := vg_add e10 (by omega) (by omega)
        show s0 = s0 ∧ (0 ≤ v9.toInt ∧ v9.toInt < a2.toInt)
        exact ⟨rfl, (by first | trivial | omega | assumption)⟩
def o_J7_fill_53178 : List vg_I := [(0, .iconst 0, 1, 0, 0, 0, 0), (1, .istore_n 2, 1, 0, 0, 0, 0), (2, .aload_n 0, 1, 0, 0, 0, 0), (3, .arraylength, 1, 0, 0, 0, 0), (4, .istore_n 3, 1, 0, 0, 0, 0), (5, .iload_n 2, 1, 0, 0, 0, 0), (6, .iload_n 3, 1, 0, 0, 0, 0), (7, .if_icmp .ge 13, 3, 0, 0, 0, 0), (10, .aload_n 0, 1, 0, 0, 0, 0), (11, .iload_n 2, 1, 0, 0, 0, 0), (12, .iload_n 1, 1, 0, 0, 0, 0), (13, .iastore, 1, 0, 0, 0, 0), (14, .iinc 2 1, 3, 0, 0, 0, 0), (17, .goto (-12), 3, 0, 0, 0, 0), (20, .return_, 1, 0, 0, 0, 0)]
set_option maxRecDepth 100000 in
set_option maxHeartbeats 4000000 in
theorem c_J7_fill_53178 (l : Launch) (G : vg_G) (hp : vg_Hp G) : vg_Ct l G vg_sh r_J7_fill_53178 := by
  refine vg_meth hp vg_sh_ok r_J7_fill_53178 k_J7_fill_53178 rfl (fun h => by cases h) o_J7_fill_53178 [] false (by decide +kernel) (by decide +kernel) ⟨_, _, rfl, rfl⟩ (fun _ h => absurd h List.not_mem_nil) (fun h => by cases h) 600 ?_
  intro as s0 hpre
  obtain ⟨a1, a2, rfl, ha1, i0⟩ := hpre
  simp only [List.mem_cons, List.not_mem_nil, or_false] at ha1
  rcases ha1 with rfl | rfl | rfl | rfl | rfl | rfl | rfl | rfl | rfl | rfl | rfl | rfl | rfl | rfl
  ·
    have z0 : (Int32.ofInt 0).toInt = 0 := by decide
    have z1 : (Int32.ofInt 1).toInt = 1 := by decide
    have n76 : (Int32.ofNat 76).toInt = 76 := by decide
    refine ⟨Nat.le_of_ble_eq_true rfl, [(5, [true, true, true, true], (fun L t => ∃ (x2 : Int32) (x3 : Int32), L = [some (.ref 15), some (.int a2), some (.int x2), some (.int x3)] ∧ (0 : Int) ≤ x2.toInt ∧ x2.toInt ≤ (76 : Int) ∧ (76 : Int) ≤ x3.toInt ∧ x3.toInt ≤ (76 : Int) ∧ Iv t ∧ Kp s0 t), (fun L _ => (0 + (76 - (vg_li L 2).toInt) * 1000000000000).toNat))], ?_, List.forall_mem_cons.mpr ⟨?_, fun _ h => absurd h List.not_mem_nil⟩⟩
    ·
      exact ⟨rfl, ⟨(Int32.ofInt 0), (Int32.ofNat 76), rfl, (by omega), (by omega), (by omega), (by omega), i0, Kx.rf⟩, trivial⟩
    ·
      intro L s7 hL
      obtain ⟨w1, w4, rfl, b2, b3, b5, b6, i8, k9⟩ := hL
      refine And.intro (fun c10 => ?_) (fun c10 => ?_)
      · have c10 : w4.toInt ≤ w1.toInt := c10
        show Iv s7 ∧ Kp s0 s7 ∧ (True)
        exact ⟨i8, k9, (trivial)⟩
      · have c10 : ¬ (w4.toInt ≤ w1.toInt) := c10
        refine And.intro ⟨by omega, by omega⟩ ?_
        intro s11 e12
        have i13 : Iv s11 := Iv.a1 i8 e12 rfl
        have k14 : Kp s0 s11 := Kx.u1 k9 e12 rfl
        intro v15 e16
        have b17 := vg_add e16 (by omega) (by omega)
        exact ⟨rfl, ⟨v15, w4, rfl, (by omega), (by omega), (by omega), (by omega), i13, k14⟩, (by show (0 + (76 - v15.toInt) * 1000000000000).toNat < (0 + (76 - w1.toInt) * 1000000000000).toNat; omega)⟩
  ·
    have z0 : (Int32.ofInt 0).toInt = 0 := by decide
    have z1 : (Int32.ofInt 1).toInt = 1 := by decide
    have n16 : (Int32.ofNat 16).toInt = 16 := by decide
    refine ⟨Nat.le_of_ble_eq_true rfl, [(5, [true, true, true, true], (fun L t => ∃ (x2 : Int32) (x3 : Int32), L = [some (.ref 9), some (.int a2), some (.int x2), some (.int x3)] ∧ (0 : Int) ≤ x2.toInt ∧ x2.toInt ≤ (16 : Int) ∧ (16 : Int) ≤ x3.toInt ∧ x3.toInt ≤ (16 : Int) ∧ Iv t ∧ Kp s0 t), (fun L _ => (0 + (16 - (vg_li L 2).toInt) * 1000000000000).toNat))], ?_, List.forall_mem_cons.mpr ⟨?_, fun _ h => absurd h List.not_mem_nil⟩⟩
    ·
      exact ⟨rfl, ⟨(Int32.ofInt 0), (Int32.ofNat 16), rfl, (by omega), (by omega), (by omega), (by omega), i0, Kx.rf⟩, trivial⟩
    ·
      intro L s7 hL
      obtain ⟨w1, w4, rfl, b2, b3, b5, b6, i8, k9⟩ := hL
      refine And.intro (fun c10 => ?_) (fun c10 => ?_)
      · have c10 : w4.toInt ≤ w1.toInt := c10
        show Iv s7 ∧ Kp s0 s7 ∧ (True)
        exact ⟨i8, k9, (trivial)⟩
      · have c10 : ¬ (w4.toInt ≤ w1.toInt) := c10
        refine And.intro ⟨by omega, by omega⟩ ?_
        intro s11 e12
        have i13 : Iv s11 := Iv.a1 i8 e12 rfl
        have k14 : Kp s0 s11 := Kx.u1 k9 e12 rfl
        intro v15 e16
        have b17 := vg_add e16 (by omega) (by omega)
        exact ⟨rfl, ⟨v15, w4, rfl, (by omega), (by omega), (by omega), (by omega), i13, k14⟩, (by show (0 + (16 - v15.toInt) * 1000000000000).toNat < (0 + (16 - w1.toInt) * 1000000000000).toNat; omega)⟩
  ·
    have z0 : (Int32.ofInt 0).toInt = 0 := by decide
    have z1 : (Int32.ofInt 1).toInt = 1 := by decide
    have n16 : (Int32.ofNat 16).toInt = 16 := by decide
    refine ⟨Nat.le_of_ble_eq_true rfl, [(5, [true, true, true, true], (fun L t => ∃ (x2 : Int32) (x3 : Int32), L = [some (.ref 10), some (.int a2), some (.int x2), some (.int x3)] ∧ (0 : Int) ≤ x2.toInt ∧ x2.toInt ≤ (16 : Int) ∧ (16 : Int) ≤ x3.toInt ∧ x3.toInt ≤ (16 : Int) ∧ Iv t ∧ Kp s0 t), (fun L _ => (0 + (16 - (vg_li L 2).toInt) * 1000000000000).toNat))], ?_, List.forall_mem_cons.mpr ⟨?_, fun _ h => absurd h List.not_mem_nil⟩⟩
    ·
      exact ⟨rfl, ⟨(Int32.ofInt 0), (Int32.ofNat 16), rfl, (by omega), (by omega), (by omega), (by omega), i0, Kx.rf⟩, trivial⟩
    ·
      intro L s7 hL
      obtain ⟨w1, w4, rfl, b2, b3, b5, b6, i8, k9⟩ := hL
      refine And.intro (fun c10 => ?_) (fun c10 => ?_)
      · have c10 : w4.toInt ≤ w1.toInt := c10
        show Iv s7 ∧ Kp s0 s7 ∧ (True)
        exact ⟨i8, k9, (trivial)⟩
      · have c10 : ¬ (w4.toInt ≤ w1.toInt) := c10
        refine And.intro ⟨by omega, by omega⟩ ?_
        intro s11 e12
        have i13 : Iv s11 := Iv.a1 i8 e12 rfl
        have k14 : Kp s0 s11 := Kx.u1 k9 e12 rfl
        intro v15 e16
        have b17 := vg_add e16 (by omega) (by omega)
        exact ⟨rfl, ⟨v15, w4, rfl, (by omega), (by omega), (by omega), (by omega), i13, k14⟩, (by show (0 + (16 - v15.toInt) * 1000000000000).toNat < (0 + (16 - w1.toInt) * 1000000000000).toNat; omega)⟩
  ·
    have z0 : (Int32.ofInt 0).toInt = 0 := by decide
    have z1 : (Int32.ofInt 1).toInt = 1 := by decide
    have n16 : (Int32.ofNat 16).toInt = 16 := by decide
    refine ⟨Nat.le_of_ble_eq_true rfl, [(5, [true, true, true, true], (fun L t => ∃ (x2 : Int32) (x3 : Int32), L = [some (.ref 11), some (.int a2), some (.int x2), some (.int x3)] ∧ (0 : Int) ≤ x2.toInt ∧ x2.toInt ≤ (16 : Int) ∧ (16 : Int) ≤ x3.toInt ∧ x3.toInt ≤ (16 : Int) ∧ Iv t ∧ Kp s0 t), (fun L _ => (0 + (16 - (vg_li L 2).toInt) * 1000000000000).toNat))], ?_, List.forall_mem_cons.mpr ⟨?_, fun _ h => absurd h List.not_mem_nil⟩⟩
    ·
      exact ⟨rfl, ⟨(Int32.ofInt 0), (Int32.ofNat 16), rfl, (by omega), (by omega), (by omega), (by omega), i0, Kx.rf⟩, trivial⟩
    ·
      intro L s7 hL
      obtain ⟨w1, w4, rfl, b2, b3, b5, b6, i8, k9⟩ := hL
      refine And.intro (fun c10 => ?_) (fun c10 => ?_)
      · have c10 : w4.toInt ≤ w1.toInt := c10
        show Iv s7 ∧ Kp s0 s7 ∧ (True)
        exact ⟨i8, k9, (trivial)⟩
      · have c10 : ¬ (w4.toInt ≤ w1.toInt) := c10
        refine And.intro ⟨by omega, by omega⟩ ?_
        intro s11 e12
        have i13 : Iv s11 := Iv.a1 i8 e12 rfl
        have k14 : Kp s0 s11 := Kx.u1 k9 e12 rfl
        intro v15 e16
        have b17 := vg_add e16 (by omega) (by omega)
        exact ⟨rfl, ⟨v15, w4, rfl, (by omega), (by omega), (by omega), (by omega), i13, k14⟩, (by show (0 + (16 - v15.toInt) * 1000000000000).toNat < (0 + (16 - w1.toInt) * 1000000000000).toNat; omega)⟩
  ·
    have z0 : (Int32.ofInt 0).toInt = 0 := by decide
    have z1 : (Int32.ofInt 1).toInt = 1 := by decide
    have n16 : (Int32.ofNat 16).toInt = 16 := by decide
    refine ⟨Nat.le_of_ble_eq_true rfl, [(5, [true, true, true, true], (fun L t => ∃ (x2 : Int32) (x3 : Int32), L = [some (.ref 28), some (.int a2), some (.int x2), some (.int x3)] ∧ (0 : Int) ≤ x2.toInt ∧ x2.toInt ≤ (16 : Int) ∧ (16 : Int) ≤ x3.toInt ∧ x3.toInt ≤ (16 : Int) ∧ Iv t ∧ Kp s0 t), (fun L _ => (0 + (16 - (vg_li L 2).toInt) * 1000000000000).toNat))], ?_, List.forall_mem_cons.mpr ⟨?_, fun _ h => absurd h List.not_mem_nil⟩⟩
    ·
      exact ⟨rfl, ⟨(Int32.ofInt 0), (Int32.ofNat 16), rfl, (by omega), (by omega), (by omega), (by omega), i0, Kx.rf⟩, trivial⟩
    ·
      intro L s7 hL
      obtain ⟨w1, w4, rfl, b2, b3, b5, b6, i8, k9⟩ := hL
      refine And.intro (fun c10 => ?_) (fun c10 => ?_)
      · have c10 : w4.toInt ≤ w1.toInt := c10
        show Iv s7 ∧ Kp s0 s7 ∧ (True)
        exact ⟨i8, k9, (trivial)⟩
      · have c10 : ¬ (w4.toInt ≤ w1.toInt) := c10
        refine And.intro ⟨by omega, by omega⟩ ?_
        intro s11 e12
        have i13 : Iv s11 := Iv.a1 i8 e12 rfl
        have k14 : Kp s0 s11 := Kx.u1 k9 e12 rfl
        intro v15 e16
        have b17 := vg_add e16 (by omega) (by omega)
        exact ⟨rfl, ⟨v15, w4, rfl, (by omega), (by omega), (by omega), (by omega), i13, k14⟩, (by show (0 + (16 - v15.toInt) * 1000000000000).toNat < (0 + (16 - w1.toInt) * 1000000000000).toNat; omega)⟩
  ·
    have z0 : (Int32.ofInt 0).toInt = 0 := by decide
    have z1 : (Int32.ofInt 1).toInt = 1 := by decide
    have n16 : (Int32.ofNat 16).toInt = 16 := by decide
    refine ⟨Nat.le_of_ble_eq_true rfl, [(5, [true, true, true, true], (fun L t => ∃ (x2 : Int32) (x3 : Int32), L = [some (.ref 29), some (.int a2), some (.int x2), some (.int x3)] ∧ (0 : Int) ≤ x2.toInt ∧ x2.toInt ≤ (16 : Int) ∧ (16 : Int) ≤ x3.toInt ∧ x3.toInt ≤ (16 : Int) ∧ Iv t ∧ Kp s0 t), (fun L _ => (0 + (16 - (vg_li L 2).toInt) * 1000000000000).toNat))], ?_, List.forall_mem_cons.mpr ⟨?_, fun _ h => absurd h List.not_mem_nil⟩⟩
    ·
      exact ⟨rfl, ⟨(Int32.ofInt 0), (Int32.ofNat 16), rfl, (by omega), (by omega), (by omega), (by omega), i0, Kx.rf⟩, trivial⟩
    ·
      intro L s7 hL
      obtain ⟨w1, w4, rfl, b2, b3, b5, b6, i8, k9⟩ := hL
      refine And.intro (fun c10 => ?_) (fun c10 => ?_)
      · have c10 : w4.toInt ≤ w1.toInt := c10
        show Iv s7 ∧ Kp s0 s7 ∧ (True)
        exact ⟨i8, k9, (trivial)⟩
      · have c10 : ¬ (w4.toInt ≤ w1.toInt) := c10
        refine And.intro ⟨by omega, by omega⟩ ?_
        intro s11 e12
        have i13 : Iv s11 := Iv.a1 i8 e12 rfl
        have k14 : Kp s0 s11 := Kx.u1 k9 e12 rfl
        intro v15 e16
        have b17 := vg_add e16 (by omega) (by omega)
        exact ⟨rfl, ⟨v15, w4, rfl, (by omega), (by omega), (by omega), (by omega), i13, k14⟩, (by show (0 + (16 - v15.toInt) * 1000000000000).toNat < (0 + (16 - w1.toInt) * 1000000000000).toNat; omega)⟩
  ·
    have z0 : (Int32.ofInt 0).toInt = 0 := by decide
    have z1 : (Int32.ofInt 1).toInt = 1 := by decide
    have n16 : (Int32.ofNat 16).toInt = 16 := by decide
    refine ⟨Nat.le_of_ble_eq_true rfl, [(5, [true, true, true, true], (fun L t => ∃ (x2 : Int32) (x3 : Int32), L = [some (.ref 30), some (.int a2), some (.int x2), some (.int x3)] ∧ (0 : Int) ≤ x2.toInt ∧ x2.toInt ≤ (16 : Int) ∧ (16 : Int) ≤ x3.toInt ∧ x3.toInt ≤ (16 : Int) ∧ Iv t ∧ Kp s0 t), (fun L _ => (0 + (16 - (vg_li L 2).toInt) * 1000000000000).toNat))], ?_, List.forall_mem_cons.mpr ⟨?_, fun _ h => absurd h List.not_mem_nil⟩⟩
    ·
      exact ⟨rfl, ⟨(Int32.ofInt 0), (Int32.ofNat 16), rfl, (by omega), (by omega), (by omega), (by omega), i0, Kx.rf⟩, trivial⟩
    ·
      intro L s7 hL
      obtain ⟨w1, w4, rfl, b2, b3, b5, b6, i8, k9⟩ := hL
      refine And.intro (fun c10 => ?_) (fun c10 => ?_)
      · have c10 : w4.toInt ≤ w1.toInt := c10
        show Iv s7 ∧ Kp s0 s7 ∧ (True)
        exact ⟨i8, k9, (trivial)⟩
      · have c10 : ¬ (w4.toInt ≤ w1.toInt) := c10
        refine And.intro ⟨by omega, by omega⟩ ?_
        intro s11 e12
        have i13 : Iv s11 := Iv.a1 i8 e12 rfl
        have k14 : Kp s0 s11 := Kx.u1 k9 e12 rfl
        intro v15 e16
        have b17 := vg_add e16 (by omega) (by omega)
        exact ⟨rfl, ⟨v15, w4, rfl, (by omega), (by omega), (by omega), (by omega), i13, k14⟩, (by show (0 + (16 - v15.toInt) * 1000000000000).toNat < (0 + (16 - w1.toInt) * 1000000000000).toNat; omega)⟩
  ·
    have z0 : (Int32.ofInt 0).toInt = 0 := by decide
    have z1 : (Int32.ofInt 1).toInt = 1 := by decide
    have n4 : (Int32.ofNat 4).toInt = 4 := by decide
    refine ⟨Nat.le_of_ble_eq_true rfl, [(5, [true, true, true, true], (fun L t => ∃ (x2 : Int32) (x3 : Int32), L = [some (.ref 5), some (.int a2), some (.int x2), some (.int x3)] ∧ (0 : Int) ≤ x2.toInt ∧ x2.toInt ≤ (4 : Int) ∧ (4 : Int) ≤ x3.toInt ∧ x3.toInt ≤ (4 : Int) ∧ Iv t ∧ Kp s0 t), (fun L _ => (0 + (4 - (vg_li L 2).toInt) * 1000000000000).toNat))], ?_, List.forall_mem_cons.mpr ⟨?_, fun _ h => absurd h List.not_mem_nil⟩⟩
    ·
      exact ⟨rfl, ⟨(Int32.ofInt 0), (Int32.ofNat 4), rfl, (by omega), (by omega), (by omega), (by omega), i0, Kx.rf⟩, trivial⟩
    ·
      intro L s7 hL
      obtain ⟨w1, w4, rfl, b2, b3, b5, b6, i8, k9⟩ := hL
      refine And.intro (fun c10 => ?_) (fun c10 => ?_)
      · have c10 : w4.toInt ≤ w1.toInt := c10
        show Iv s7 ∧ Kp s0 s7 ∧ (True)
        exact ⟨i8, k9, (trivial)⟩
      · have c10 : ¬ (w4.toInt ≤ w1.toInt) := c10
        refine And.intro ⟨by omega, by omega⟩ ?_
        intro s11 e12
        have i13 : Iv s11 := Iv.a1 i8 e12 rfl
        have k14 : Kp s0 s11 := Kx.u1 k9 e12 rfl
        intro v15 e16
        have b17 := vg_add e16 (by omega) (by omega)
        exact ⟨rfl, ⟨v15, w4, rfl, (by omega), (by omega), (by omega), (by omega), i13, k14⟩, (by show (0 + (4 - v15.toInt) * 1000000000000).toNat < (0 + (4 - w1.toInt) * 1000000000000).toNat; omega)⟩
  ·
    have z0 : (Int32.ofInt 0).toInt = 0 := by decide
    have z1 : (Int32.ofInt 1).toInt = 1 := by decide
    have n6 : (Int32.ofNat 6).toInt = 6 := by decide
    refine ⟨Nat.le_of_ble_eq_true rfl, [(5, [true, true, true, true], (fun L t => ∃ (x2 : Int32) (x3 : Int32), L = [some (.ref 6), some (.int a2), some (.int x2), some (.int x3)] ∧ (0 : Int) ≤ x2.toInt ∧ x2.toInt ≤ (6 : Int) ∧ (6 : Int) ≤ x3.toInt ∧ x3.toInt ≤ (6 : Int) ∧ Iv t ∧ Kp s0 t), (fun L _ => (0 + (6 - (vg_li L 2).toInt) * 1000000000000).toNat))], ?_, List.forall_mem_cons.mpr ⟨?_, fun _ h => absurd h List.not_mem_nil⟩⟩
    ·
      exact ⟨rfl, ⟨(Int32.ofInt 0), (Int32.ofNat 6), rfl, (by omega), (by omega), (by omega), (by omega), i0, Kx.rf⟩, trivial⟩
    ·
      intro L s7 hL
      obtain ⟨w1, w4, rfl, b2, b3, b5, b6, i8, k9⟩ := hL
      refine And.intro (fun c10 => ?_) (fun c10 => ?_)
      · have c10 : w4.toInt ≤ w1.toInt := c10
        show Iv s7 ∧ Kp s0 s7 ∧ (True)
        exact ⟨i8, k9, (trivial)⟩
      · have c10 : ¬ (w4.toInt ≤ w1.toInt) := c10
        refine And.intro ⟨by omega, by omega⟩ ?_
        intro s11 e12
        have i13 : Iv s11 := Iv.a1 i8 e12 rfl
        have k14 : Kp s0 s11 := Kx.u1 k9 e12 rfl
        intro v15 e16
        have b17 := vg_add e16 (by omega) (by omega)
        exact ⟨rfl, ⟨v15, w4, rfl, (by omega), (by omega), (by omega), (by omega), i13, k14⟩, (by show (0 + (6 - v15.toInt) * 1000000000000).toNat < (0 + (6 - w1.toInt) * 1000000000000).toNat; omega)⟩
  ·
    have z0 : (Int32.ofInt 0).toInt = 0 := by decide
    have z1 : (Int32.ofInt 1).toInt = 1 := by decide
    have n4 : (Int32.ofNat 4).toInt = 4 := by decide
    refine ⟨Nat.le_of_ble_eq_true rfl, [(5, [true, true, true, true], (fun L t => ∃ (x2 : Int32) (x3 : Int32), L = [some (.ref 24), some (.int a2), some (.int x2), some (.int x3)] ∧ (0 : Int) ≤ x2.toInt ∧ x2.toInt ≤ (4 : Int) ∧ (4 : Int) ≤ x3.toInt ∧ x3.toInt ≤ (4 : Int) ∧ Iv t ∧ Kp s0 t), (fun L _ => (0 + (4 - (vg_li L 2).toInt) * 1000000000000).toNat))], ?_, List.forall_mem_cons.mpr ⟨?_, fun _ h => absurd h List.not_mem_nil⟩⟩
    ·
      exact ⟨rfl, ⟨(Int32.ofInt 0), (Int32.ofNat 4), rfl, (by omega), (by omega), (by omega), (by omega), i0, Kx.rf⟩, trivial⟩
    ·
      intro L s7 hL
      obtain ⟨w1, w4, rfl, b2, b3, b5, b6, i8, k9⟩ := hL
      refine And.intro (fun c10 => ?_) (fun c10 => ?_)
      · have c10 : w4.toInt ≤ w1.toInt := c10
        show Iv s7 ∧ Kp s0 s7 ∧ (True)
        exact ⟨i8, k9, (trivial)⟩
      · have c10 : ¬ (w4.toInt ≤ w1.toInt) := c10
        refine And.intro ⟨by omega, by omega⟩ ?_
        intro s11 e12
        have i13 : Iv s11 := Iv.a1 i8 e12 rfl
        have k14 : Kp s0 s11 := Kx.u1 k9 e12 rfl
        intro v15 e16
        have b17 := vg_add e16 (by omega) (by omega)
        exact ⟨rfl, ⟨v15, w4, rfl, (by omega), (by omega), (by omega), (by omega), i13, k14⟩, (by show (0 + (4 - v15.toInt) * 1000000000000).toNat < (0 + (4 - w1.toInt) * 1000000000000).toNat; omega)⟩
  ·
    have z0 : (Int32.ofInt 0).toInt = 0 := by decide
    have z1 : (Int32.ofInt 1).toInt = 1 := by decide
    have n6 : (Int32.ofNat 6).toInt = 6 := by decide
    refine ⟨Nat.le_of_ble_eq_true rfl, [(5, [true, true, true, true], (fun L t => ∃ (x2 : Int32) (x3 : Int32), L = [some (.ref 25), some (.int a2), some (.int x2), some (.int x3)] ∧ (0 : Int) ≤ x2.toInt ∧ x2.toInt ≤ (6 : Int) ∧ (6 : Int) ≤ x3.toInt ∧ x3.toInt ≤ (6 : Int) ∧ Iv t ∧ Kp s0 t), (fun L _ => (0 + (6 - (vg_li L 2).toInt) * 1000000000000).toNat))], ?_, List.forall_mem_cons.mpr ⟨?_, fun _ h => absurd h List.not_mem_nil⟩⟩
    ·
      exact ⟨rfl, ⟨(Int32.ofInt 0), (Int32.ofNat 6), rfl, (by omega), (by omega), (by omega), (by omega), i0, Kx.rf⟩, trivial⟩
    ·
      intro L s7 hL
      obtain ⟨w1, w4, rfl, b2, b3, b5, b6, i8, k9⟩ := hL
      refine And.intro (fun c10 => ?_) (fun c10 => ?_)
      · have c10 : w4.toInt ≤ w1.toInt := c10
        show Iv s7 ∧ Kp s0 s7 ∧ (True)
        exact ⟨i8, k9, (trivial)⟩
      · have c10 : ¬ (w4.toInt ≤ w1.toInt) := c10
        refine And.intro ⟨by omega, by omega⟩ ?_
        intro s11 e12
        have i13 : Iv s11 := Iv.a1 i8 e12 rfl
        have k14 : Kp s0 s11 := Kx.u1 k9 e12 rfl
        intro v15 e16
        have b17 := vg_add e16 (by omega) (by omega)
        exact ⟨rfl, ⟨v15, w4, rfl, (by omega), (by omega), (by omega), (by omega), i13, k14⟩, (by show (0 + (6 - v15.toInt) * 1000000000000).toNat < (0 + (6 - w1.toInt) * 1000000000000).toNat; omega)⟩
  ·
    have z0 : (Int32.ofInt 0).toInt = 0 := by decide
    have z1 : (Int32.ofInt 1).toInt = 1 := by decide
    have n16 : (Int32.ofNat 16).toInt = 16 := by decide
    refine ⟨Nat.le_of_ble_eq_true rfl, [(5, [true, true, true, true], (fun L t => ∃ (x2 : Int32) (x3 : Int32), L = [some (.ref 36), some (.int a2), some (.int x2), some (.int x3)] ∧ (0 : Int) ≤ x2.toInt ∧ x2.toInt ≤ (16 : Int) ∧ (16 : Int) ≤ x3.toInt ∧ x3.toInt ≤ (16 : Int) ∧ Iv t ∧ Kp s0 t), (fun L _ => (0 + (16 - (vg_li L 2).toInt) * 1000000000000).toNat))], ?_, List.forall_mem_cons.mpr ⟨?_, fun _ h => absurd h List.not_mem_nil⟩⟩
    ·
      exact ⟨rfl, ⟨(Int32.ofInt 0), (Int32.ofNat 16), rfl, (by omega), (by omega), (by omega), (by omega), i0, Kx.rf⟩, trivial⟩
    ·
      intro L s7 hL
      obtain ⟨w1, w4, rfl, b2, b3, b5, b6, i8, k9⟩ := hL
      refine And.intro (fun c10 => ?_) (fun c10 => ?_)
      · have c10 : w4.toInt ≤ w1.toInt := c10
        show Iv s7 ∧ Kp s0 s7 ∧ (True)
        exact ⟨i8, k9, (trivial)⟩
      · have c10 : ¬ (w4.toInt ≤ w1.toInt) := c10
        refine And.intro ⟨by omega, by omega⟩ ?_
        intro s11 e12
        have i13 : Iv s11 := Iv.a1 i8 e12 rfl
        have k14 : Kp s0 s11 := Kx.u1 k9 e12 rfl
        intro v15 e16
        have b17 := vg_add e16 (by omega) (by omega)
        exact ⟨rfl, ⟨v15, w4, rfl, (by omega), (by omega), (by omega), (by omega), i13, k14⟩, (by show (0 + (16 - v15.toInt) * 1000000000000).toNat < (0 + (16 - w1.toInt) * 1000000000000).toNat; omega)⟩
  ·
    have z0 : (Int32.ofInt 0).toInt = 0 := by decide
    have z1 : (Int32.ofInt 1).toInt = 1 := by decide
    have n16 : (Int32.ofNat 16).toInt = 16 := by decide
    refine ⟨Nat.le_of_ble_eq_true rfl, [(5, [true, true, true, true], (fun L t => ∃ (x2 : Int32) (x3 : Int32), L = [some (.ref 38), some (.int a2), some (.int x2), some (.int x3)] ∧ (0 : Int) ≤ x2.toInt ∧ x2.toInt ≤ (16 : Int) ∧ (16 : Int) ≤ x3.toInt ∧ x3.toInt ≤ (16 : Int) ∧ Iv t ∧ Kp s0 t), (fun L _ => (0 + (16 - (vg_li L 2).toInt) * 1000000000000).toNat))], ?_, List.forall_mem_cons.mpr ⟨?_, fun _ h => absurd h List.not_mem_nil⟩⟩
    ·
      exact ⟨rfl, ⟨(Int32.ofInt 0), (Int32.ofNat 16), rfl, (by omega), (by omega), (by omega), (by omega), i0, Kx.rf⟩, trivial⟩
    ·
      intro L s7 hL
      obtain ⟨w1, w4, rfl, b2, b3, b5, b6, i8, k9⟩ := hL
      refine And.intro (fun c10 => ?_) (fun c10 => ?_)
      · have c10 : w4.toInt ≤ w1.toInt := c10
        show Iv s7 ∧ Kp s0 s7 ∧ (True)
        exact ⟨i8, k9, (trivial)⟩
      · have c10 : ¬ (w4.toInt ≤ w1.toInt) := c10
        refine And.intro ⟨by omega, by omega⟩ ?_
        intro s11 e12
        have i13 : Iv s11 := Iv.a1 i8 e12 rfl
        have k14 : Kp s0 s11 := Kx.u1 k9 e12 rfl
        intro v15 e16
        have b17 := vg_add e16 (by omega) (by omega)
        exact ⟨rfl, ⟨v15, w4, rfl, (by omega), (by omega), (by omega), (by omega), i13, k14⟩, (by show (0 + (16 - v15.toInt) * 1000000000000).toNat < (0 + (16 - w1.toInt) * 1000000000000).toNat; omega)⟩
  ·
    have z0 : (Int32.ofInt 0).toInt = 0 := by decide
    have z1 : (Int32.ofInt 1).toInt = 1 := by decide
    have n16 : (Int32.ofNat 16).toInt = 16 := by decide
    refine ⟨Nat.le_of_ble_eq_true rfl, [(5, [true, true, true, true], (fun L t => ∃ (x2 : Int32) (x3 : Int32), L = [some (.ref 40), some (.int a2), some (.int x2), some (.int x3)] ∧ (0 : Int) ≤ x2.toInt ∧ x2.toInt ≤ (16 : Int) ∧ (16 : Int) ≤ x3.toInt ∧ x3.toInt ≤ (16 : Int) ∧ Iv t ∧ Kp s0 t), (fun L _ => (0 + (16 - (vg_li L 2).toInt) * 1000000000000).toNat))], ?_, List.forall_mem_cons.mpr ⟨?_, fun _ h => absurd h List.not_mem_nil⟩⟩
    ·
      exact ⟨rfl, ⟨(Int32.ofInt 0), (Int32.ofNat 16), rfl, (by omega), (by omega), (by omega), (by omega), i0, Kx.rf⟩, trivial⟩
    ·
      intro L s7 hL
      obtain ⟨w1, w4, rfl, b2, b3, b5, b6, i8, k9⟩ := hL
      refine And.intro (fun c10 => ?_) (fun c10 => ?_)
      · have c10 : w4.toInt ≤ w1.toInt := c10
        show Iv s7 ∧ Kp s0 s7 ∧ (True)
        exact ⟨i8, k9, (trivial)⟩
      · have c10 : ¬ (w4.toInt ≤ w1.toInt) := c10
        refine And.intro ⟨by omega, by omega⟩ ?_
        intro s11 e12
        have i13 : Iv s11 := Iv.a1 i8 e12 rfl
        have k14 : Kp s0 s11 := Kx.u1 k9 e12 rfl
        intro v15 e16
        have b17 := vg_add e16 (by omega) (by omega)
        exact ⟨rfl, ⟨v15, w4, rfl, (by omega), (by omega), (by omega), (by omega), i13, k14⟩, (by show (0 + (16 - v15.toInt) * 1000000000000).toNat < (0 + (16 - w1.toInt) * 1000000000000).toNat; omega)⟩
def o_J7_fill_53178_at34 : List vg_I := [(0, .iconst 0, 1, 0, 0, 0, 0), (1, .istore_n 2, 1, 0, 0, 0, 0), (2, .aload_n 0, 1, 0, 0, 0, 0), (3, .arraylength, 1, 0, 0, 0, 0), (4, .istore_n 3, 1, 0, 0, 0, 0), (5, .iload_n 2, 1, 0, 0, 0, 0), (6, .iload_n 3, 1, 0, 0, 0, 0), (7, .if_icmp .ge 13, 3, 0, 0, 0, 0), (10, .aload_n 0, 1, 0, 0, 0, 0), (11, .iload_n 2, 1, 0, 0, 0, 0), (12, .iload_n 1, 1, 0, 0, 0, 0), (13, .iastore, 1, 0, 0, 0, 0), (14, .iinc 2 1, 3, 0, 0, 0, 0), (17, .goto (-12), 3, 0, 0, 0, 0), (20, .return_, 1, 0, 0, 0, 0)]
set_option maxRecDepth 100000 in
set_option maxHeartbeats 4000000 in
theorem c_J7_fill_53178_at34 (l : Launch) (G : vg_G) (hp : vg_Hp G) : vg_Ct l G vg_sh r_J7_fill_53178_at34 := by
  refine vg_meth hp vg_sh_ok r_J7_fill_53178_at34 k_J7_fill_53178_at34 rfl (fun h => by cases h) o_J7_fill_53178_at34 [] false (by decide +kernel) (by decide +kernel) ⟨_, _, rfl, rfl⟩ (fun _ h => absurd h List.not_mem_nil) (fun h => by cases h) 600 ?_
  intro as s0 hpre
  obtain ⟨a1, a2, rfl, ha1, i0⟩ := hpre
  simp only [List.mem_cons, List.not_mem_nil, or_false] at ha1
  rcases ha1 with rfl
  ·
    have z0 : (Int32.ofInt 0).toInt = 0 := by decide
    have z1 : (Int32.ofInt 1).toInt = 1 := by decide
    have n2048 : (Int32.ofNat 2048).toInt = 2048 := by decide
    refine ⟨Nat.le_of_ble_eq_true rfl, [(5, [true, true, true, true], (fun L t => ∃ (x2 : Int32) (x3 : Int32), L = [some (.ref 34), some (.int a2), some (.int x2), some (.int x3)] ∧ (0 : Int) ≤ x2.toInt ∧ x2.toInt ≤ (2048 : Int) ∧ (2048 : Int) ≤ x3.toInt ∧ x3.toInt ≤ (2048 : Int) ∧ (∀ j : Nat, (j : Int) < x2.toInt → t.1 34 j = a2) ∧ Iv t ∧ Kc s0 t), (fun L _ => (0 + (2048 - (vg_li L 2).toInt) * 1000000000000).toNat))], ?_, List.forall_mem_cons.mpr ⟨?_, fun _ h => absurd h List.not_mem_nil⟩⟩
    ·
      exact ⟨rfl, ⟨(Int32.ofInt 0), (Int32.ofNat 2048), rfl, (by omega), (by omega), (by omega), (by omega), (by intro j hj; first | (exfalso; omega) | (rw [rfl]; exact vg_fst None (by omega) (by omega) hj)), i0, Kx.rf⟩, trivial⟩
    ·
      intro L s8 hL
      obtain ⟨w1, w4, rfl, b2, b3, b5, b6, x7, i9, k10⟩ := hL
      refine And.intro (fun c11 => ?_) (fun c11 => ?_)
      · have c11 : w4.toInt ≤ w1.toInt := c11
        show Iv s8 ∧ Kc s0 s8 ∧ (∀ j : Nat, j < 2048 → s8.1 34 j = a2)
        exact ⟨i9, k10, (fun j hj => x7 j (by omega))⟩
      · have c11 : ¬ (w4.toInt ≤ w1.toInt) := c11
        refine And.intro ⟨by omega, by omega⟩ ?_
        intro s12 e13
        have i14 : Iv s12 := Iv.a1 i9 e13 rfl
        have k15 : Kc s0 s12 := Kx.u1 k10 e13 rfl
        intro v16 e17
        have b18 := vg_add e17 (by omega) (by omega)
        exact ⟨rfl, ⟨v16, w4, rfl, (by omega), (by omega), (by omega), (by omega), (by intro j hj; first | (exfalso; omega) | (rw [e13]; exact vg_fst x7 (by omega) (by omega) hj)), i14, k15⟩, (by show (0 + (2048 - v16.toInt) * 1000000000000).toNat < (0 + (2048 - w1.toInt) * 1000000000000).toNat; omega)⟩
def o_J7_fill_d0a16 : List vg_I := [(0, .iconst 0, 1, 0, 0, 0, 0), (1, .istore_n 3, 1, 0, 0, 0, 0), (2, .aload_n 0, 1, 0, 0, 0, 0), (3, .arraylength, 1, 0, 0, 0, 0), (4, .istore 4, 2, 0, 0, 0, 0), (6, .iload_n 3, 1, 0, 0, 0, 0), (7, .iload 4, 2, 0, 0, 0, 0), (9, .if_icmp .ge 13, 3, 0, 0, 0, 0), (12, .aload_n 0, 1, 0, 0, 0, 0), (13, .iload_n 3, 1, 0, 0, 0, 0), (14, .lload_n 1, 1, 0, 0, 0, 0), (15, .lastore, 1, 0, 0, 0, 0), (16, .iinc 3 1, 3, 0, 0, 0, 0), (19, .goto (-13), 3, 0, 0, 0, 0), (22, .return_, 1, 0, 0, 0, 0)]
set_option maxRecDepth 100000 in
set_option maxHeartbeats 4000000 in
theorem c_J7_fill_d0a16 (l : Launch) (G : vg_G) (hp : vg_Hp G) : vg_Ct l G vg_sh r_J7_fill_d0a16 := by
  refine vg_meth hp vg_sh_ok r_J7_fill_d0a16 k_J7_fill_d0a16 rfl (fun h => by cases h) o_J7_fill_d0a16 [] false (by decide +kernel) (by decide +kernel) ⟨_, _, rfl, rfl⟩ (fun _ h => absurd h List.not_mem_nil) (fun h => by cases h) 600 ?_
  intro as s0 hpre
  obtain ⟨a1, a2, rfl, ha1, i0⟩ := hpre
  simp only [List.mem_cons, List.not_mem_nil, or_false] at ha1
  rcases ha1 with rfl | rfl
  ·
    have z0 : (Int32.ofInt 0).toInt = 0 := by decide
    have z1 : (Int32.ofInt 1).toInt = 1 := by decide
    have n5 : (Int32.ofNat 5).toInt = 5 := by decide
    refine ⟨Nat.le_of_ble_eq_true rfl, [(6, [true, true, false, true, true], (fun L t => ∃ (x3 : Int32) (x4 : Int32), L = [some (.ref 13), some (.long a2), none, some (.int x3), some (.int x4)] ∧ (0 : Int) ≤ x3.toInt ∧ x3.toInt ≤ (5 : Int) ∧ (5 : Int) ≤ x4.toInt ∧ x4.toInt ≤ (5 : Int) ∧ Iv t ∧ Kp s0 t), (fun L _ => (0 + (5 - (vg_li L 3).toInt) * 1000000000000).toNat))], ?_, List.forall_mem_cons.mpr ⟨?_, fun _ h => absurd h List.not_mem_nil⟩⟩
    ·
      exact ⟨rfl, ⟨(Int32.ofInt 0), (Int32.ofNat 5), rfl, (by omega), (by omega), (by omega), (by omega), i0, Kx.rf⟩, trivial⟩
    ·
      intro L s7 hL
      obtain ⟨w1, w4, rfl, b2, b3, b5, b6, i8, k9⟩ := hL
      refine And.intro (fun c10 => ?_) (fun c10 => ?_)
      · have c10 : w4.toInt ≤ w1.toInt := c10
        show Iv s7 ∧ Kp s0 s7 ∧ (True)
        exact ⟨i8, k9, (trivial)⟩
      · have c10 : ¬ (w4.toInt ≤ w1.toInt) := c10
        refine And.intro ⟨by omega, by omega⟩ ?_
        intro s11 e12
        have i13 : Iv s11 := Iv.u2 i8 e12
        have k14 : Kp s0 s11 := Kx.u2 k9 e12 (vg_kq_no ⟨rfl, rfl, rfl⟩).1
        intro v15 e16
        have b17 := vg_add e16 (by omega) (by omega)
        exact ⟨rfl, ⟨v15, w4, rfl, (by omega), (by omega), (by omega), (by omega), i13, k14⟩, (by show (0 + (5 - v15.toInt) * 1000000000000).toNat < (0 + (5 - w1.toInt) * 1000000000000).toNat; omega)⟩
  ·
    have z0 : (Int32.ofInt 0).toInt = 0 := by decide
    have z1 : (Int32.ofInt 1).toInt = 1 := by decide
    have n5 : (Int32.ofNat 5).toInt = 5 := by decide
    refine ⟨Nat.le_of_ble_eq_true rfl, [(6, [true, true, false, true, true], (fun L t => ∃ (x3 : Int32) (x4 : Int32), L = [some (.ref 14), some (.long a2), none, some (.int x3), some (.int x4)] ∧ (0 : Int) ≤ x3.toInt ∧ x3.toInt ≤ (5 : Int) ∧ (5 : Int) ≤ x4.toInt ∧ x4.toInt ≤ (5 : Int) ∧ Iv t ∧ Kp s0 t), (fun L _ => (0 + (5 - (vg_li L 3).toInt) * 1000000000000).toNat))], ?_, List.forall_mem_cons.mpr ⟨?_, fun _ h => absurd h List.not_mem_nil⟩⟩
    ·
      exact ⟨rfl, ⟨(Int32.ofInt 0), (Int32.ofNat 5), rfl, (by omega), (by omega), (by omega), (by omega), i0, Kx.rf⟩, trivial⟩
    ·
      intro L s7 hL
      obtain ⟨w1, w4, rfl, b2, b3, b5, b6, i8, k9⟩ := hL
      refine And.intro (fun c10 => ?_) (fun c10 => ?_)
      · have c10 : w4.toInt ≤ w1.toInt := c10
        show Iv s7 ∧ Kp s0 s7 ∧ (True)
        exact ⟨i8, k9, (trivial)⟩
      · have c10 : ¬ (w4.toInt ≤ w1.toInt) := c10
        refine And.intro ⟨by omega, by omega⟩ ?_
        intro s11 e12
        have i13 : Iv s11 := Iv.u2 i8 e12
        have k14 : Kp s0 s11 := Kx.u2 k9 e12 (vg_kq_no ⟨rfl, rfl, rfl⟩).1
        intro v15 e16
        have b17 := vg_add e16 (by omega) (by omega)
        exact ⟨rfl, ⟨v15, w4, rfl, (by omega), (by omega), (by omega), (by omega), i13, k14⟩, (by show (0 + (5 - v15.toInt) * 1000000000000).toNat < (0 + (5 - w1.toInt) * 1000000000000).toNat; omega)⟩
def o_J7_fill_53178_at15 : List vg_I := [(0, .iconst 0, 1, 0, 0, 0, 0), (1, .istore_n 2, 1, 0, 0, 0, 0), (2, .aload_n 0, 1, 0, 0, 0, 0), (3, .arraylength, 1, 0, 0, 0, 0), (4, .istore_n 3, 1, 0, 0, 0, 0), (5, .iload_n 2, 1, 0, 0, 0, 0), (6, .iload_n 3, 1, 0, 0, 0, 0), (7, .if_icmp .ge 13, 3, 0, 0, 0, 0), (10, .aload_n 0, 1, 0, 0, 0, 0), (11, .iload_n 2, 1, 0, 0, 0, 0), (12, .iload_n 1, 1, 0, 0, 0, 0), (13, .iastore, 1, 0, 0, 0, 0), (14, .iinc 2 1, 3, 0, 0, 0, 0), (17, .goto (-12), 3, 0, 0, 0, 0), (20, .return_, 1, 0, 0, 0, 0)]
set_option maxRecDepth 100000 in
set_option maxHeartbeats 4000000 in
theorem c_J7_fill_53178_at15 (l : Launch) (G : vg_G) (hp : vg_Hp G) : vg_Ct l G vg_sh r_J7_fill_53178_at15 := by
  refine vg_meth hp vg_sh_ok r_J7_fill_53178_at15 k_J7_fill_53178_at15 rfl (fun h => by cases h) o_J7_fill_53178_at15 [] false (by decide +kernel) (by decide +kernel) ⟨_, _, rfl, rfl⟩ (fun _ h => absurd h List.not_mem_nil) (fun h => by cases h) 600 ?_
  intro as s0 hpre
  obtain ⟨a1, a2, rfl, ha1, i0⟩ := hpre
  simp only [List.mem_cons, List.not_mem_nil, or_false] at ha1
  rcases ha1 with rfl
  ·
    have z0 : (Int32.ofInt 0).toInt = 0 := by decide
    have z1 : (Int32.ofInt 1).toInt = 1 := by decide
    have n76 : (Int32.ofNat 76).toInt = 76 := by decide
    refine ⟨Nat.le_of_ble_eq_true rfl, [(5, [true, true, true, true], (fun L t => ∃ (x2 : Int32) (x3 : Int32), L = [some (.ref 15), some (.int a2), some (.int x2), some (.int x3)] ∧ (0 : Int) ≤ x2.toInt ∧ x2.toInt ≤ (76 : Int) ∧ (76 : Int) ≤ x3.toInt ∧ x3.toInt ≤ (76 : Int) ∧ (∀ j : Nat, (j : Int) < x2.toInt → t.1 15 j = a2) ∧ Iv t ∧ Kp s0 t), (fun L _ => (0 + (76 - (vg_li L 2).toInt) * 1000000000000).toNat))], ?_, List.forall_mem_cons.mpr ⟨?_, fun _ h => absurd h List.not_mem_nil⟩⟩
    ·
      exact ⟨rfl, ⟨(Int32.ofInt 0), (Int32.ofNat 76), rfl, (by omega), (by omega), (by omega), (by omega), (by intro j hj; first | (exfalso; omega) | (rw [rfl]; exact vg_fst None (by omega) (by omega) hj)), i0, Kx.rf⟩, trivial⟩
    ·
      intro L s8 hL
      obtain ⟨w1, w4, rfl, b2, b3, b5, b6, x7, i9, k10⟩ := hL
      refine And.intro (fun c11 => ?_) (fun c11 => ?_)
      · have c11 : w4.toInt ≤ w1.toInt := c11
        show Iv s8 ∧ Kp s0 s8 ∧ (∀ j : Nat, j < 76 → s8.1 15 j = a2)
        exact ⟨i9, k10, (fun j hj => x7 j (by omega))⟩
      · have c11 : ¬ (w4.toInt ≤ w1.toInt) := c11
        refine And.intro ⟨by omega, by omega⟩ ?_
        intro s12 e13
        have i14 : Iv s12 := Iv.a1 i9 e13 rfl
        have k15 : Kp s0 s12 := Kx.u1 k10 e13 rfl
        intro v16 e17
        have b18 := vg_add e17 (by omega) (by omega)
        exact ⟨rfl, ⟨v16, w4, rfl, (by omega), (by omega), (by omega), (by omega), (by intro j hj; first | (exfalso; omega) | (rw [e13]; exact vg_fst x7 (by omega) (by omega) hj)), i14, k15⟩, (by show (0 + (76 - v16.toInt) * 1000000000000).toNat < (0 + (76 - w1.toInt) * 1000000000000).toNat; omega)⟩
