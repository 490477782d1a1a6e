def o_X10_status : List vg_I := [(0, .aload_n 0, 1, 0, 0, 0, 0), (1, .getfield 78, 3, 427, 10, 0, 0), (4, .ireturn, 1, 0, 0, 0, 0)]
set_option maxRecDepth 100000 in
set_option maxHeartbeats 4000000 in
theorem c_X10_status (l : Launch) (G : vg_G) (hp : vg_Hp G) : vg_Ct l G vg_sh r_X10_status := by
  refine vg_meth hp vg_sh_ok r_X10_status k_X10_status rfl (fun h => by cases h) o_X10_status [] false (by decide +kernel) (by decide +kernel) ⟨_, _, rfl, rfl⟩ (fun _ h => absurd h List.not_mem_nil) (fun h => by cases h) 600 ?_
  intro as s0 hpre
  obtain ⟨r, rfl, hr, i0⟩ := hpre
  simp only [List.mem_cons, List.not_mem_nil, or_false] at hr
  rcases hr with rfl
  ·
    refine ⟨Nat.le_of_ble_eq_true rfl, [], ?_, fun _ h => absurd h List.not_mem_nil⟩
    ·
      intro v1 e2
      have g3 : s0.1 0 0 = v1 := by rw [e2]
      show s0 = s0 ∧ (True)
      exact ⟨rfl, (trivial)⟩
def o_X10_refuse : List vg_I := [(0, .aload_n 0, 1, 0, 0, 0, 0), (1, .iload_n 1, 1, 0, 0, 0, 0), (2, .putfield 78, 3, 427, 10, 0, 0), (5, .iconst (-1), 1, 0, 0, 0, 0), (6, .ireturn, 1, 0, 0, 0, 0)]
set_option maxRecDepth 100000 in
set_option maxHeartbeats 4000000 in
theorem c_X10_refuse (l : Launch) (G : vg_G) (hp : vg_Hp G) : vg_Ct l G vg_sh r_X10_refuse := by
  refine vg_meth hp vg_sh_ok r_X10_refuse k_X10_refuse rfl (fun h => by cases h) o_X10_refuse [] false (by decide +kernel) (by decide +kernel) ⟨_, _, rfl, rfl⟩ (fun _ h => absurd h List.not_mem_nil) (fun h => by cases h) 600 ?_
  intro as s0 hpre
  obtain ⟨r, a1, rfl, hr, i0⟩ := hpre
  simp only [List.mem_cons, List.not_mem_nil, or_false] at hr
  rcases hr with rfl
  ·
    have zm1 : (Int32.ofInt (-1)).toInt = -1 := by decide
    refine ⟨Nat.le_of_ble_eq_true rfl, [], ?_, fun _ h => absurd h List.not_mem_nil⟩
    ·
      intro s1 e2
      have i3 : Iv s1 := Iv.u1 i0 e2 rfl
      have k4 : Kp s0 s1 := Kx.u1 Kx.rf e2 rfl
      have u5 : vk s1 = ((vk s0).1, (vk s0).2) := vk_k1 rfl e2 rfl
      show Iv s1 ∧ Kp s0 s1 ∧ vk s1 = ((vk s0).1, (vk s0).2) ∧ ((Int32.ofInt (-1)).toInt = -1)
      exact ⟨i3, k4, u5, (by first | trivial | omega | assumption)⟩
def o_X10_answer : List vg_I := [(0, .aload_n 0, 1, 0, 0, 0, 0), (1, .iconst 0, 1, 0, 0, 0, 0), (2, .putfield 78, 3, 427, 10, 0, 0), (5, .iload_n 1, 1, 0, 0, 0, 0), (6, .ireturn, 1, 0, 0, 0, 0)]
set_option maxRecDepth 100000 in
set_option maxHeartbeats 4000000 in
theorem c_X10_answer (l : Launch) (G : vg_G) (hp : vg_Hp G) : vg_Ct l G vg_sh r_X10_answer := by
  refine vg_meth hp vg_sh_ok r_X10_answer k_X10_answer rfl (fun h => by cases h) o_X10_answer [] false (by decide +kernel) (by decide +kernel) ⟨_, _, rfl, rfl⟩ (fun _ h => absurd h List.not_mem_nil) (fun h => by cases h) 600 ?_
  intro as s0 hpre
  obtain ⟨r, a1, rfl, hr, i0⟩ := hpre
  simp only [List.mem_cons, List.not_mem_nil, or_false] at hr
  rcases hr with rfl
  ·
    have z0 : (Int32.ofInt 0).toInt = 0 := by decide
    refine ⟨Nat.le_of_ble_eq_true rfl, [], ?_, fun _ h => absurd h List.not_mem_nil⟩
    ·
      intro s1 e2
      have i3 : Iv s1 := Iv.u1 i0 e2 rfl
      have k4 : Kp s0 s1 := Kx.u1 Kx.rf e2 rfl
      have u5 : vk s1 = ((vk s0).1, (vk s0).2) := vk_k1 rfl e2 rfl
      show Iv s1 ∧ Kp s0 s1 ∧ vk s1 = ((vk s0).1, (vk s0).2) ∧ (a1 = a1 ∧ a1.toInt = a1.toInt)
      exact ⟨i3, k4, u5, (by exact ⟨rfl, rfl⟩)⟩
def o_X10_answerLong : List vg_I := [(0, .aload_n 0, 1, 0, 0, 0, 0), (1, .iconst 0, 1, 0, 0, 0, 0), (2, .putfield 78, 3, 427, 10, 0, 0), (5, .lload_n 1, 1, 0, 0, 0, 0), (6, .lreturn, 1, 0, 0, 0, 0)]
set_option maxRecDepth 100000 in
set_option maxHeartbeats 4000000 in
theorem c_X10_answerLong (l : Launch) (G : vg_G) (hp : vg_Hp G) : vg_Ct l G vg_sh r_X10_answerLong := by
  refine vg_meth hp vg_sh_ok r_X10_answerLong k_X10_answerLong rfl (fun h => by cases h) o_X10_answerLong [] false (by decide +kernel) (by decide +kernel) ⟨_, _, rfl, rfl⟩ (fun _ h => absurd h List.not_mem_nil) (fun h => by cases h) 600 ?_
  intro as s0 hpre
  obtain ⟨r, a1, rfl, hr, i0⟩ := hpre
  simp only [List.mem_cons, List.not_mem_nil, or_false] at hr
  rcases hr with rfl
  ·
    have z0 : (Int32.ofInt 0).toInt = 0 := by decide
    refine ⟨Nat.le_of_ble_eq_true rfl, [], ?_, fun _ h => absurd h List.not_mem_nil⟩
    ·
      intro s1 e2
      have i3 : Iv s1 := Iv.u1 i0 e2 rfl
      have k4 : Kp s0 s1 := Kx.u1 Kx.rf e2 rfl
      have u5 : vk s1 = ((vk s0).1, (vk s0).2) := vk_k1 rfl e2 rfl
      show Iv s1 ∧ Kp s0 s1 ∧ vk s1 = ((vk s0).1, (vk s0).2) ∧ (a1 = a1)
      exact ⟨i3, k4, u5, (by first | trivial | omega | assumption)⟩
def o_X10_beginAnewFrom : List vg_I := [(0, .iload_n 1, 1, 0, 0, 0, 0), (1, .istore_n 2, 1, 0, 0, 0, 0), (2, .iload_n 2, 1, 0, 0, 0, 0), (3, .bipush 7, 2, 0, 0, 0, 0), (5, .if_icmp .ge 18, 3, 0, 0, 0, 0), (8, .aload_n 0, 1, 0, 0, 0, 0), (9, .getfield 52, 3, 436, 10, 9, 0), (12, .iload_n 2, 1, 0, 0, 0, 0), (13, .aaload, 1, 0, 0, 0, 0), (14, .invokevirtual 413, 3, 0, 4, 0, 492), (17, .iinc 2 1, 3, 0, 0, 0, 0), (20, .goto (-18), 3, 0, 0, 0, 0), (23, .iload_n 1, 1, 0, 0, 0, 0), (24, .iconst 1, 1, 0, 0, 0, 0), (25, .if_icmp .gt 10, 3, 0, 0, 0, 0), (28, .aload_n 0, 1, 0, 0, 0, 0), (29, .getfield 19, 3, 431, 10, 4, 0), (32, .invokevirtual 416, 3, 1, 5, 0, 496), (35, .iload_n 1, 1, 0, 0, 0, 0), (36, .iconst 2, 1, 0, 0, 0, 0), (37, .if_icmp .gt 10, 3, 0, 0, 0, 0), (40, .aload_n 0, 1, 0, 0, 0, 0), (41, .getfield 26, 3, 432, 10, 5, 0), (44, .invokevirtual 419, 3, 2, 2, 0, 503), (47, .iload_n 1, 1, 0, 0, 0, 0), (48, .iconst 3, 1, 0, 0, 0, 0), (49, .if_icmp .gt 10, 3, 0, 0, 0, 0), (52, .aload_n 0, 1, 0, 0, 0, 0), (53, .getfield 33, 3, 433, 10, 6, 0), (56, .invokevirtual 420, 3, 3, 1, 0, 508), (59, .iconst 0, 1, 0, 0, 0, 0), (60, .istore_n 2, 1, 0, 0, 0, 0), (61, .iload_n 2, 1, 0, 0, 0, 0), (62, .iconst 3, 1, 0, 0, 0, 0), (63, .if_icmp .ge 25, 3, 0, 0, 0, 0), (66, .iload_n 1, 1, 0, 0, 0, 0), (67, .iconst 4, 1, 0, 0, 0, 0), (68, .iload_n 2, 1, 0, 0, 0, 0), (69, .iadd, 1, 0, 0, 0, 0), (70, .if_icmp .gt 12, 3, 0, 0, 0, 0), (73, .aload_n 0, 1, 0, 0, 0, 0), (74, .getfield 46, 3, 435, 10, 8, 0), (77, .iload_n 2, 1, 0, 0, 0, 0), (78, .aaload, 1, 0, 0, 0, 0), (79, .invokevirtual 421, 3, 4, 3, 0, 515), (82, .iinc 2 1, 3, 0, 0, 0, 0), (85, .goto (-24), 3, 0, 0, 0, 0), (88, .return_, 1, 0, 0, 0, 0)]
set_option maxRecDepth 100000 in
set_option maxHeartbeats 4000000 in
theorem c_X10_beginAnewFrom (l : Launch) (G : vg_G) (hp : vg_Hp G) : vg_Ct l G vg_sh r_X10_beginAnewFrom := by
  refine vg_meth hp vg_sh_ok r_X10_beginAnewFrom k_X10_beginAnewFrom rfl (fun h => by cases h) o_X10_beginAnewFrom [r_X4_clear, r_X5_begin, r_X2_begin, r_X1_begin, r_X3_begin] false (by decide +kernel) (by decide +kernel) ⟨_, _, rfl, rfl⟩ (List.forall_mem_cons.mpr ⟨⟨c_X4_clear l G hp, Nat.le_of_ble_eq_true rfl, Nat.le_of_ble_eq_true rfl⟩, List.forall_mem_cons.mpr ⟨⟨c_X5_begin l G hp, Nat.le_of_ble_eq_true rfl, Nat.le_of_ble_eq_true rfl⟩, List.forall_mem_cons.mpr ⟨⟨c_X2_begin l G hp, Nat.le_of_ble_eq_true rfl, Nat.le_of_ble_eq_true rfl⟩, List.forall_mem_cons.mpr ⟨⟨c_X1_begin l G hp, Nat.le_of_ble_eq_true rfl, Nat.le_of_ble_eq_true rfl⟩, List.forall_mem_cons.mpr ⟨⟨c_X3_begin l G hp, Nat.le_of_ble_eq_true rfl, Nat.le_of_ble_eq_true rfl⟩, fun _ h => absurd h List.not_mem_nil⟩⟩⟩⟩⟩) (fun h => by cases h) 600 ?_
  intro as s0 hpre
  obtain ⟨r, a1, rfl, hr, i0, p0⟩ := hpre
  simp only [List.mem_cons, List.not_mem_nil, or_false] at hr
  rcases hr with rfl
  ·
    have z0 : (Int32.ofInt 0).toInt = 0 := by decide
    have z1 : (Int32.ofInt 1).toInt = 1 := by decide
    have z2 : (Int32.ofInt 2).toInt = 2 := by decide
    have z3 : (Int32.ofInt 3).toInt = 3 := by decide
    have z4 : (Int32.ofInt 4).toInt = 4 := by decide
    have z7 : (Int32.ofInt 7).toInt = 7 := by decide
    refine ⟨Nat.le_of_ble_eq_true rfl, [(2, [true, true, true], (fun L t => ∃ (x2 : Int32), L = [some (.ref 0), some (.int a1), some (.int x2)] ∧ (0 : Int) ≤ x2.toInt ∧ x2.toInt ≤ (7 : Int) ∧ (a1.toInt ≤ x2.toInt) ∧ Iv t ∧ Kp s0 t ∧ vk t = (kb1 (Int32.ofInt 0) a1.toInt x2.toInt (vk s0).1, (vk s0).2)), (fun L _ => (10000000000000000 + (7 - (vg_li L 2).toInt) * 1000000000000).toNat)), (61, [true, true, true], (fun L t => ∃ (x2 : Int32), L = [some (.ref 0), some (.int a1), some (.int x2)] ∧ (0 : Int) ≤ x2.toInt ∧ x2.toInt ≤ (3 : Int) ∧ Iv t ∧ Kp s0 t ∧ vk t = (kb2 (Int32.ofInt 0) a1.toInt x2.toInt (vk s0).1, (vk s0).2)), (fun L _ => (0 + (3 - (vg_li L 2).toInt) * 1000000000000).toNat))], ?_, List.forall_mem_cons.mpr ⟨?_, List.forall_mem_cons.mpr ⟨?_, fun _ h => absurd h List.not_mem_nil⟩⟩⟩
    ·
      exact ⟨rfl, ⟨a1, rfl, (by omega), (by omega), (by omega), i0, Kx.rf, (by first | exact vk_l rfl (kb1_0 (by omega)).symm | exact vk_l rfl (kb1_s (by omega) (by omega) (by omega) (by omega)))⟩, trivial⟩
    ·
      intro L s5 hL
      obtain ⟨w1, rfl, b2, b3, x4, i6, k7, u8⟩ := hL
      refine And.intro (fun c9 => ?_) (fun c9 => ?_)
      · have c9 : (Int32.ofInt 7).toInt ≤ w1.toInt := c9
        refine And.intro (fun c10 => ?_) (fun c10 => ?_)
        · have c10 : (Int32.ofInt 1).toInt < a1.toInt := c10
          refine And.intro (fun c11 => ?_) (fun c11 => ?_)
          · have c11 : (Int32.ofInt 2).toInt < a1.toInt := c11
            refine And.intro (fun c12 => ?_) (fun c12 => ?_)
            · have c12 : (Int32.ofInt 3).toInt < a1.toInt := c12
              exact ⟨rfl, ⟨(Int32.ofInt 0), rfl, (by omega), (by omega), i6, k7, (by first | exact vk_l u8 (kb2_0c (by omega) (by omega) (by omega)) | exact vk_l u8 (kb2_0b (by omega) (by omega) (by omega)) | exact vk_l u8 (kb2_s (by omega) (by omega) (by omega) (by omega)) | exact vk_l u8 (kb2_n (by omega) (by omega)))⟩, (by show (0 + (3 - (Int32.ofInt 0).toInt) * 1000000000000).toNat < (10000000000000000 + (7 - w1.toInt) * 1000000000000).toNat; omega)⟩
            · have c12 : ¬ ((Int32.ofInt 3).toInt < a1.toInt) := c12
              refine And.intro (Nat.le_of_ble_eq_true rfl) (And.intro ⟨12, rfl, by decide, i6⟩ ?_)
              intro s14 h13
              have h13 : Iv s14 ∧ Kp s5 s14 ∧ vk s14 = (kset (vk s5).1 7 (Int32.ofInt 0), (vk s5).2) ∧ (True) := h13
              have i15 := h13.1
              have k16 : Kp s0 s14 := Kx.tr k7 (h13.2.1)
              have u17 : vk s14 = ((kset (kb1 (Int32.ofInt 0) a1.toInt w1.toInt (vk s0).1) 7 (Int32.ofInt 0)), (vk s0).2) := (by rw [h13.2.2.1, u8])
              exact ⟨rfl, ⟨(Int32.ofInt 0), rfl, (by omega), (by omega), i15, k16, (by first | exact vk_l u17 (kb2_0c (by omega) (by omega) (by omega)) | exact vk_l u17 (kb2_0b (by omega) (by omega) (by omega)) | exact vk_l u17 (kb2_s (by omega) (by omega) (by omega) (by omega)) | exact vk_l u17 (kb2_n (by omega) (by omega)))⟩, (by show (0 + (3 - (Int32.ofInt 0).toInt) * 1000000000000).toNat < (10000000000000000 + (7 - w1.toInt) * 1000000000000).toNat; omega)⟩
          · have c11 : ¬ ((Int32.ofInt 2).toInt < a1.toInt) := c11
            refine And.intro (Nat.le_of_ble_eq_true rfl) (And.intro ⟨7, rfl, by decide, i6⟩ ?_)
            intro s19 h18
            have h18 : Iv s19 ∧ Kp s5 s19 ∧ vk s19 = ((vk s5).1, (vk s5).2) ∧ (True) := h18
            have i20 := h18.1
            have k21 : Kp s0 s19 := Kx.tr k7 (h18.2.1)
            have u22 : vk s19 = ((kb1 (Int32.ofInt 0) a1.toInt w1.toInt (vk s0).1), (vk s0).2) := h18.2.2.1.trans u8
            refine And.intro (fun c23 => ?_) (fun c23 => ?_)
            · have c23 : (Int32.ofInt 3).toInt < a1.toInt := c23
              exfalso
              omega
            · have c23 : ¬ ((Int32.ofInt 3).toInt < a1.toInt) := c23
              refine And.intro (Nat.le_of_ble_eq_true rfl) (And.intro ⟨12, rfl, by decide, i20⟩ ?_)
              intro s25 h24
              have h24 : Iv s25 ∧ Kp s19 s25 ∧ vk s25 = (kset (vk s19).1 7 (Int32.ofInt 0), (vk s19).2) ∧ (True) := h24
              have i26 := h24.1
              have k27 : Kp s0 s25 := Kx.tr k21 (h24.2.1)
              have u28 : vk s25 = ((kset (kb1 (Int32.ofInt 0) a1.toInt w1.toInt (vk s0).1) 7 (Int32.ofInt 0)), (vk s0).2) := (by rw [h24.2.2.1, u22])
              exact ⟨rfl, ⟨(Int32.ofInt 0), rfl, (by omega), (by omega), i26, k27, (by first | exact vk_l u28 (kb2_0c (by omega) (by omega) (by omega)) | exact vk_l u28 (kb2_0b (by omega) (by omega) (by omega)) | exact vk_l u28 (kb2_s (by omega) (by omega) (by omega) (by omega)) | exact vk_l u28 (kb2_n (by omega) (by omega)))⟩, (by show (0 + (3 - (Int32.ofInt 0).toInt) * 1000000000000).toNat < (10000000000000000 + (7 - w1.toInt) * 1000000000000).toNat; omega)⟩
        · have c10 : ¬ ((Int32.ofInt 1).toInt < a1.toInt) := c10
          refine And.intro (Nat.le_of_ble_eq_true rfl) (And.intro ⟨3, rfl, by decide, i6⟩ ?_)
          intro s30 h29
          have h29 : Iv s30 ∧ Kp s5 s30 ∧ vk s30 = ((vk s5).1, (vk s5).2) ∧ (True) := h29
          have i31 := h29.1
          have k32 : Kp s0 s30 := Kx.tr k7 (h29.2.1)
          have u33 : vk s30 = ((kb1 (Int32.ofInt 0) a1.toInt w1.toInt (vk s0).1), (vk s0).2) := h29.2.2.1.trans u8
          refine And.intro (fun c34 => ?_) (fun c34 => ?_)
          · have c34 : (Int32.ofInt 2).toInt < a1.toInt := c34
            exfalso
            omega
          · have c34 : ¬ ((Int32.ofInt 2).toInt < a1.toInt) := c34
            refine And.intro (Nat.le_of_ble_eq_true rfl) (And.intro ⟨7, rfl, by decide, i31⟩ ?_)
            intro s36 h35
            have h35 : Iv s36 ∧ Kp s30 s36 ∧ vk s36 = ((vk s30).1, (vk s30).2) ∧ (True) := h35
            have i37 := h35.1
            have k38 : Kp s0 s36 := Kx.tr k32 (h35.2.1)
            have u39 : vk s36 = ((kb1 (Int32.ofInt 0) a1.toInt w1.toInt (vk s0).1), (vk s0).2) := h35.2.2.1.trans u33
            refine And.intro (fun c40 => ?_) (fun c40 => ?_)
            · have c40 : (Int32.ofInt 3).toInt < a1.toInt := c40
              exfalso
              omega
            · have c40 : ¬ ((Int32.ofInt 3).toInt < a1.toInt) := c40
              refine And.intro (Nat.le_of_ble_eq_true rfl) (And.intro ⟨12, rfl, by decide, i37⟩ ?_)
              intro s42 h41
              have h41 : Iv s42 ∧ Kp s36 s42 ∧ vk s42 = (kset (vk s36).1 7 (Int32.ofInt 0), (vk s36).2) ∧ (True) := h41
              have i43 := h41.1
              have k44 : Kp s0 s42 := Kx.tr k38 (h41.2.1)
              have u45 : vk s42 = ((kset (kb1 (Int32.ofInt 0) a1.toInt w1.toInt (vk s0).1) 7 (Int32.ofInt 0)), (vk s0).2) := (by rw [h41.2.2.1, u39])
              exact ⟨rfl, ⟨(Int32.ofInt 0), rfl, (by omega), (by omega), i43, k44, (by first | exact vk_l u45 (kb2_0c (by omega) (by omega) (by omega)) | exact vk_l u45 (kb2_0b (by omega) (by omega) (by omega)) | exact vk_l u45 (kb2_s (by omega) (by omega) (by omega) (by omega)) | exact vk_l u45 (kb2_n (by omega) (by omega)))⟩, (by show (0 + (3 - (Int32.ofInt 0).toInt) * 1000000000000).toNat < (10000000000000000 + (7 - w1.toInt) * 1000000000000).toNat; omega)⟩
      · have c9 : ¬ ((Int32.ofInt 7).toInt ≤ w1.toInt) := c9
        refine And.intro rfl (And.intro ⟨by omega, by omega⟩ ?_)
        refine And.intro (fun c46 => ?_) ?_
        · have c46 : w1.toInt = (0) := c46
          refine And.intro (Nat.le_of_ble_eq_true rfl) (And.intro ⟨41, rfl, by decide, i6⟩ ?_)
          intro s48 h47
          have h47 : Iv s48 ∧ Kp s5 s48 ∧ vk s48 = (kset (vk s5).1 0 (Int32.ofInt 0), (vk s5).2) ∧ (True) := h47
          have i49 := h47.1
          have k50 : Kp s0 s48 := Kx.tr k7 (h47.2.1)
          have u51 : vk s48 = ((kset (kb1 (Int32.ofInt 0) a1.toInt w1.toInt (vk s0).1) 0 (Int32.ofInt 0)), (vk s0).2) := (by rw [h47.2.2.1, u8])
          intro v52 e53
          have b54 := vg_add e53 (by omega) (by omega)
          exact ⟨rfl, ⟨v52, rfl, (by omega), (by omega), (by omega), i49, k50, (by first | exact vk_l u51 (kb1_0 (by omega)).symm | exact vk_l u51 (kb1_s (by omega) (by omega) (by omega) (by omega)))⟩, (by show (10000000000000000 + (7 - v52.toInt) * 1000000000000).toNat < (10000000000000000 + (7 - w1.toInt) * 1000000000000).toNat; omega)⟩
        refine And.intro (fun c55 => ?_) ?_
        · have c55 : w1.toInt = (1) := c55
          refine And.intro (Nat.le_of_ble_eq_true rfl) (And.intro ⟨43, rfl, by decide, i6⟩ ?_)
          intro s57 h56
          have h56 : Iv s57 ∧ Kp s5 s57 ∧ vk s57 = (kset (vk s5).1 1 (Int32.ofInt 0), (vk s5).2) ∧ (True) := h56
          have i58 := h56.1
          have k59 : Kp s0 s57 := Kx.tr k7 (h56.2.1)
          have u60 : vk s57 = ((kset (kb1 (Int32.ofInt 0) a1.toInt w1.toInt (vk s0).1) 1 (Int32.ofInt 0)), (vk s0).2) := (by rw [h56.2.2.1, u8])
          intro v61 e62
          have b63 := vg_add e62 (by omega) (by omega)
          exact ⟨rfl, ⟨v61, rfl, (by omega), (by omega), (by omega), i58, k59, (by first | exact vk_l u60 (kb1_0 (by omega)).symm | exact vk_l u60 (kb1_s (by omega) (by omega) (by omega) (by omega)))⟩, (by show (10000000000000000 + (7 - v61.toInt) * 1000000000000).toNat < (10000000000000000 + (7 - w1.toInt) * 1000000000000).toNat; omega)⟩
        refine And.intro (fun c64 => ?_) ?_
        · have c64 : w1.toInt = (2) := c64
          refine And.intro (Nat.le_of_ble_eq_true rfl) (And.intro ⟨45, rfl, by decide, i6⟩ ?_)
          intro s66 h65
          have h65 : Iv s66 ∧ Kp s5 s66 ∧ vk s66 = (kset (vk s5).1 2 (Int32.ofInt 0), (vk s5).2) ∧ (True) := h65
          have i67 := h65.1
          have k68 : Kp s0 s66 := Kx.tr k7 (h65.2.1)
          have u69 : vk s66 = ((kset (kb1 (Int32.ofInt 0) a1.toInt w1.toInt (vk s0).1) 2 (Int32.ofInt 0)), (vk s0).2) := (by rw [h65.2.2.1, u8])
          intro v70 e71
          have b72 := vg_add e71 (by omega) (by omega)
          exact ⟨rfl, ⟨v70, rfl, (by omega), (by omega), (by omega), i67, k68, (by first | exact vk_l u69 (kb1_0 (by omega)).symm | exact vk_l u69 (kb1_s (by omega) (by omega) (by omega) (by omega)))⟩, (by show (10000000000000000 + (7 - v70.toInt) * 1000000000000).toNat < (10000000000000000 + (7 - w1.toInt) * 1000000000000).toNat; omega)⟩
        refine And.intro (fun c73 => ?_) ?_
        · have c73 : w1.toInt = (3) := c73
          refine And.intro (Nat.le_of_ble_eq_true rfl) (And.intro ⟨47, rfl, by decide, i6⟩ ?_)
          intro s75 h74
          have h74 : Iv s75 ∧ Kp s5 s75 ∧ vk s75 = (kset (vk s5).1 3 (Int32.ofInt 0), (vk s5).2) ∧ (True) := h74
          have i76 := h74.1
          have k77 : Kp s0 s75 := Kx.tr k7 (h74.2.1)
          have u78 : vk s75 = ((kset (kb1 (Int32.ofInt 0) a1.toInt w1.toInt (vk s0).1) 3 (Int32.ofInt 0)), (vk s0).2) := (by rw [h74.2.2.1, u8])
          intro v79 e80
          have b81 := vg_add e80 (by omega) (by omega)
          exact ⟨rfl, ⟨v79, rfl, (by omega), (by omega), (by omega), i76, k77, (by first | exact vk_l u78 (kb1_0 (by omega)).symm | exact vk_l u78 (kb1_s (by omega) (by omega) (by omega) (by omega)))⟩, (by show (10000000000000000 + (7 - v79.toInt) * 1000000000000).toNat < (10000000000000000 + (7 - w1.toInt) * 1000000000000).toNat; omega)⟩
        refine And.intro (fun c82 => ?_) ?_
        · have c82 : w1.toInt = (4) := c82
          refine And.intro (Nat.le_of_ble_eq_true rfl) (And.intro ⟨49, rfl, by decide, i6⟩ ?_)
          intro s84 h83
          have h83 : Iv s84 ∧ Kp s5 s84 ∧ vk s84 = (kset (vk s5).1 4 (Int32.ofInt 0), (vk s5).2) ∧ (True) := h83
          have i85 := h83.1
          have k86 : Kp s0 s84 := Kx.tr k7 (h83.2.1)
          have u87 : vk s84 = ((kset (kb1 (Int32.ofInt 0) a1.toInt w1.toInt (vk s0).1) 4 (Int32.ofInt 0)), (vk s0).2) := (by rw [h83.2.2.1, u8])
          intro v88 e89
          have b90 := vg_add e89 (by omega) (by omega)
          exact ⟨rfl, ⟨v88, rfl, (by omega), (by omega), (by omega), i85, k86, (by first | exact vk_l u87 (kb1_0 (by omega)).symm | exact vk_l u87 (kb1_s (by omega) (by omega) (by omega) (by omega)))⟩, (by show (10000000000000000 + (7 - v88.toInt) * 1000000000000).toNat < (10000000000000000 + (7 - w1.toInt) * 1000000000000).toNat; omega)⟩
        refine And.intro (fun c91 => ?_) ?_
        · have c91 : w1.toInt = (5) := c91
          refine And.intro (Nat.le_of_ble_eq_true rfl) (And.intro ⟨51, rfl, by decide, i6⟩ ?_)
          intro s93 h92
          have h92 : Iv s93 ∧ Kp s5 s93 ∧ vk s93 = (kset (vk s5).1 5 (Int32.ofInt 0), (vk s5).2) ∧ (True) := h92
          have i94 := h92.1
          have k95 : Kp s0 s93 := Kx.tr k7 (h92.2.1)
          have u96 : vk s93 = ((kset (kb1 (Int32.ofInt 0) a1.toInt w1.toInt (vk s0).1) 5 (Int32.ofInt 0)), (vk s0).2) := (by rw [h92.2.2.1, u8])
          intro v97 e98
          have b99 := vg_add e98 (by omega) (by omega)
          exact ⟨rfl, ⟨v97, rfl, (by omega), (by omega), (by omega), i94, k95, (by first | exact vk_l u96 (kb1_0 (by omega)).symm | exact vk_l u96 (kb1_s (by omega) (by omega) (by omega) (by omega)))⟩, (by show (10000000000000000 + (7 - v97.toInt) * 1000000000000).toNat < (10000000000000000 + (7 - w1.toInt) * 1000000000000).toNat; omega)⟩
        refine And.intro (fun c100 => ?_) ?_
        · have c100 : w1.toInt = (6) := c100
          refine And.intro (Nat.le_of_ble_eq_true rfl) (And.intro ⟨53, rfl, by decide, i6⟩ ?_)
          intro s102 h101
          have h101 : Iv s102 ∧ Kp s5 s102 ∧ vk s102 = (kset (vk s5).1 6 (Int32.ofInt 0), (vk s5).2) ∧ (True) := h101
          have i103 := h101.1
          have k104 : Kp s0 s102 := Kx.tr k7 (h101.2.1)
          have u105 : vk s102 = ((kset (kb1 (Int32.ofInt 0) a1.toInt w1.toInt (vk s0).1) 6 (Int32.ofInt 0)), (vk s0).2) := (by rw [h101.2.2.1, u8])
          intro v106 e107
          have b108 := vg_add e107 (by omega) (by omega)
          exact ⟨rfl, ⟨v106, rfl, (by omega), (by omega), (by omega), i103, k104, (by first | exact vk_l u105 (kb1_0 (by omega)).symm | exact vk_l u105 (kb1_s (by omega) (by omega) (by omega) (by omega)))⟩, (by show (10000000000000000 + (7 - v106.toInt) * 1000000000000).toNat < (10000000000000000 + (7 - w1.toInt) * 1000000000000).toNat; omega)⟩
        exact trivial
    ·
      intro L s112 hL
      obtain ⟨w109, rfl, b110, b111, i113, k114, u115⟩ := hL
      refine And.intro (fun c116 => ?_) (fun c116 => ?_)
      · have c116 : (Int32.ofInt 3).toInt ≤ w109.toInt := c116
        show Iv s112 ∧ Kp s0 s112 ∧ vk s112 = (kb2 (Int32.ofInt 0) a1.toInt 3 (vk s0).1, (vk s0).2) ∧ (True)
        exact ⟨i113, k114, vk_l u115 (kb2_e (by omega)), (trivial)⟩
      · have c116 : ¬ ((Int32.ofInt 3).toInt ≤ w109.toInt) := c116
        intro v117 e118
        have b119 := vg_add e118 (by omega) (by omega)
        refine And.intro (fun c120 => ?_) (fun c120 => ?_)
        · have c120 : v117.toInt < a1.toInt := c120
          intro v121 e122
          have b123 := vg_add e122 (by omega) (by omega)
          exact ⟨rfl, ⟨v121, rfl, (by omega), (by omega), i113, k114, (by first | exact vk_l u115 (kb2_0c (by omega) (by omega) (by omega)) | exact vk_l u115 (kb2_0b (by omega) (by omega) (by omega)) | exact vk_l u115 (kb2_s (by omega) (by omega) (by omega) (by omega)) | exact vk_l u115 (kb2_n (by omega) (by omega)))⟩, (by show (0 + (3 - v121.toInt) * 1000000000000).toNat < (0 + (3 - w109.toInt) * 1000000000000).toNat; omega)⟩
        · have c120 : ¬ (v117.toInt < a1.toInt) := c120
          refine And.intro rfl (And.intro ⟨by omega, by omega⟩ ?_)
          refine And.intro (fun c124 => ?_) ?_
          · have c124 : w109.toInt = (0) := c124
            refine And.intro (Nat.le_of_ble_eq_true rfl) (And.intro ⟨35, rfl, by decide, i113⟩ ?_)
            intro s126 h125
            have h125 : Iv s126 ∧ Kp s112 s126 ∧ vk s126 = (kset (vk s112).1 8 (Int32.ofInt 0), (vk s112).2) ∧ (True) := h125
            have i127 := h125.1
            have k128 : Kp s0 s126 := Kx.tr k114 (h125.2.1)
            have u129 : vk s126 = ((kset (kb2 (Int32.ofInt 0) a1.toInt w109.toInt (vk s0).1) 8 (Int32.ofInt 0)), (vk s0).2) := (by rw [h125.2.2.1, u115])
            intro v130 e131
            have b132 := vg_add e131 (by omega) (by omega)
            exact ⟨rfl, ⟨v130, rfl, (by omega), (by omega), i127, k128, (by first | exact vk_l u129 (kb2_0c (by omega) (by omega) (by omega)) | exact vk_l u129 (kb2_0b (by omega) (by omega) (by omega)) | exact vk_l u129 (kb2_s (by omega) (by omega) (by omega) (by omega)) | exact vk_l u129 (kb2_n (by omega) (by omega)))⟩, (by show (0 + (3 - v130.toInt) * 1000000000000).toNat < (0 + (3 - w109.toInt) * 1000000000000).toNat; omega)⟩
          refine And.intro (fun c133 => ?_) ?_
          · have c133 : w109.toInt = (1) := c133
            refine And.intro (Nat.le_of_ble_eq_true rfl) (And.intro ⟨37, rfl, by decide, i113⟩ ?_)
            intro s135 h134
            have h134 : Iv s135 ∧ Kp s112 s135 ∧ vk s135 = (kset (vk s112).1 9 (Int32.ofInt 0), (vk s112).2) ∧ (True) := h134
            have i136 := h134.1
            have k137 : Kp s0 s135 := Kx.tr k114 (h134.2.1)
            have u138 : vk s135 = ((kset (kb2 (Int32.ofInt 0) a1.toInt w109.toInt (vk s0).1) 9 (Int32.ofInt 0)), (vk s0).2) := (by rw [h134.2.2.1, u115])
            intro v139 e140
            have b141 := vg_add e140 (by omega) (by omega)
            exact ⟨rfl, ⟨v139, rfl, (by omega), (by omega), i136, k137, (by first | exact vk_l u138 (kb2_0c (by omega) (by omega) (by omega)) | exact vk_l u138 (kb2_0b (by omega) (by omega) (by omega)) | exact vk_l u138 (kb2_s (by omega) (by omega) (by omega) (by omega)) | exact vk_l u138 (kb2_n (by omega) (by omega)))⟩, (by show (0 + (3 - v139.toInt) * 1000000000000).toNat < (0 + (3 - w109.toInt) * 1000000000000).toNat; omega)⟩
          refine And.intro (fun c142 => ?_) ?_
          · have c142 : w109.toInt = (2) := c142
            refine And.intro (Nat.le_of_ble_eq_true rfl) (And.intro ⟨39, rfl, by decide, i113⟩ ?_)
            intro s144 h143
            have h143 : Iv s144 ∧ Kp s112 s144 ∧ vk s144 = (kset (vk s112).1 10 (Int32.ofInt 0), (vk s112).2) ∧ (True) := h143
            have i145 := h143.1
            have k146 : Kp s0 s144 := Kx.tr k114 (h143.2.1)
            have u147 : vk s144 = ((kset (kb2 (Int32.ofInt 0) a1.toInt w109.toInt (vk s0).1) 10 (Int32.ofInt 0)), (vk s0).2) := (by rw [h143.2.2.1, u115])
            intro v148 e149
            have b150 := vg_add e149 (by omega) (by omega)
            exact ⟨rfl, ⟨v148, rfl, (by omega), (by omega), i145, k146, (by first | exact vk_l u147 (kb2_0c (by omega) (by omega) (by omega)) | exact vk_l u147 (kb2_0b (by omega) (by omega) (by omega)) | exact vk_l u147 (kb2_s (by omega) (by omega) (by omega) (by omega)) | exact vk_l u147 (kb2_n (by omega) (by omega)))⟩, (by show (0 + (3 - v148.toInt) * 1000000000000).toNat < (0 + (3 - w109.toInt) * 1000000000000).toNat; omega)⟩
          exact trivial
def o_X10_source : List vg_I := [(0, .iload_n 1, 1, 0, 0, 0, 0), (1, .iconst 0, 1, 0, 0, 0, 0), (2, .iconst 3, 1, 0, 0, 0, 0), (3, .invokestatic 82, 3, 0, 1, 3, 478), (6, .ifCond .eq 29, 3, 0, 0, 0, 0), (9, .iload_n 2, 1, 0, 0, 0, 0), (10, .invokestatic 86, 3, 1, 1, 1, 481), (13, .ifCond .eq 22, 3, 0, 0, 0, 0), (16, .iload_n 3, 1, 0, 0, 0, 0), (17, .invokestatic 86, 3, 1, 1, 1, 481), (20, .ifCond .eq 15, 3, 0, 0, 0, 0), (23, .iload 4, 2, 0, 0, 0, 0), (25, .iconst 1, 1, 0, 0, 0, 0), (26, .sipush 1000, 3, 0, 0, 0, 0), (29, .invokestatic 82, 3, 0, 1, 3, 478), (32, .ifCond .ne 9, 3, 0, 0, 0, 0), (35, .aload_n 0, 1, 0, 0, 0, 0), (36, .iconst 1, 1, 0, 0, 0, 0), (37, .invokevirtual 90, 3, 2, 10, 1, 484), (40, .ireturn, 1, 0, 0, 0, 0), (41, .aload_n 0, 1, 0, 0, 0, 0), (42, .getfield 10, 3, 430, 10, 3, 0), (45, .iload_n 1, 1, 0, 0, 0, 0), (46, .putfield 94, 3, 105, 7, 0, 0), (49, .aload_n 0, 1, 0, 0, 0, 0), (50, .getfield 10, 3, 430, 10, 3, 0), (53, .iload_n 2, 1, 0, 0, 0, 0), (54, .putfield 97, 3, 107, 7, 1, 0), (57, .aload_n 0, 1, 0, 0, 0, 0), (58, .getfield 10, 3, 430, 10, 3, 0), (61, .iload_n 3, 1, 0, 0, 0, 0), (62, .putfield 100, 3, 109, 7, 2, 0), (65, .aload_n 0, 1, 0, 0, 0, 0), (66, .getfield 10, 3, 430, 10, 3, 0), (69, .iload 4, 2, 0, 0, 0, 0), (71, .putfield 103, 3, 111, 7, 3, 0), (74, .aload_n 0, 1, 0, 0, 0, 0), (75, .iconst 0, 1, 0, 0, 0, 0), (76, .invokevirtual 106, 3, 3, 10, 1, 488), (79, .aload_n 0, 1, 0, 0, 0, 0), (80, .aload_n 0, 1, 0, 0, 0, 0), (81, .getfield 110, 3, 428, 10, 1, 0), (84, .invokevirtual 113, 3, 4, 10, 1, 520), (87, .ireturn, 1, 0, 0, 0, 0)]
set_option maxRecDepth 100000 in
set_option maxHeartbeats 4000000 in
theorem c_X10_source (l : Launch) (G : vg_G) (hp : vg_Hp G) : vg_Ct l G vg_sh r_X10_source := by
  refine vg_meth hp vg_sh_ok r_X10_source k_X10_source rfl (fun h => by cases h) o_X10_source [r_X10_within, r_X10_isNumber, r_X10_refuse, r_X10_beginAnewFrom, r_X10_answer] false (by decide +kernel) (by decide +kernel) ⟨_, _, rfl, rfl⟩ (List.forall_mem_cons.mpr ⟨⟨c_X10_within l G hp, Nat.le_of_ble_eq_true rfl, Nat.le_of_ble_eq_true rfl⟩, List.forall_mem_cons.mpr ⟨⟨c_X10_isNumber l G hp, Nat.le_of_ble_eq_true rfl, Nat.le_of_ble_eq_true rfl⟩, List.forall_mem_cons.mpr ⟨⟨c_X10_refuse l G hp, Nat.le_of_ble_eq_true rfl, Nat.le_of_ble_eq_true rfl⟩, List.forall_mem_cons.mpr ⟨⟨c_X10_beginAnewFrom l G hp, Nat.le_of_ble_eq_true rfl, Nat.le_of_ble_eq_true rfl⟩, List.forall_mem_cons.mpr ⟨⟨c_X10_answer l G hp, Nat.le_of_ble_eq_true rfl, Nat.le_of_ble_eq_true rfl⟩, fun _ h => absurd h List.not_mem_nil⟩⟩⟩⟩⟩) (fun h => by cases h) 600 ?_
  intro as s0 hpre
  obtain ⟨r, a1, a2, a3, a4, rfl, hr, i0⟩ := hpre
  simp only [List.mem_cons, List.not_mem_nil, or_false] at hr
  rcases hr with rfl
  ·
    have z0 : (Int32.ofInt 0).toInt = 0 := by decide
    have z1 : (Int32.ofInt 1).toInt = 1 := by decide
    have z3 : (Int32.ofInt 3).toInt = 3 := by decide
    have z1000 : (Int32.ofInt 1000).toInt = 1000 := by decide
    refine ⟨Nat.le_of_ble_eq_true rfl, [], ?_, fun _ h => absurd h List.not_mem_nil⟩
    ·
      refine And.intro (Nat.le_of_ble_eq_true rfl) (And.intro ⟨a1, (Int32.ofInt 0), (Int32.ofInt 3), rfl, trivial⟩ ?_)
      intro v1 s3 h2
      have h2 : s3 = s0 ∧ ((v1.toInt = 1 ∧ (Int32.ofInt 0).toInt ≤ a1.toInt ∧ a1.toInt ≤ (Int32.ofInt 3).toInt) ∨ (v1.toInt = 0 ∧ (a1.toInt < (Int32.ofInt 0).toInt ∨ (Int32.ofInt 3).toInt < a1.toInt))) := h2
      have q6 := h2.1.symm
      subst q6
      have q7 := h2.2
      refine And.intro (fun c8 => ?_) (fun c8 => ?_)
      · have c8 : v1.toInt = 0 := c8
        refine And.intro (Nat.le_of_ble_eq_true rfl) (And.intro ⟨0, (Int32.ofInt 1), rfl, by decide, i0⟩ ?_)
        intro v9 s11 h10
        have h10 : Iv s11 ∧ Kp s0 s11 ∧ vk s11 = ((vk s0).1, (vk s0).2) ∧ (v9.toInt = -1) := h10
        have i12 := h10.1
        have k13 : Kp s0 s11 := Kx.tr Kx.rf (h10.2.1)
        have u14 : vk s11 = ((vk s0).1, (vk s0).2) := h10.2.2.1.trans rfl
        have q15 := h10.2.2.2
        show Iv s11 ∧ Kp s0 s11 ∧ vk s11 = (if (0 ≤ a1.toInt ∧ a1.toInt ≤ 3 ∧ -30000 ≤ a2.toInt ∧ a2.toInt ≤ 30000 ∧ -30000 ≤ a3.toInt ∧ a3.toInt ≤ 30000 ∧ 1 ≤ a4.toInt ∧ a4.toInt ≤ 1000) then kb2 (Int32.ofInt 0) 0 3 (vk s0).1 else (vk s0).1, (vk s0).2) ∧ (((0 ≤ a1.toInt ∧ a1.toInt ≤ 3 ∧ -30000 ≤ a2.toInt ∧ a2.toInt ≤ 30000 ∧ -30000 ≤ a3.toInt ∧ a3.toInt ≤ 30000 ∧ 1 ≤ a4.toInt ∧ a4.toInt ≤ 1000) ∧ v9.toInt = (s0.1 0 1).toInt) ∨ (¬ (0 ≤ a1.toInt ∧ a1.toInt ≤ 3 ∧ -30000 ≤ a2.toInt ∧ a2.toInt ≤ 30000 ∧ -30000 ≤ a3.toInt ∧ a3.toInt ≤ 30000 ∧ 1 ≤ a4.toInt ∧ a4.toInt ≤ 1000) ∧ v9.toInt = -1))
        exact ⟨i12, k13, (by first | exact vk_l u14 (by rw [if_pos (by omega), z0]) | exact vk_l u14 (by rw [if_neg (by omega)])), (by have h9 := congrArg Int32.toInt (k13.1 0 1 rfl); have h8 := congrArg Int32.toInt (h10.2.1.1 0 1 rfl); omega)⟩
      · have c8 : ¬ (v1.toInt = 0) := c8
        refine And.intro (Nat.le_of_ble_eq_true rfl) (And.intro ⟨a2, rfl, trivial⟩ ?_)
        intro v16 s18 h17
        have h17 : s18 = s0 ∧ ((v16.toInt = 1 ∧ -30000 ≤ a2.toInt ∧ a2.toInt ≤ 30000) ∨ (v16.toInt = 0 ∧ (a2.toInt < -30000 ∨ 30000 < a2.toInt))) := h17
        have q21 := h17.1.symm
        subst q21
        have q22 := h17.2
        refine And.intro (fun c23 => ?_) (fun c23 => ?_)
        · have c23 : v16.toInt = 0 := c23
          refine And.intro (Nat.le_of_ble_eq_true rfl) (And.intro ⟨0, (Int32.ofInt 1), rfl, by decide, i0⟩ ?_)
          intro v24 s26 h25
          have h25 : Iv s26 ∧ Kp s0 s26 ∧ vk s26 = ((vk s0).1, (vk s0).2) ∧ (v24.toInt = -1) := h25
          have i27 := h25.1
          have k28 : Kp s0 s26 := Kx.tr Kx.rf (h25.2.1)
          have u29 : vk s26 = ((vk s0).1, (vk s0).2) := h25.2.2.1.trans rfl
          have q30 := h25.2.2.2
          show Iv s26 ∧ Kp s0 s26 ∧ vk s26 = (if (0 ≤ a1.toInt ∧ a1.toInt ≤ 3 ∧ -30000 ≤ a2.toInt ∧ a2.toInt ≤ 30000 ∧ -30000 ≤ a3.toInt ∧ a3.toInt ≤ 30000 ∧ 1 ≤ a4.toInt ∧ a4.toInt ≤ 1000) then kb2 (Int32.ofInt 0) 0 3 (vk s0).1 else (vk s0).1, (vk s0).2) ∧ (((0 ≤ a1.toInt ∧ a1.toInt ≤ 3 ∧ -30000 ≤ a2.toInt ∧ a2.toInt ≤ 30000 ∧ -30000 ≤ a3.toInt ∧ a3.toInt ≤ 30000 ∧ 1 ≤ a4.toInt ∧ a4.toInt ≤ 1000) ∧ v24.toInt = (s0.1 0 1).toInt) ∨ (¬ (0 ≤ a1.toInt ∧ a1.toInt ≤ 3 ∧ -30000 ≤ a2.toInt ∧ a2.toInt ≤ 30000 ∧ -30000 ≤ a3.toInt ∧ a3.toInt ≤ 30000 ∧ 1 ≤ a4.toInt ∧ a4.toInt ≤ 1000) ∧ v24.toInt = -1))
          exact ⟨i27, k28, (by first | exact vk_l u29 (by rw [if_pos (by omega), z0]) | exact vk_l u29 (by rw [if_neg (by omega)])), (by have h9 := congrArg Int32.toInt (k28.1 0 1 rfl); have h8 := congrArg Int32.toInt (h25.2.1.1 0 1 rfl); omega)⟩
        · have c23 : ¬ (v16.toInt = 0) := c23
          refine And.intro (Nat.le_of_ble_eq_true rfl) (And.intro ⟨a3, rfl, trivial⟩ ?_)
          intro v31 s33 h32
          have h32 : s33 = s0 ∧ ((v31.toInt = 1 ∧ -30000 ≤ a3.toInt ∧ a3.toInt ≤ 30000) ∨ (v31.toInt = 0 ∧ (a3.toInt < -30000 ∨ 30000 < a3.toInt))) := h32
          have q36 := h32.1.symm
          subst q36
          have q37 := h32.2
          refine And.intro (fun c38 => ?_) (fun c38 => ?_)
          · have c38 : v31.toInt = 0 := c38
            refine And.intro (Nat.le_of_ble_eq_true rfl) (And.intro ⟨0, (Int32.ofInt 1), rfl, by decide, i0⟩ ?_)
            intro v39 s41 h40
            have h40 : Iv s41 ∧ Kp s0 s41 ∧ vk s41 = ((vk s0).1, (vk s0).2) ∧ (v39.toInt = -1) := h40
            have i42 := h40.1
            have k43 : Kp s0 s41 := Kx.tr Kx.rf (h40.2.1)
            have u44 : vk s41 = ((vk s0).1, (vk s0).2) := h40.2.2.1.trans rfl
            have q45 := h40.2.2.2
            show Iv s41 ∧ Kp s0 s41 ∧ vk s41 = (if (0 ≤ a1.toInt ∧ a1.toInt ≤ 3 ∧ -30000 ≤ a2.toInt ∧ a2.toInt ≤ 30000 ∧ -30000 ≤ a3.toInt ∧ a3.toInt ≤ 30000 ∧ 1 ≤ a4.toInt ∧ a4.toInt ≤ 1000) then kb2 (Int32.ofInt 0) 0 3 (vk s0).1 else (vk s0).1, (vk s0).2) ∧ (((0 ≤ a1.toInt ∧ a1.toInt ≤ 3 ∧ -30000 ≤ a2.toInt ∧ a2.toInt ≤ 30000 ∧ -30000 ≤ a3.toInt ∧ a3.toInt ≤ 30000 ∧ 1 ≤ a4.toInt ∧ a4.toInt ≤ 1000) ∧ v39.toInt = (s0.1 0 1).toInt) ∨ (¬ (0 ≤ a1.toInt ∧ a1.toInt ≤ 3 ∧ -30000 ≤ a2.toInt ∧ a2.toInt ≤ 30000 ∧ -30000 ≤ a3.toInt ∧ a3.toInt ≤ 30000 ∧ 1 ≤ a4.toInt ∧ a4.toInt ≤ 1000) ∧ v39.toInt = -1))
            exact ⟨i42, k43, (by first | exact vk_l u44 (by rw [if_pos (by omega), z0]) | exact vk_l u44 (by rw [if_neg (by omega)])), (by have h9 := congrArg Int32.toInt (k43.1 0 1 rfl); have h8 := congrArg Int32.toInt (h40.2.1.1 0 1 rfl); omega)⟩
          · have c38 : ¬ (v31.toInt = 0) := c38
            refine And.intro (Nat.le_of_ble_eq_true rfl) (And.intro ⟨a4, (Int32.ofInt 1), (Int32.ofInt 1000), rfl, trivial⟩ ?_)
            intro v46 s48 h47
            have h47 : s48 = s0 ∧ ((v46.toInt = 1 ∧ (Int32.ofInt 1).toInt ≤ a4.toInt ∧ a4.toInt ≤ (Int32.ofInt 1000).toInt) ∨ (v46.toInt = 0 ∧ (a4.toInt < (Int32.ofInt 1).toInt ∨ (Int32.ofInt 1000).toInt < a4.toInt))) := h47
            have q51 := h47.1.symm
            subst q51
            have q52 := h47.2
            refine And.intro (fun c53 => ?_) (fun c53 => ?_)
            · have c53 : ¬ v46.toInt = 0 := c53
              intro s54 e55
              have i56 : Iv s54 := Iv.u1 i0 e55 rfl
              have k57 : Kp s0 s54 := Kx.u1 Kx.rf e55 rfl
              have u58 : vk s54 = ((vk s0).1, (vk s0).2) := vk_k1 rfl e55 rfl
              intro s59 e60
              have i61 : Iv s59 := Iv.u1 i56 e60 rfl
              have k62 : Kp s0 s59 := Kx.u1 k57 e60 rfl
              have u63 : vk s59 = ((vk s0).1, (vk s0).2) := vk_k1 u58 e60 rfl
              intro s64 e65
              have i66 : Iv s64 := Iv.u1 i61 e65 rfl
              have k67 : Kp s0 s64 := Kx.u1 k62 e65 rfl
              have u68 : vk s64 = ((vk s0).1, (vk s0).2) := vk_k1 u63 e65 rfl
              intro s69 e70
              have i71 : Iv s69 := Iv.c1 (lo := 1) (hi := 1000) i66 e70 rfl (by omega) (by omega)
              have k72 : Kp s0 s69 := Kx.u1 k67 e70 rfl
              have u73 : vk s69 = ((vk s0).1, (vk s0).2) := vk_k1 u68 e70 rfl
              refine And.intro (Nat.le_of_ble_eq_true rfl) (And.intro ⟨0, (Int32.ofInt 0), rfl, by decide, i71, by omega⟩ ?_)
              intro s75 h74
              have h74 : Iv s75 ∧ Kp s69 s75 ∧ vk s75 = (kb2 (Int32.ofInt 0) (Int32.ofInt 0).toInt 3 (vk s69).1, (vk s69).2) ∧ (True) := h74
              have i76 := h74.1
              have k77 : Kp s0 s75 := Kx.tr k72 (h74.2.1)
              have u78 : vk s75 = ((kb2 (Int32.ofInt 0) (Int32.ofInt 0).toInt 3 (vk s0).1), (vk s0).2) := (by rw [h74.2.2.1, u73])
              intro v79 e80
              have g81 : s75.1 0 1 = v79 := by rw [e80]
              have b82 : v79.toInt = (s75.1 0 1).toInt := congrArg Int32.toInt e80
              refine And.intro (Nat.le_of_ble_eq_true rfl) (And.intro ⟨0, v79, rfl, by decide, i76⟩ ?_)
              intro v83 s85 h84
              have h84 : Iv s85 ∧ Kp s75 s85 ∧ vk s85 = ((vk s75).1, (vk s75).2) ∧ (v83 = v79 ∧ v83.toInt = v79.toInt) := h84
              have i86 := h84.1
              have k87 : Kp s0 s85 := Kx.tr k77 (h84.2.1)
              have u88 : vk s85 = ((kb2 (Int32.ofInt 0) (Int32.ofInt 0).toInt 3 (vk s0).1), (vk s0).2) := h84.2.2.1.trans u78
              have q89 := h84.2.2.2
              show Iv s85 ∧ Kp s0 s85 ∧ vk s85 = (if (0 ≤ a1.toInt ∧ a1.toInt ≤ 3 ∧ -30000 ≤ a2.toInt ∧ a2.toInt ≤ 30000 ∧ -30000 ≤ a3.toInt ∧ a3.toInt ≤ 30000 ∧ 1 ≤ a4.toInt ∧ a4.toInt ≤ 1000) then kb2 (Int32.ofInt 0) 0 3 (vk s0).1 else (vk s0).1, (vk s0).2) ∧ (((0 ≤ a1.toInt ∧ a1.toInt ≤ 3 ∧ -30000 ≤ a2.toInt ∧ a2.toInt ≤ 30000 ∧ -30000 ≤ a3.toInt ∧ a3.toInt ≤ 30000 ∧ 1 ≤ a4.toInt ∧ a4.toInt ≤ 1000) ∧ v83.toInt = (s0.1 0 1).toInt) ∨ (¬ (0 ≤ a1.toInt ∧ a1.toInt ≤ 3 ∧ -30000 ≤ a2.toInt ∧ a2.toInt ≤ 30000 ∧ -30000 ≤ a3.toInt ∧ a3.toInt ≤ 30000 ∧ 1 ≤ a4.toInt ∧ a4.toInt ≤ 1000) ∧ v83.toInt = -1))
              exact ⟨i86, k87, (by first | exact vk_l u88 (by rw [if_pos (by omega), z0]) | exact vk_l u88 (by rw [if_neg (by omega)])), (by have h9 := congrArg Int32.toInt (k87.1 0 1 rfl); have h8 := congrArg Int32.toInt (h84.2.1.1 0 1 rfl); omega)⟩
            · have c53 : ¬ (¬ v46.toInt = 0) := c53
              refine And.intro (Nat.le_of_ble_eq_true rfl) (And.intro ⟨0, (Int32.ofInt 1), rfl, by decide, i0⟩ ?_)
              intro v90 s92 h91
              have h91 : Iv s92 ∧ Kp s0 s92 ∧ vk s92 = ((vk s0).1, (vk s0).2) ∧ (v90.toInt = -1) := h91
              have i93 := h91.1
              have k94 : Kp s0 s92 := Kx.tr Kx.rf (h91.2.1)
              have u95 : vk s92 = ((vk s0).1, (vk s0).2) := h91.2.2.1.trans rfl
              have q96 := h91.2.2.2
              show Iv s92 ∧ Kp s0 s92 ∧ vk s92 = (if (0 ≤ a1.toInt ∧ a1.toInt ≤ 3 ∧ -30000 ≤ a2.toInt ∧ a2.toInt ≤ 30000 ∧ -30000 ≤ a3.toInt ∧ a3.toInt ≤ 30000 ∧ 1 ≤ a4.toInt ∧ a4.toInt ≤ 1000) then kb2 (Int32.ofInt 0) 0 3 (vk s0).1 else (vk s0).1, (vk s0).2) ∧ (((0 ≤ a1.toInt ∧ a1.toInt ≤ 3 ∧ -30000 ≤ a2.toInt ∧ a2.toInt ≤ 30000 ∧ -30000 ≤ a3.toInt ∧ a3.toInt ≤ 30000 ∧ 1 ≤ a4.toInt ∧ a4.toInt ≤ 1000) ∧ v90.toInt = (s0.1 0 1).toInt) ∨ (¬ (0 ≤ a1.toInt ∧ a1.toInt ≤ 3 ∧ -30000 ≤ a2.toInt ∧ a2.toInt ≤ 30000 ∧ -30000 ≤ a3.toInt ∧ a3.toInt ≤ 30000 ∧ 1 ≤ a4.toInt ∧ a4.toInt ≤ 1000) ∧ v90.toInt = -1))
              exact ⟨i93, k94, (by first | exact vk_l u95 (by rw [if_pos (by omega), z0]) | exact vk_l u95 (by rw [if_neg (by omega)])), (by have h9 := congrArg Int32.toInt (k94.1 0 1 rfl); have h8 := congrArg Int32.toInt (h91.2.1.1 0 1 rfl); omega)⟩
def o_X10_sample : List vg_I := [(0, .iload_n 1, 1, 0, 0, 0, 0), (1, .iconst 0, 1, 0, 0, 0, 0), (2, .bipush 15, 2, 0, 0, 0, 0), (4, .invokestatic 82, 3, 0, 1, 3, 478), (7, .ifCond .ne 9, 3, 0, 0, 0, 0), (10, .aload_n 0, 1, 0, 0, 0, 0), (11, .iconst 1, 1, 0, 0, 0, 0), (12, .invokevirtual 90, 3, 1, 10, 1, 484), (15, .ireturn, 1, 0, 0, 0, 0), (16, .aload_n 0, 1, 0, 0, 0, 0), (17, .getfield 10, 3, 430, 10, 3, 0), (20, .getfield 116, 3, 113, 7, 4, 0), (23, .iload_n 1, 1, 0, 0, 0, 0), (24, .iaload, 1, 0, 0, 0, 0), (25, .istore_n 3, 1, 0, 0, 0, 0), (26, .aload_n 0, 1, 0, 0, 0, 0), (27, .getfield 10, 3, 430, 10, 3, 0), (30, .getfield 116, 3, 113, 7, 4, 0), (33, .iload_n 1, 1, 0, 0, 0, 0), (34, .iload_n 2, 1, 0, 0, 0, 0), (35, .iastore, 1, 0, 0, 0, 0), (36, .aload_n 0, 1, 0, 0, 0, 0), (37, .iload_n 3, 1, 0, 0, 0, 0), (38, .invokevirtual 113, 3, 2, 10, 1, 520), (41, .ireturn, 1, 0, 0, 0, 0)]
set_option maxRecDepth 100000 in
set_option maxHeartbeats 4000000 in
theorem c_X10_sample (l : Launch) (G : vg_G) (hp : vg_Hp G) : vg_Ct l G vg_sh r_X10_sample := by
  refine vg_meth hp vg_sh_ok r_X10_sample k_X10_sample rfl (fun h => by cases h) o_X10_sample [r_X10_within, r_X10_refuse, r_X10_answer] false (by decide +kernel) (by decide +kernel) ⟨_, _, rfl, rfl⟩ (List.forall_mem_cons.mpr ⟨⟨c_X10_within l G hp, Nat.le_of_ble_eq_true rfl, Nat.le_of_ble_eq_true rfl⟩, List.forall_mem_cons.mpr ⟨⟨c_X10_refuse l G hp, Nat.le_of_ble_eq_true rfl, Nat.le_of_ble_eq_true rfl⟩, List.forall_mem_cons.mpr ⟨⟨c_X10_answer l G hp, Nat.le_of_ble_eq_true rfl, Nat.le_of_ble_eq_true rfl⟩, fun _ h => absurd h List.not_mem_nil⟩⟩⟩) (fun h => by cases h) 600 ?_
  intro as s0 hpre
  obtain ⟨r, a1, a2, rfl, hr, i0⟩ := hpre
  simp only [List.mem_cons, List.not_mem_nil, or_false] at hr
  rcases hr with rfl
  ·
    have z0 : (Int32.ofInt 0).toInt = 0 := by decide
    have z1 : (Int32.ofInt 1).toInt = 1 := by decide
    have z15 : (Int32.ofInt 15).toInt = 15 := by decide
    refine ⟨Nat.le_of_ble_eq_true rfl, [], ?_, fun _ h => absurd h List.not_mem_nil⟩
    ·
      refine And.intro (Nat.le_of_ble_eq_true rfl) (And.intro ⟨a1, (Int32.ofInt 0), (Int32.ofInt 15), rfl, trivial⟩ ?_)
      intro v1 s3 h2
      have h2 : s3 = s0 ∧ ((v1.toInt = 1 ∧ (Int32.ofInt 0).toInt ≤ a1.toInt ∧ a1.toInt ≤ (Int32.ofInt 15).toInt) ∨ (v1.toInt = 0 ∧ (a1.toInt < (Int32.ofInt 0).toInt ∨ (Int32.ofInt 15).toInt < a1.toInt))) := h2
      have q6 := h2.1.symm
      subst q6
      have q7 := h2.2
      refine And.intro (fun c8 => ?_) (fun c8 => ?_)
      · have c8 : ¬ v1.toInt = 0 := c8
        refine And.intro ⟨by omega, by omega⟩ ?_
        intro v9 e10
        refine And.intro ⟨by omega, by omega⟩ ?_
        intro s11 e12
        have i13 : Iv s11 := Iv.a1 i0 e12 rfl
        have k14 : Kp s0 s11 := Kx.u1 Kx.rf e12 rfl
        have u15 : vk s11 = ((vk s0).1, (vk s0).2) := vk_k1 rfl e12 rfl
        refine And.intro (Nat.le_of_ble_eq_true rfl) (And.intro ⟨0, v9, rfl, by decide, i13⟩ ?_)
        intro v16 s18 h17
        have h17 : Iv s18 ∧ Kp s11 s18 ∧ vk s18 = ((vk s11).1, (vk s11).2) ∧ (v16 = v9 ∧ v16.toInt = v9.toInt) := h17
        have i19 := h17.1
        have k20 : Kp s0 s18 := Kx.tr k14 (h17.2.1)
        have u21 : vk s18 = ((vk s0).1, (vk s0).2) := h17.2.2.1.trans u15
        have q22 := h17.2.2.2
        show Iv s18 ∧ Kp s0 s18 ∧ vk s18 = ((vk s0).1, (vk s0).2) ∧ (True)
        exact ⟨i19, k20, u21, (trivial)⟩
      · have c8 : ¬ (¬ v1.toInt = 0) := c8
        refine And.intro (Nat.le_of_ble_eq_true rfl) (And.intro ⟨0, (Int32.ofInt 1), rfl, by decide, i0⟩ ?_)
        intro v23 s25 h24
        have h24 : Iv s25 ∧ Kp s0 s25 ∧ vk s25 = ((vk s0).1, (vk s0).2) ∧ (v23.toInt = -1) := h24
        have i26 := h24.1
        have k27 : Kp s0 s25 := Kx.tr Kx.rf (h24.2.1)
        have u28 : vk s25 = ((vk s0).1, (vk s0).2) := h24.2.2.1.trans rfl
        have q29 := h24.2.2.2
        show Iv s25 ∧ Kp s0 s25 ∧ vk s25 = ((vk s0).1, (vk s0).2) ∧ (True)
        exact ⟨i26, k27, u28, (trivial)⟩
def o_X10_loop : List vg_I := [(0, .iload_n 1, 1, 0, 0, 0, 0), (1, .iconst 0, 1, 0, 0, 0, 0), (2, .iconst 2, 1, 0, 0, 0, 0), (3, .invokestatic 82, 3, 0, 1, 3, 478), (6, .ifCond .eq 45, 3, 0, 0, 0, 0), (9, .iload_n 2, 1, 0, 0, 0, 0), (10, .iconst 1, 1, 0, 0, 0, 0), (11, .iconst 4, 1, 0, 0, 0, 0), (12, .invokestatic 82, 3, 0, 1, 3, 478), (15, .ifCond .eq 36, 3, 0, 0, 0, 0), (18, .iload_n 3, 1, 0, 0, 0, 0), (19, .iconst 1, 1, 0, 0, 0, 0), (20, .sipush 5000, 3, 0, 0, 0, 0), (23, .invokestatic 82, 3, 0, 1, 3, 478), (26, .ifCond .eq 25, 3, 0, 0, 0, 0), (29, .iload 4, 2, 0, 0, 0, 0), (31, .iconst 2, 1, 0, 0, 0, 0), (32, .bipush 17, 2, 0, 0, 0, 0), (34, .invokestatic 82, 3, 0, 1, 3, 478), (37, .ifCond .eq 14, 3, 0, 0, 0, 0), (40, .iload 5, 2, 0, 0, 0, 0), (42, .iconst 1, 1, 0, 0, 0, 0), (43, .ldc 122, 2, 532, 0, 0, 60000), (45, .invokestatic 82, 3, 0, 1, 3, 478), (48, .ifCond .ne 9, 3, 0, 0, 0, 0), (51, .aload_n 0, 1, 0, 0, 0, 0), (52, .iconst 1, 1, 0, 0, 0, 0), (53, .invokevirtual 90, 3, 1, 10, 1, 484), (56, .ireturn, 1, 0, 0, 0, 0), (57, .iload_n 1, 1, 0, 0, 0, 0), (58, .iload_n 2, 1, 0, 0, 0, 0), (59, .iload 4, 2, 0, 0, 0, 0), (61, .invokestatic 123, 3, 2, 1, 3, 533), (64, .bipush 16, 2, 0, 0, 0, 0), (66, .if_icmp .le 9, 3, 0, 0, 0, 0), (69, .aload_n 0, 1, 0, 0, 0, 0), (70, .iconst 1, 1, 0, 0, 0, 0), (71, .invokevirtual 90, 3, 1, 10, 1, 484), (74, .ireturn, 1, 0, 0, 0, 0), (75, .aload_n 0, 1, 0, 0, 0, 0), (76, .getfield 19, 3, 431, 10, 4, 0), (79, .getfield 127, 3, 179, 5, 0, 0), (82, .astore 7, 2, 0, 0, 0, 0), (84, .aload 7, 2, 0, 0, 0, 0), (86, .iload_n 1, 1, 0, 0, 0, 0), (87, .putfield 131, 3, 140, 6, 0, 0), (90, .aload 7, 2, 0, 0, 0, 0), (92, .iload_n 2, 1, 0, 0, 0, 0), (93, .putfield 132, 3, 143, 6, 1, 0), (96, .aload 7, 2, 0, 0, 0, 0), (98, .iload_n 3, 1, 0, 0, 0, 0), (99, .putfield 135, 3, 146, 6, 2, 0), (102, .aload 7, 2, 0, 0, 0, 0), (104, .iload 4, 2, 0, 0, 0, 0), (106, .putfield 138, 3, 148, 6, 3, 0), (109, .aload 7, 2, 0, 0, 0, 0), (111, .iload 5, 2, 0, 0, 0, 0), (113, .putfield 141, 3, 150, 6, 4, 0), (116, .aload 7, 2, 0, 0, 0, 0), (118, .iload 6, 2, 0, 0, 0, 0), (120, .putfield 144, 3, 153, 6, 5, 1), (123, .aload_n 0, 1, 0, 0, 0, 0), (124, .getfield 26, 3, 432, 10, 5, 0), (127, .iload_n 1, 1, 0, 0, 0, 0), (128, .iload_n 2, 1, 0, 0, 0, 0), (129, .iload 4, 2, 0, 0, 0, 0), (131, .invokestatic 123, 3, 2, 1, 3, 533), (134, .putfield 148, 3, 240, 2, 0, 0), (137, .aload_n 0, 1, 0, 0, 0, 0), (138, .getfield 59, 3, 437, 10, 10, 0), (141, .invokevirtual 151, 3, 3, 0, 0, 536), (144, .aload_n 0, 1, 0, 0, 0, 0), (145, .iconst 1, 1, 0, 0, 0, 0), (146, .invokevirtual 106, 3, 4, 10, 1, 488), (149, .aload_n 0, 1, 0, 0, 0, 0), (150, .aload_n 0, 1, 0, 0, 0, 0), (151, .getfield 26, 3, 432, 10, 5, 0), (154, .getfield 148, 3, 240, 2, 0, 0), (157, .invokevirtual 113, 3, 5, 10, 1, 520), (160, .ireturn, 1, 0, 0, 0, 0)]
set_option maxRecDepth 100000 in
set_option maxHeartbeats 4000000 in
theorem c_X10_loop (l : Launch) (G : vg_G) (hp : vg_Hp G) : vg_Ct l G vg_sh r_X10_loop := by
  refine vg_meth hp vg_sh_ok r_X10_loop k_X10_loop rfl (fun h => by cases h) o_X10_loop [r_X10_within, r_X10_refuse, r_X6_elementsOf, r_X0_forget, r_X10_beginAnewFrom, r_X10_answer] false (by decide +kernel) (by decide +kernel) ⟨_, _, rfl, rfl⟩ (List.forall_mem_cons.mpr ⟨⟨c_X10_within l G hp, Nat.le_of_ble_eq_true rfl, Nat.le_of_ble_eq_true rfl⟩, List.forall_mem_cons.mpr ⟨⟨c_X10_refuse l G hp, Nat.le_of_ble_eq_true rfl, Nat.le_of_ble_eq_true rfl⟩, List.forall_mem_cons.mpr ⟨⟨c_X6_elementsOf l G hp, Nat.le_of_ble_eq_true rfl, Nat.le_of_ble_eq_true rfl⟩, List.forall_mem_cons.mpr ⟨⟨c_X0_forget l G hp, Nat.le_of_ble_eq_true rfl, Nat.le_of_ble_eq_true rfl⟩, List.forall_mem_cons.mpr ⟨⟨c_X10_beginAnewFrom l G hp, Nat.le_of_ble_eq_true rfl, Nat.le_of_ble_eq_true rfl⟩, List.forall_mem_cons.mpr ⟨⟨c_X10_answer l G hp, Nat.le_of_ble_eq_true rfl, Nat.le_of_ble_eq_true rfl⟩, fun _ h => absurd h List.not_mem_nil⟩⟩⟩⟩⟩⟩) (fun h => by cases h) 600 ?_
  intro as s0 hpre
  obtain ⟨r, a1, a2, a3, a4, a5, a6, rfl, hr, i0, p0⟩ := hpre
  simp only [List.mem_cons, List.not_mem_nil, or_false] at hr
  rcases hr with rfl
  ·
    have z0 : (Int32.ofInt 0).toInt = 0 := by decide
    have z1 : (Int32.ofInt 1).toInt = 1 := by decide
    have z2 : (Int32.ofInt 2).toInt = 2 := by decide
    have z4 : (Int32.ofInt 4).toInt = 4 := by decide
    have z16 : (Int32.ofInt 16).toInt = 16 := by decide
    have z17 : (Int32.ofInt 17).toInt = 17 := by decide
    have z5000 : (Int32.ofInt 5000).toInt = 5000 := by decide
    have z60000 : (Int32.ofInt 60000).toInt = 60000 := by decide
    refine ⟨Nat.le_of_ble_eq_true rfl, [], ?_, fun _ h => absurd h List.not_mem_nil⟩
    ·
      refine And.intro (Nat.le_of_ble_eq_true rfl) (And.intro ⟨a1, (Int32.ofInt 0), (Int32.ofInt 2), rfl, trivial⟩ ?_)
      intro v1 s3 h2
      have h2 : s3 = s0 ∧ ((v1.toInt = 1 ∧ (Int32.ofInt 0).toInt ≤ a1.toInt ∧ a1.toInt ≤ (Int32.ofInt 2).toInt) ∨ (v1.toInt = 0 ∧ (a1.toInt < (Int32.ofInt 0).toInt ∨ (Int32.ofInt 2).toInt < a1.toInt))) := h2
      have q6 := h2.1.symm
      subst q6
      have q7 := h2.2
      refine And.intro (fun c8 => ?_) (fun c8 => ?_)
      · have c8 : v1.toInt = 0 := c8
        refine And.intro (Nat.le_of_ble_eq_true rfl) (And.intro ⟨0, (Int32.ofInt 1), rfl, by decide, i0⟩ ?_)
        intro v9 s11 h10
        have h10 : Iv s11 ∧ Kp s0 s11 ∧ vk s11 = ((vk s0).1, (vk s0).2) ∧ (v9.toInt = -1) := h10
        have i12 := h10.1
        have k13 : K_X10_loop s0 s11 := Kx.tr Kx.rf ((h10.2.1).px)
        have u14 : vk s11 = ((vk s0).1, (vk s0).2) := h10.2.2.1.trans rfl
        have q15 := h10.2.2.2
        show Iv s11 ∧ K_X10_loop s0 s11 ∧ vk s11 = (if (0 ≤ a1.toInt ∧ a1.toInt ≤ 2 ∧ 1 ≤ a2.toInt ∧ a2.toInt ≤ 4 ∧ 1 ≤ a3.toInt ∧ a3.toInt ≤ 5000 ∧ 2 ≤ a4.toInt ∧ a4.toInt ≤ 17 ∧ 1 ≤ a5.toInt ∧ a5.toInt ≤ 60000 ∧ (vg_eo a1 a2 a4).toInt ≤ 16) then kb2 (Int32.ofInt 0) 1 3 (vk s0).1 else (vk s0).1, (vk s0).2) ∧ (((0 ≤ a1.toInt ∧ a1.toInt ≤ 2 ∧ 1 ≤ a2.toInt ∧ a2.toInt ≤ 4 ∧ 1 ≤ a3.toInt ∧ a3.toInt ≤ 5000 ∧ 2 ≤ a4.toInt ∧ a4.toInt ≤ 17 ∧ 1 ≤ a5.toInt ∧ a5.toInt ≤ 60000 ∧ (vg_eo a1 a2 a4).toInt ≤ 16) ∧ v9.toInt = (vg_eo a1 a2 a4).toInt ∧ (s11.1 7 0).toInt = (vg_eo a1 a2 a4).toInt ∧ (s11.1 20 1).toInt = 0) ∨ (¬ (0 ≤ a1.toInt ∧ a1.toInt ≤ 2 ∧ 1 ≤ a2.toInt ∧ a2.toInt ≤ 4 ∧ 1 ≤ a3.toInt ∧ a3.toInt ≤ 5000 ∧ 2 ≤ a4.toInt ∧ a4.toInt ≤ 17 ∧ 1 ≤ a5.toInt ∧ a5.toInt ≤ 60000 ∧ (vg_eo a1 a2 a4).toInt ≤ 16) ∧ v9.toInt = -1 ∧ (s11.1 7 0).toInt = (s0.1 7 0).toInt ∧ (s11.1 20 1).toInt = (s0.1 20 1).toInt))
        exact ⟨i12, k13, (by first | exact vk_l u14 (by rw [if_pos (by omega), z1]) | exact vk_l u14 (by rw [if_neg (by omega)])), (by first | exact Or.inl ⟨by omega, by omega, by rw [none]; omega, None⟩ | exact Or.inr ⟨by omega, by omega, congrArg Int32.toInt (h10.2.1.1 7 0 rfl), congrArg Int32.toInt (h10.2.1.1 20 1 rfl)⟩)⟩
      · have c8 : ¬ (v1.toInt = 0) := c8
        refine And.intro (Nat.le_of_ble_eq_true rfl) (And.intro ⟨a2, (Int32.ofInt 1), (Int32.ofInt 4), rfl, trivial⟩ ?_)
        intro v16 s18 h17
        have h17 : s18 = s0 ∧ ((v16.toInt = 1 ∧ (Int32.ofInt 1).toInt ≤ a2.toInt ∧ a2.toInt ≤ (Int32.ofInt 4).toInt) ∨ (v16.toInt = 0 ∧ (a2.toInt < (Int32.ofInt 1).toInt ∨ (Int32.ofInt 4).toInt < a2.toInt))) := h17
        have q21 := h17.1.symm
        subst q21
        have q22 := h17.2
        refine And.intro (fun c23 => ?_) (fun c23 => ?_)
        · have c23 : v16.toInt = 0 := c23
          refine And.intro (Nat.le_of_ble_eq_true rfl) (And.intro ⟨0, (Int32.ofInt 1), rfl, by decide, i0⟩ ?_)
          intro v24 s26 h25
          have h25 : Iv s26 ∧ Kp s0 s26 ∧ vk s26 = ((vk s0).1, (vk s0).2) ∧ (v24.toInt = -1) := h25
          have i27 := h25.1
          have k28 : K_X10_loop s0 s26 := Kx.tr Kx.rf ((h25.2.1).px)
          have u29 : vk s26 = ((vk s0).1, (vk s0).2) := h25.2.2.1.trans rfl
          have q30 := h25.2.2.2
          show Iv s26 ∧ K_X10_loop s0 s26 ∧ vk s26 = (if (0 ≤ a1.toInt ∧ a1.toInt ≤ 2 ∧ 1 ≤ a2.toInt ∧ a2.toInt ≤ 4 ∧ 1 ≤ a3.toInt ∧ a3.toInt ≤ 5000 ∧ 2 ≤ a4.toInt ∧ a4.toInt ≤ 17 ∧ 1 ≤ a5.toInt ∧ a5.toInt ≤ 60000 ∧ (vg_eo a1 a2 a4).toInt ≤ 16) then kb2 (Int32.ofInt 0) 1 3 (vk s0).1 else (vk s0).1, (vk s0).2) ∧ (((0 ≤ a1.toInt ∧ a1.toInt ≤ 2 ∧ 1 ≤ a2.toInt ∧ a2.toInt ≤ 4 ∧ 1 ≤ a3.toInt ∧ a3.toInt ≤ 5000 ∧ 2 ≤ a4.toInt ∧ a4.toInt ≤ 17 ∧ 1 ≤ a5.toInt ∧ a5.toInt ≤ 60000 ∧ (vg_eo a1 a2 a4).toInt ≤ 16) ∧ v24.toInt = (vg_eo a1 a2 a4).toInt ∧ (s26.1 7 0).toInt = (vg_eo a1 a2 a4).toInt ∧ (s26.1 20 1).toInt = 0) ∨ (¬ (0 ≤ a1.toInt ∧ a1.toInt ≤ 2 ∧ 1 ≤ a2.toInt ∧ a2.toInt ≤ 4 ∧ 1 ≤ a3.toInt ∧ a3.toInt ≤ 5000 ∧ 2 ≤ a4.toInt ∧ a4.toInt ≤ 17 ∧ 1 ≤ a5.toInt ∧ a5.toInt ≤ 60000 ∧ (vg_eo a1 a2 a4).toInt ≤ 16) ∧ v24.toInt = -1 ∧ (s26.1 7 0).toInt = (s0.1 7 0).toInt ∧ (s26.1 20 1).toInt = (s0.1 20 1).toInt))
          exact ⟨i27, k28, (by first | exact vk_l u29 (by rw [if_pos (by omega), z1]) | exact vk_l u29 (by rw [if_neg (by omega)])), (by first | exact Or.inl ⟨by omega, by omega, by rw [none]; omega, None⟩ | exact Or.inr ⟨by omega, by omega, congrArg Int32.toInt (h25.2.1.1 7 0 rfl), congrArg Int32.toInt (h25.2.1.1 20 1 rfl)⟩)⟩
        · have c23 : ¬ (v16.toInt = 0) := c23
          refine And.intro (Nat.le_of_ble_eq_true rfl) (And.intro ⟨a3, (Int32.ofInt 1), (Int32.ofInt 5000), rfl, trivial⟩ ?_)
          intro v31 s33 h32
          have h32 : s33 = s0 ∧ ((v31.toInt = 1 ∧ (Int32.ofInt 1).toInt ≤ a3.toInt ∧ a3.toInt ≤ (Int32.ofInt 5000).toInt) ∨ (v31.toInt = 0 ∧ (a3.toInt < (Int32.ofInt 1).toInt ∨ (Int32.ofInt 5000).toInt < a3.toInt))) := h32
          have q36 := h32.1.symm
          subst q36
          have q37 := h32.2
          refine And.intro (fun c38 => ?_) (fun c38 => ?_)
          · have c38 : v31.toInt = 0 := c38
            refine And.intro (Nat.le_of_ble_eq_true rfl) (And.intro ⟨0, (Int32.ofInt 1), rfl, by decide, i0⟩ ?_)
            intro v39 s41 h40
            have h40 : Iv s41 ∧ Kp s0 s41 ∧ vk s41 = ((vk s0).1, (vk s0).2) ∧ (v39.toInt = -1) := h40
            have i42 := h40.1
            have k43 : K_X10_loop s0 s41 := Kx.tr Kx.rf ((h40.2.1).px)
            have u44 : vk s41 = ((vk s0).1, (vk s0).2) := h40.2.2.1.trans rfl
            have q45 := h40.2.2.2
            show Iv s41 ∧ K_X10_loop s0 s41 ∧ vk s41 = (if (0 ≤ a1.toInt ∧ a1.toInt ≤ 2 ∧ 1 ≤ a2.toInt ∧ a2.toInt ≤ 4 ∧ 1 ≤ a3.toInt ∧ a3.toInt ≤ 5000 ∧ 2 ≤ a4.toInt ∧ a4.toInt ≤ 17 ∧ 1 ≤ a5.toInt ∧ a5.toInt ≤ 60000 ∧ (vg_eo a1 a2 a4).toInt ≤ 16) then kb2 (Int32.ofInt 0) 1 3 (vk s0).1 else (vk s0).1, (vk s0).2) ∧ (((0 ≤ a1.toInt ∧ a1.toInt ≤ 2 ∧ 1 ≤ a2.toInt ∧ a2.toInt ≤ 4 ∧ 1 ≤ a3.toInt ∧ a3.toInt ≤ 5000 ∧ 2 ≤ a4.toInt ∧ a4.toInt ≤ 17 ∧ 1 ≤ a5.toInt ∧ a5.toInt ≤ 60000 ∧ (vg_eo a1 a2 a4).toInt ≤ 16) ∧ v39.toInt = (vg_eo a1 a2 a4).toInt ∧ (s41.1 7 0).toInt = (vg_eo a1 a2 a4).toInt ∧ (s41.1 20 1).toInt = 0) ∨ (¬ (0 ≤ a1.toInt ∧ a1.toInt ≤ 2 ∧ 1 ≤ a2.toInt ∧ a2.toInt ≤ 4 ∧ 1 ≤ a3.toInt ∧ a3.toInt ≤ 5000 ∧ 2 ≤ a4.toInt ∧ a4.toInt ≤ 17 ∧ 1 ≤ a5.toInt ∧ a5.toInt ≤ 60000 ∧ (vg_eo a1 a2 a4).toInt ≤ 16) ∧ v39.toInt = -1 ∧ (s41.1 7 0).toInt = (s0.1 7 0).toInt ∧ (s41.1 20 1).toInt = (s0.1 20 1).toInt))
            exact ⟨i42, k43, (by first | exact vk_l u44 (by rw [if_pos (by omega), z1]) | exact vk_l u44 (by rw [if_neg (by omega)])), (by first | exact Or.inl ⟨by omega, by omega, by rw [none]; omega, None⟩ | exact Or.inr ⟨by omega, by omega, congrArg Int32.toInt (h40.2.1.1 7 0 rfl), congrArg Int32.toInt (h40.2.1.1 20 1 rfl)⟩)⟩
          · have c38 : ¬ (v31.toInt = 0) := c38
            refine And.intro (Nat.le_of_ble_eq_true rfl) (And.intro ⟨a4, (Int32.ofInt 2), (Int32.ofInt 17), rfl, trivial⟩ ?_)
            intro v46 s48 h47
            have h47 : s48 = s0 ∧ ((v46.toInt = 1 ∧ (Int32.ofInt 2).toInt ≤ a4.toInt ∧ a4.toInt ≤ (Int32.ofInt 17).toInt) ∨ (v46.toInt = 0 ∧ (a4.toInt < (Int32.ofInt 2).toInt ∨ (Int32.ofInt 17).toInt < a4.toInt))) := h47
            have q51 := h47.1.symm
            subst q51
            have q52 := h47.2
            refine And.intro (fun c53 => ?_) (fun c53 => ?_)
            · have c53 : v46.toInt = 0 := c53
              refine And.intro (Nat.le_of_ble_eq_true rfl) (And.intro ⟨0, (Int32.ofInt 1), rfl, by decide, i0⟩ ?_)
              intro v54 s56 h55
              have h55 : Iv s56 ∧ Kp s0 s56 ∧ vk s56 = ((vk s0).1, (vk s0).2) ∧ (v54.toInt = -1) := h55
              have i57 := h55.1
              have k58 : K_X10_loop s0 s56 := Kx.tr Kx.rf ((h55.2.1).px)
              have u59 : vk s56 = ((vk s0).1, (vk s0).2) := h55.2.2.1.trans rfl
              have q60 := h55.2.2.2
              show Iv s56 ∧ K_X10_loop s0 s56 ∧ vk s56 = (if (0 ≤ a1.toInt ∧ a1.toInt ≤ 2 ∧ 1 ≤ a2.toInt ∧ a2.toInt ≤ 4 ∧ 1 ≤ a3.toInt ∧ a3.toInt ≤ 5000 ∧ 2 ≤ a4.toInt ∧ a4.toInt ≤ 17 ∧ 1 ≤ a5.toInt ∧ a5.toInt ≤ 60000 ∧ (vg_eo a1 a2 a4).toInt ≤ 16) then kb2 (Int32.ofInt 0) 1 3 (vk s0).1 else (vk s0).1, (vk s0).2) ∧ (((0 ≤ a1.toInt ∧ a1.toInt ≤ 2 ∧ 1 ≤ a2.toInt ∧ a2.toInt ≤ 4 ∧ 1 ≤ a3.toInt ∧ a3.toInt ≤ 5000 ∧ 2 ≤ a4.toInt ∧ a4.toInt ≤ 17 ∧ 1 ≤ a5.toInt ∧ a5.toInt ≤ 60000 ∧ (vg_eo a1 a2 a4).toInt ≤ 16) ∧ v54.toInt = (vg_eo a1 a2 a4).toInt ∧ (s56.1 7 0).toInt = (vg_eo a1 a2 a4).toInt ∧ (s56.1 20 1).toInt = 0) ∨ (¬ (0 ≤ a1.toInt ∧ a1.toInt ≤ 2 ∧ 1 ≤ a2.toInt ∧ a2.toInt ≤ 4 ∧ 1 ≤ a3.toInt ∧ a3.toInt ≤ 5000 ∧ 2 ≤ a4.toInt ∧ a4.toInt ≤ 17 ∧ 1 ≤ a5.toInt ∧ a5.toInt ≤ 60000 ∧ (vg_eo a1 a2 a4).toInt ≤ 16) ∧ v54.toInt = -1 ∧ (s56.1 7 0).toInt = (s0.1 7 0).toInt ∧ (s56.1 20 1).toInt = (s0.1 20 1).toInt))
              exact ⟨i57, k58, (by first | exact vk_l u59 (by rw [if_pos (by omega), z1]) | exact vk_l u59 (by rw [if_neg (by omega)])), (by first | exact Or.inl ⟨by omega, by omega, by rw [none]; omega, None⟩ | exact Or.inr ⟨by omega, by omega, congrArg Int32.toInt (h55.2.1.1 7 0 rfl), congrArg Int32.toInt (h55.2.1.1 20 1 rfl)⟩)⟩
            · have c53 : ¬ (v46.toInt = 0) := c53
              refine And.intro (Nat.le_of_ble_eq_true rfl) (And.intro ⟨a5, (Int32.ofInt 1), (Int32.ofInt 60000), rfl, trivial⟩ ?_)
              intro v61 s63 h62
              have h62 : s63 = s0 ∧ ((v61.toInt = 1 ∧ (Int32.ofInt 1).toInt ≤ a5.toInt ∧ a5.toInt ≤ (Int32.ofInt 60000).toInt) ∨ (v61.toInt = 0 ∧ (a5.toInt < (Int32.ofInt 1).toInt ∨ (Int32.ofInt 60000).toInt < a5.toInt))) := h62
              have q66 := h62.1.symm
              subst q66
              have q67 := h62.2
              refine And.intro (fun c68 => ?_) (fun c68 => ?_)
              · have c68 : ¬ v61.toInt = 0 := c68
                refine And.intro (Nat.le_of_ble_eq_true rfl) (And.intro ⟨a1, a2, a4, rfl, by omega⟩ ?_)
                intro v69 s71 h70
                have h70 : s71 = s0 ∧ (v69.toInt = (vg_eo a1 a2 a4).toInt ∧ 1 ≤ v69.toInt ∧ v69.toInt ≤ 240) := h70
                have q74 := h70.1.symm
                subst q74
                have q75 := h70.2
                refine And.intro (fun c76 => ?_) (fun c76 => ?_)
                · have c76 : v69.toInt ≤ (Int32.ofInt 16).toInt := c76
                  intro s77 e78
                  have i79 : Iv s77 := Iv.u1 i0 e78 rfl
                  have k80 : K_X10_loop s0 s77 := Kx.u1 Kx.rf e78 rfl
                  have u81 : vk s77 = ((vk s0).1, (vk s0).2) := vk_k1 rfl e78 rfl
                  intro s82 e83
                  have i84 : Iv s82 := Iv.c1 (lo := 1) (hi := 4) i79 e83 rfl (by omega) (by omega)
                  have k85 : K_X10_loop s0 s82 := Kx.u1 k80 e83 rfl
                  have u86 : vk s82 = ((vk s0).1, (vk s0).2) := vk_k1 u81 e83 rfl
                  intro s87 e88
                  have i89 : Iv s87 := Iv.c1 (lo := 1) (hi := 5000) i84 e88 rfl (by omega) (by omega)
                  have k90 : K_X10_loop s0 s87 := Kx.u1 k85 e88 rfl
                  have u91 : vk s87 = ((vk s0).1, (vk s0).2) := vk_k1 u86 e88 rfl
                  intro s92 e93
                  have i94 : Iv s92 := Iv.c1 (lo := 2) (hi := 17) i89 e93 rfl (by omega) (by omega)
                  have k95 : K_X10_loop s0 s92 := Kx.u1 k90 e93 rfl
                  have u96 : vk s92 = ((vk s0).1, (vk s0).2) := vk_k1 u91 e93 rfl
                  intro s97 e98
                  have i99 : Iv s97 := Iv.c1 (lo := 1) (hi := 60000) i94 e98 rfl (by omega) (by omega)
                  have k100 : K_X10_loop s0 s97 := Kx.u1 k95 e98 rfl
                  have u101 : vk s97 = ((vk s0).1, (vk s0).2) := vk_k1 u96 e98 rfl
                  refine And.intro (by first | exact Or.inl rfl | exact Or.inr rfl | exact vg_01 (by omega) (by omega)) ?_
                  intro s102 e103
                  have i104 : Iv s102 := Iv.c1 (lo := 0) (hi := 1) i99 e103 rfl (by omega) (by omega)
                  have k105 : K_X10_loop s0 s102 := Kx.u1 k100 e103 rfl
                  have u106 : vk s102 = ((vk s0).1, (vk s0).2) := vk_k1 u101 e103 rfl
                  refine And.intro (Nat.le_of_ble_eq_true rfl) (And.intro ⟨a1, a2, a4, rfl, by omega⟩ ?_)
                  intro v107 s109 h108
                  have h108 : s109 = s102 ∧ (v107.toInt = (vg_eo a1 a2 a4).toInt ∧ 1 ≤ v107.toInt ∧ v107.toInt ≤ 240) := h108
                  have q112 := h108.1.symm
                  subst q112
                  have q113 := h108.2
                  intro s114 e115
                  have i116 : Iv s114 := Iv.c1 (lo := 1) (hi := 16) i104 e115 rfl (by omega) (by omega)
                  have k117 : K_X10_loop s0 s114 := Kx.u1 k105 e115 rfl
                  have u118 : vk s114 = ((vk s0).1, (vk s0).2) := vk_k1 u106 e115 rfl
                  have g119 : s114.1 7 0 = v107 := by rw [e115]; exact vg_u1_self
                  refine And.intro (Nat.le_of_ble_eq_true rfl) (And.intro ⟨20, rfl, by decide, i116⟩ ?_)
                  intro s121 h120
                  have h120 : Iv s121 ∧ K_X0_forget s114 s121 ∧ vk s121 = ((vk s114).1, (vk s114).2) ∧ ((s121.1 20 1).toInt = 0) := h120
                  have i122 := h120.1
                  have k123 : K_X10_loop s0 s121 := Kx.tr k117 ((h120.2.1).xx (by decide))
                  have u124 : vk s121 = ((vk s0).1, (vk s0).2) := h120.2.2.1.trans u118
                  have q125 := h120.2.2.2
                  have g126 : s121.1 7 0 = v107 := by rw [h120.2.1.1 7 0 rfl]; exact g119
                  have y127 : (s121.1 20 1).toInt = 0 := q125
                  refine And.intro (Nat.le_of_ble_eq_true rfl) (And.intro ⟨0, (Int32.ofInt 1), rfl, by decide, i122, by omega⟩ ?_)
                  intro s129 h128
                  have h128 : Iv s129 ∧ Kp s121 s129 ∧ vk s129 = (kb2 (Int32.ofInt 0) (Int32.ofInt 1).toInt 3 (vk s121).1, (vk s121).2) ∧ (True) := h128
                  have i130 := h128.1
                  have k131 : K_X10_loop s0 s129 := Kx.tr k123 ((h128.2.1).px)
                  have u132 : vk s129 = ((kb2 (Int32.ofInt 0) (Int32.ofInt 1).toInt 3 (vk s0).1), (vk s0).2) := (by rw [h128.2.2.1, u124])
                  have y133 : (s129.1 20 1).toInt = 0 := by rw [h128.2.1.1 20 1 rfl]; exact y127
                  have g134 : s129.1 7 0 = v107 := by rw [h128.2.1.1 7 0 rfl]; exact g126
                  intro v135 e136
                  have w137 : v107 = v135 := by rw [e136, g134]
                  subst w137
                  refine And.intro (Nat.le_of_ble_eq_true rfl) (And.intro ⟨0, v107, rfl, by decide, i130⟩ ?_)
                  intro v138 s140 h139
                  have h139 : Iv s140 ∧ Kp s129 s140 ∧ vk s140 = ((vk s129).1, (vk s129).2) ∧ (v138 = v107 ∧ v138.toInt = v107.toInt) := h139
                  have i141 := h139.1
                  have k142 : K_X10_loop s0 s140 := Kx.tr k131 ((h139.2.1).px)
                  have u143 : vk s140 = ((kb2 (Int32.ofInt 0) (Int32.ofInt 1).toInt 3 (vk s0).1), (vk s0).2) := h139.2.2.1.trans u132
                  have q144 := h139.2.2.2
                  have y145 : (s140.1 20 1).toInt = 0 := by rw [h139.2.1.1 20 1 rfl]; exact y133
                  have g146 : s140.1 7 0 = v107 := by rw [h139.2.1.1 7 0 rfl]; exact g134
                  show Iv s140 ∧ K_X10_loop s0 s140 ∧ vk s140 = (if (0 ≤ a1.toInt ∧ a1.toInt ≤ 2 ∧ 1 ≤ a2.toInt ∧ a2.toInt ≤ 4 ∧ 1 ≤ a3.toInt ∧ a3.toInt ≤ 5000 ∧ 2 ≤ a4.toInt ∧ a4.toInt ≤ 17 ∧ 1 ≤ a5.toInt ∧ a5.toInt ≤ 60000 ∧ (vg_eo a1 a2 a4).toInt ≤ 16) then kb2 (Int32.ofInt 0) 1 3 (vk s0).1 else (vk s0).1, (vk s0).2) ∧ (((0 ≤ a1.toInt ∧ a1.toInt ≤ 2 ∧ 1 ≤ a2.toInt ∧ a2.toInt ≤ 4 ∧ 1 ≤ a3.toInt ∧ a3.toInt ≤ 5000 ∧ 2 ≤ a4.toInt ∧ a4.toInt ≤ 17 ∧ 1 ≤ a5.toInt ∧ a5.toInt ≤ 60000 ∧ (vg_eo a1 a2 a4).toInt ≤ 16) ∧ v138.toInt = (vg_eo a1 a2 a4).toInt ∧ (s140.1 7 0).toInt = (vg_eo a1 a2 a4).toInt ∧ (s140.1 20 1).toInt = 0) ∨ (¬ (0 ≤ a1.toInt ∧ a1.toInt ≤ 2 ∧ 1 ≤ a2.toInt ∧ a2.toInt ≤ 4 ∧ 1 ≤ a3.toInt ∧ a3.toInt ≤ 5000 ∧ 2 ≤ a4.toInt ∧ a4.toInt ≤ 17 ∧ 1 ≤ a5.toInt ∧ a5.toInt ≤ 60000 ∧ (vg_eo a1 a2 a4).toInt ≤ 16) ∧ v138.toInt = -1 ∧ (s140.1 7 0).toInt = (s0.1 7 0).toInt ∧ (s140.1 20 1).toInt = (s0.1 20 1).toInt))
                  exact ⟨i141, k142, (by first | exact vk_l u143 (by rw [if_pos (by omega), z1]) | exact vk_l u143 (by rw [if_neg (by omega)])), (by first | exact Or.inl ⟨by omega, by omega, by rw [g146]; omega, y145⟩ | exact Or.inr ⟨by omega, by omega, congrArg Int32.toInt (h139.2.1.1 7 0 rfl), congrArg Int32.toInt (h139.2.1.1 20 1 rfl)⟩)⟩
                · have c76 : ¬ (v69.toInt ≤ (Int32.ofInt 16).toInt) := c76
                  refine And.intro (Nat.le_of_ble_eq_true rfl) (And.intro ⟨0, (Int32.ofInt 1), rfl, by decide, i0⟩ ?_)
                  intro v147 s149 h148
                  have h148 : Iv s149 ∧ Kp s0 s149 ∧ vk s149 = ((vk s0).1, (vk s0).2) ∧ (v147.toInt = -1) := h148
                  have i150 := h148.1
                  have k151 : K_X10_loop s0 s149 := Kx.tr Kx.rf ((h148.2.1).px)
                  have u152 : vk s149 = ((vk s0).1, (vk s0).2) := h148.2.2.1.trans rfl
                  have q153 := h148.2.2.2
                  show Iv s149 ∧ K_X10_loop s0 s149 ∧ vk s149 = (if (0 ≤ a1.toInt ∧ a1.toInt ≤ 2 ∧ 1 ≤ a2.toInt ∧ a2.toInt ≤ 4 ∧ 1 ≤ a3.toInt ∧ a3.toInt ≤ 5000 ∧ 2 ≤ a4.toInt ∧ a4.toInt ≤ 17 ∧ 1 ≤ a5.toInt ∧ a5.toInt ≤ 60000 ∧ (vg_eo a1 a2 a4).toInt ≤ 16) then kb2 (Int32.ofInt 0) 1 3 (vk s0).1 else (vk s0).1, (vk s0).2) ∧ (((0 ≤ a1.toInt ∧ a1.toInt ≤ 2 ∧ 1 ≤ a2.toInt ∧ a2.toInt ≤ 4 ∧ 1 ≤ a3.toInt ∧ a3.toInt ≤ 5000 ∧ 2 ≤ a4.toInt ∧ a4.toInt ≤ 17 ∧ 1 ≤ a5.toInt ∧ a5.toInt ≤ 60000 ∧ (vg_eo a1 a2 a4).toInt ≤ 16) ∧ v147.toInt = (vg_eo a1 a2 a4).toInt ∧ (s149.1 7 0).toInt = (vg_eo a1 a2 a4).toInt ∧ (s149.1 20 1).toInt = 0) ∨ (¬ (0 ≤ a1.toInt ∧ a1.toInt ≤ 2 ∧ 1 ≤ a2.toInt ∧ a2.toInt ≤ 4 ∧ 1 ≤ a3.toInt ∧ a3.toInt ≤ 5000 ∧ 2 ≤ a4.toInt ∧ a4.toInt ≤ 17 ∧ 1 ≤ a5.toInt ∧ a5.toInt ≤ 60000 ∧ (vg_eo a1 a2 a4).toInt ≤ 16) ∧ v147.toInt = -1 ∧ (s149.1 7 0).toInt = (s0.1 7 0).toInt ∧ (s149.1 20 1).toInt = (s0.1 20 1).toInt))
                  exact ⟨i150, k151, (by first | exact vk_l u152 (by rw [if_pos (by omega), z1]) | exact vk_l u152 (by rw [if_neg (by omega)])), (by first | exact Or.inl ⟨by omega, by omega, by rw [none]; omega, None⟩ | exact Or.inr ⟨by omega, by omega, congrArg Int32.toInt (h148.2.1.1 7 0 rfl), congrArg Int32.toInt (h148.2.1.1 20 1 rfl)⟩)⟩
              · have c68 : ¬ (¬ v61.toInt = 0) := c68
                refine And.intro (Nat.le_of_ble_eq_true rfl) (And.intro ⟨0, (Int32.ofInt 1), rfl, by decide, i0⟩ ?_)
                intro v154 s156 h155
                have h155 : Iv s156 ∧ Kp s0 s156 ∧ vk s156 = ((vk s0).1, (vk s0).2) ∧ (v154.toInt = -1) := h155
                have i157 := h155.1
                have k158 : K_X10_loop s0 s156 := Kx.tr Kx.rf ((h155.2.1).px)
                have u159 : vk s156 = ((vk s0).1, (vk s0).2) := h155.2.2.1.trans rfl
                have q160 := h155.2.2.2
                show Iv s156 ∧ K_X10_loop s0 s156 ∧ vk s156 = (if (0 ≤ a1.toInt ∧ a1.toInt ≤ 2 ∧ 1 ≤ a2.toInt ∧ a2.toInt ≤ 4 ∧ 1 ≤ a3.toInt ∧ a3.toInt ≤ 5000 ∧ 2 ≤ a4.toInt ∧ a4.toInt ≤ 17 ∧ 1 ≤ a5.toInt ∧ a5.toInt ≤ 60000 ∧ (vg_eo a1 a2 a4).toInt ≤ 16) then kb2 (Int32.ofInt 0) 1 3 (vk s0).1 else (vk s0).1, (vk s0).2) ∧ (((0 ≤ a1.toInt ∧ a1.toInt ≤ 2 ∧ 1 ≤ a2.toInt ∧ a2.toInt ≤ 4 ∧ 1 ≤ a3.toInt ∧ a3.toInt ≤ 5000 ∧ 2 ≤ a4.toInt ∧ a4.toInt ≤ 17 ∧ 1 ≤ a5.toInt ∧ a5.toInt ≤ 60000 ∧ (vg_eo a1 a2 a4).toInt ≤ 16) ∧ v154.toInt = (vg_eo a1 a2 a4).toInt ∧ (s156.1 7 0).toInt = (vg_eo a1 a2 a4).toInt ∧ (s156.1 20 1).toInt = 0) ∨ (¬ (0 ≤ a1.toInt ∧ a1.toInt ≤ 2 ∧ 1 ≤ a2.toInt ∧ a2.toInt ≤ 4 ∧ 1 ≤ a3.toInt ∧ a3.toInt ≤ 5000 ∧ 2 ≤ a4.toInt ∧ a4.toInt ≤ 17 ∧ 1 ≤ a5.toInt ∧ a5.toInt ≤ 60000 ∧ (vg_eo a1 a2 a4).toInt ≤ 16) ∧ v154.toInt = -1 ∧ (s156.1 7 0).toInt = (s0.1 7 0).toInt ∧ (s156.1 20 1).toInt = (s0.1 20 1).toInt))
                exact ⟨i157, k158, (by first | exact vk_l u159 (by rw [if_pos (by omega), z1]) | exact vk_l u159 (by rw [if_neg (by omega)])), (by first | exact Or.inl ⟨by omega, by omega, by rw [none]; omega, None⟩ | exact Or.inr ⟨by omega, by omega, congrArg Int32.toInt (h155.2.1.1 7 0 rfl), congrArg Int32.toInt (h155.2.1.1 20 1 rfl)⟩)⟩
def o_X10_dither : List vg_I := [(0, .iload_n 1, 1, 0, 0, 0, 0), (1, .iconst 0, 1, 0, 0, 0, 0), (2, .sipush 5000, 3, 0, 0, 0, 0), (5, .invokestatic 82, 3, 0, 1, 3, 478), (8, .ifCond .eq 7, 3, 0, 0, 0, 0), (11, .iload_n 2, 1, 0, 0, 0, 0), (12, .ifCond .ge 9, 3, 0, 0, 0, 0), (15, .aload_n 0, 1, 0, 0, 0, 0), (16, .iconst 1, 1, 0, 0, 0, 0), (17, .invokevirtual 90, 3, 1, 10, 1, 484), (20, .ireturn, 1, 0, 0, 0, 0), (21, .aload_n 0, 1, 0, 0, 0, 0), (22, .getfield 19, 3, 431, 10, 4, 0), (25, .getfield 127, 3, 179, 5, 0, 0), (28, .iload_n 1, 1, 0, 0, 0, 0), (29, .putfield 154, 3, 157, 6, 6, 0), (32, .aload_n 0, 1, 0, 0, 0, 0), (33, .getfield 19, 3, 431, 10, 4, 0), (36, .getfield 127, 3, 179, 5, 0, 0), (39, .iload_n 2, 1, 0, 0, 0, 0), (40, .putfield 157, 3, 160, 6, 7, 0), (43, .aload_n 0, 1, 0, 0, 0, 0), (44, .iconst 1, 1, 0, 0, 0, 0), (45, .invokevirtual 106, 3, 2, 10, 1, 488), (48, .aload_n 0, 1, 0, 0, 0, 0), (49, .aload_n 0, 1, 0, 0, 0, 0), (50, .getfield 110, 3, 428, 10, 1, 0), (53, .invokevirtual 113, 3, 3, 10, 1, 520), (56, .ireturn, 1, 0, 0, 0, 0)]
set_option maxRecDepth 100000 in
set_option maxHeartbeats 4000000 in
theorem c_X10_dither (l : Launch) (G : vg_G) (hp : vg_Hp G) : vg_Ct l G vg_sh r_X10_dither := by
  refine vg_meth hp vg_sh_ok r_X10_dither k_X10_dither rfl (fun h => by cases h) o_X10_dither [r_X10_within, r_X10_refuse, r_X10_beginAnewFrom, r_X10_answer] false (by decide +kernel) (by decide +kernel) ⟨_, _, rfl, rfl⟩ (List.forall_mem_cons.mpr ⟨⟨c_X10_within l G hp, Nat.le_of_ble_eq_true rfl, Nat.le_of_ble_eq_true rfl⟩, List.forall_mem_cons.mpr ⟨⟨c_X10_refuse l G hp, Nat.le_of_ble_eq_true rfl, Nat.le_of_ble_eq_true rfl⟩, List.forall_mem_cons.mpr ⟨⟨c_X10_beginAnewFrom l G hp, Nat.le_of_ble_eq_true rfl, Nat.le_of_ble_eq_true rfl⟩, List.forall_mem_cons.mpr ⟨⟨c_X10_answer l G hp, Nat.le_of_ble_eq_true rfl, Nat.le_of_ble_eq_true rfl⟩, fun _ h => absurd h List.not_mem_nil⟩⟩⟩⟩) (fun h => by cases h) 600 ?_
  intro as s0 hpre
  obtain ⟨r, a1, a2, rfl, hr, i0⟩ := hpre
  simp only [List.mem_cons, List.not_mem_nil, or_false] at hr
  rcases hr with rfl
  ·
    have z0 : (Int32.ofInt 0).toInt = 0 := by decide
    have z1 : (Int32.ofInt 1).toInt = 1 := by decide
    have z5000 : (Int32.ofInt 5000).toInt = 5000 := by decide
    refine ⟨Nat.le_of_ble_eq_true rfl, [], ?_, fun _ h => absurd h List.not_mem_nil⟩
    ·
      refine And.intro (Nat.le_of_ble_eq_true rfl) (And.intro ⟨a1, (Int32.ofInt 0), (Int32.ofInt 5000), rfl, trivial⟩ ?_)
      intro v1 s3 h2
      have h2 : s3 = s0 ∧ ((v1.toInt = 1 ∧ (Int32.ofInt 0).toInt ≤ a1.toInt ∧ a1.toInt ≤ (Int32.ofInt 5000).toInt) ∨ (v1.toInt = 0 ∧ (a1.toInt < (Int32.ofInt 0).toInt ∨ (Int32.ofInt 5000).toInt < a1.toInt))) := h2
      have q6 := h2.1.symm
      subst q6
      have q7 := h2.2
      refine And.intro (fun c8 => ?_) (fun c8 => ?_)
      · have c8 : v1.toInt = 0 := c8
        refine And.intro (Nat.le_of_ble_eq_true rfl) (And.intro ⟨0, (Int32.ofInt 1), rfl, by decide, i0⟩ ?_)
        intro v9 s11 h10
        have h10 : Iv s11 ∧ Kp s0 s11 ∧ vk s11 = ((vk s0).1, (vk s0).2) ∧ (v9.toInt = -1) := h10
        have i12 := h10.1
        have k13 : K_X10_dither s0 s11 := Kx.tr Kx.rf ((h10.2.1).px)
        have u14 : vk s11 = ((vk s0).1, (vk s0).2) := h10.2.2.1.trans rfl
        have q15 := h10.2.2.2
        show Iv s11 ∧ K_X10_dither s0 s11 ∧ vk s11 = (if (0 ≤ a1.toInt ∧ a1.toInt ≤ 5000 ∧ 0 ≤ a2.toInt) then kb2 (Int32.ofInt 0) 1 3 (vk s0).1 else (vk s0).1, (vk s0).2) ∧ (((0 ≤ a1.toInt ∧ a1.toInt ≤ 5000 ∧ 0 ≤ a2.toInt) ∧ v9.toInt = (s0.1 0 1).toInt) ∨ (¬ (0 ≤ a1.toInt ∧ a1.toInt ≤ 5000 ∧ 0 ≤ a2.toInt) ∧ v9.toInt = -1))
        exact ⟨i12, k13, (by first | exact vk_l u14 (by rw [if_pos (by omega), z1]) | exact vk_l u14 (by rw [if_neg (by omega)])), (by have h9 := congrArg Int32.toInt (k13.1 0 1 rfl); have h8 := congrArg Int32.toInt (h10.2.1.1 0 1 rfl); omega)⟩
      · have c8 : ¬ (v1.toInt = 0) := c8
        refine And.intro (fun c16 => ?_) (fun c16 => ?_)
        · have c16 : 0 ≤ a2.toInt := c16
          intro s17 e18
          have i19 : Iv s17 := Iv.c1 (lo := 0) (hi := 5000) i0 e18 rfl (by omega) (by omega)
          have k20 : K_X10_dither s0 s17 := Kx.u1 Kx.rf e18 rfl
          have u21 : vk s17 = ((vk s0).1, (vk s0).2) := vk_k1 rfl e18 rfl
          intro s22 e23
          have i24 : Iv s22 := Iv.u1 i19 e23 rfl
          have k25 : K_X10_dither s0 s22 := Kx.u1 k20 e23 rfl
          have u26 : vk s22 = ((vk s0).1, (vk s0).2) := vk_k1 u21 e23 rfl
          refine And.intro (Nat.le_of_ble_eq_true rfl) (And.intro ⟨0, (Int32.ofInt 1), rfl, by decide, i24, by omega⟩ ?_)
          intro s28 h27
          have h27 : Iv s28 ∧ Kp s22 s28 ∧ vk s28 = (kb2 (Int32.ofInt 0) (Int32.ofInt 1).toInt 3 (vk s22).1, (vk s22).2) ∧ (True) := h27
          have i29 := h27.1
          have k30 : K_X10_dither s0 s28 := Kx.tr k25 ((h27.2.1).px)
          have u31 : vk s28 = ((kb2 (Int32.ofInt 0) (Int32.ofInt 1).toInt 3 (vk s0).1), (vk s0).2) := (by rw [h27.2.2.1, u26])
          intro v32 e33
          have g34 : s28.1 0 1 = v32 := by rw [e33]
          have b35 : v32.toInt = (s28.1 0 1).toInt := congrArg Int32.toInt e33
          refine And.intro (Nat.le_of_ble_eq_true rfl) (And.intro ⟨0, v32, rfl, by decide, i29⟩ ?_)
          intro v36 s38 h37
          have h37 : Iv s38 ∧ Kp s28 s38 ∧ vk s38 = ((vk s28).1, (vk s28).2) ∧ (v36 = v32 ∧ v36.toInt = v32.toInt) := h37
          have i39 := h37.1
          have k40 : K_X10_dither s0 s38 := Kx.tr k30 ((h37.2.1).px)
          have u41 : vk s38 = ((kb2 (Int32.ofInt 0) (Int32.ofInt 1).toInt 3 (vk s0).1), (vk s0).2) := h37.2.2.1.trans u31
          have q42 := h37.2.2.2
          show Iv s38 ∧ K_X10_dither s0 s38 ∧ vk s38 = (if (0 ≤ a1.toInt ∧ a1.toInt ≤ 5000 ∧ 0 ≤ a2.toInt) then kb2 (Int32.ofInt 0) 1 3 (vk s0).1 else (vk s0).1, (vk s0).2) ∧ (((0 ≤ a1.toInt ∧ a1.toInt ≤ 5000 ∧ 0 ≤ a2.toInt) ∧ v36.toInt = (s0.1 0 1).toInt) ∨ (¬ (0 ≤ a1.toInt ∧ a1.toInt ≤ 5000 ∧ 0 ≤ a2.toInt) ∧ v36.toInt = -1))
          exact ⟨i39, k40, (by first | exact vk_l u41 (by rw [if_pos (by omega), z1]) | exact vk_l u41 (by rw [if_neg (by omega)])), (by have h9 := congrArg Int32.toInt (k40.1 0 1 rfl); have h8 := congrArg Int32.toInt (h37.2.1.1 0 1 rfl); omega)⟩
        · have c16 : ¬ (0 ≤ a2.toInt) := c16
          refine And.intro (Nat.le_of_ble_eq_true rfl) (And.intro ⟨0, (Int32.ofInt 1), rfl, by decide, i0⟩ ?_)
          intro v43 s45 h44
          have h44 : Iv s45 ∧ Kp s0 s45 ∧ vk s45 = ((vk s0).1, (vk s0).2) ∧ (v43.toInt = -1) := h44
          have i46 := h44.1
          have k47 : K_X10_dither s0 s45 := Kx.tr Kx.rf ((h44.2.1).px)
          have u48 : vk s45 = ((vk s0).1, (vk s0).2) := h44.2.2.1.trans rfl
          have q49 := h44.2.2.2
          show Iv s45 ∧ K_X10_dither s0 s45 ∧ vk s45 = (if (0 ≤ a1.toInt ∧ a1.toInt ≤ 5000 ∧ 0 ≤ a2.toInt) then kb2 (Int32.ofInt 0) 1 3 (vk s0).1 else (vk s0).1, (vk s0).2) ∧ (((0 ≤ a1.toInt ∧ a1.toInt ≤ 5000 ∧ 0 ≤ a2.toInt) ∧ v43.toInt = (s0.1 0 1).toInt) ∨ (¬ (0 ≤ a1.toInt ∧ a1.toInt ≤ 5000 ∧ 0 ≤ a2.toInt) ∧ v43.toInt = -1))
          exact ⟨i46, k47, (by first | exact vk_l u48 (by rw [if_pos (by omega), z1]) | exact vk_l u48 (by rw [if_neg (by omega)])), (by have h9 := congrArg Int32.toInt (k47.1 0 1 rfl); have h8 := congrArg Int32.toInt (h44.2.1.1 0 1 rfl); omega)⟩
def o_X10_way : List vg_I := [(0, .iload_n 1, 1, 0, 0, 0, 0), (1, .iconst 0, 1, 0, 0, 0, 0), (2, .iconst 2, 1, 0, 0, 0, 0), (3, .invokestatic 82, 3, 0, 1, 3, 478), (6, .ifCond .ne 9, 3, 0, 0, 0, 0), (9, .aload_n 0, 1, 0, 0, 0, 0), (10, .iconst 1, 1, 0, 0, 0, 0), (11, .invokevirtual 90, 3, 1, 10, 1, 484), (14, .ireturn, 1, 0, 0, 0, 0), (15, .aload_n 0, 1, 0, 0, 0, 0), (16, .getfield 26, 3, 432, 10, 5, 0), (19, .getfield 160, 3, 242, 2, 1, 0), (22, .istore_n 2, 1, 0, 0, 0, 0), (23, .aload_n 0, 1, 0, 0, 0, 0), (24, .getfield 26, 3, 432, 10, 5, 0), (27, .iload_n 1, 1, 0, 0, 0, 0), (28, .putfield 160, 3, 242, 2, 1, 0), (31, .aload_n 0, 1, 0, 0, 0, 0), (32, .iconst 2, 1, 0, 0, 0, 0), (33, .invokevirtual 106, 3, 2, 10, 1, 488), (36, .aload_n 0, 1, 0, 0, 0, 0), (37, .iload_n 2, 1, 0, 0, 0, 0), (38, .invokevirtual 113, 3, 3, 10, 1, 520), (41, .ireturn, 1, 0, 0, 0, 0)]
set_option maxRecDepth 100000 in
set_option maxHeartbeats 4000000 in
theorem c_X10_way (l : Launch) (G : vg_G) (hp : vg_Hp G) : vg_Ct l G vg_sh r_X10_way := by
  refine vg_meth hp vg_sh_ok r_X10_way k_X10_way rfl (fun h => by cases h) o_X10_way [r_X10_within, r_X10_refuse, r_X10_beginAnewFrom, r_X10_answer] false (by decide +kernel) (by decide +kernel) ⟨_, _, rfl, rfl⟩ (List.forall_mem_cons.mpr ⟨⟨c_X10_within l G hp, Nat.le_of_ble_eq_true rfl, Nat.le_of_ble_eq_true rfl⟩, List.forall_mem_cons.mpr ⟨⟨c_X10_refuse l G hp, Nat.le_of_ble_eq_true rfl, Nat.le_of_ble_eq_true rfl⟩, List.forall_mem_cons.mpr ⟨⟨c_X10_beginAnewFrom l G hp, Nat.le_of_ble_eq_true rfl, Nat.le_of_ble_eq_true rfl⟩, List.forall_mem_cons.mpr ⟨⟨c_X10_answer l G hp, Nat.le_of_ble_eq_true rfl, Nat.le_of_ble_eq_true rfl⟩, fun _ h => absurd h List.not_mem_nil⟩⟩⟩⟩) (fun h => by cases h) 600 ?_
  intro as s0 hpre
  obtain ⟨r, a1, rfl, hr, i0⟩ := hpre
  simp only [List.mem_cons, List.not_mem_nil, or_false] at hr
  rcases hr with rfl
  ·
    have z0 : (Int32.ofInt 0).toInt = 0 := by decide
    have z1 : (Int32.ofInt 1).toInt = 1 := by decide
    have z2 : (Int32.ofInt 2).toInt = 2 := by decide
    refine ⟨Nat.le_of_ble_eq_true rfl, [], ?_, fun _ h => absurd h List.not_mem_nil⟩
    ·
      refine And.intro (Nat.le_of_ble_eq_true rfl) (And.intro ⟨a1, (Int32.ofInt 0), (Int32.ofInt 2), rfl, trivial⟩ ?_)
      intro v1 s3 h2
      have h2 : s3 = s0 ∧ ((v1.toInt = 1 ∧ (Int32.ofInt 0).toInt ≤ a1.toInt ∧ a1.toInt ≤ (Int32.ofInt 2).toInt) ∨ (v1.toInt = 0 ∧ (a1.toInt < (Int32.ofInt 0).toInt ∨ (Int32.ofInt 2).toInt < a1.toInt))) := h2
      have q6 := h2.1.symm
      subst q6
      have q7 := h2.2
      refine And.intro (fun c8 => ?_) (fun c8 => ?_)
      · have c8 : ¬ v1.toInt = 0 := c8
        intro v9 e10
        have g11 : s0.1 7 1 = v9 := by rw [e10]
        have g12 : s0.1 7 1 = v9 := e10.symm
        have b13 : v9.toInt = (s0.1 7 1).toInt := congrArg Int32.toInt e10
        intro s14 e15
        have i16 : Iv s14 := Iv.u1 i0 e15 rfl
        have k17 : K_X10_way s0 s14 := Kx.u1 Kx.rf e15 rfl
        have u18 : vk s14 = ((vk s0).1, (vk s0).2) := vk_k1 rfl e15 rfl
        have g19 : s14.1 7 1 = a1 := by rw [e15]; exact vg_u1_self
        refine And.intro (Nat.le_of_ble_eq_true rfl) (And.intro ⟨0, (Int32.ofInt 2), rfl, by decide, i16, by omega⟩ ?_)
        intro s21 h20
        have h20 : Iv s21 ∧ Kp s14 s21 ∧ vk s21 = (kb2 (Int32.ofInt 0) (Int32.ofInt 2).toInt 3 (vk s14).1, (vk s14).2) ∧ (True) := h20
        have i22 := h20.1
        have k23 : K_X10_way s0 s21 := Kx.tr k17 ((h20.2.1).px)
        have u24 : vk s21 = ((kb2 (Int32.ofInt 0) (Int32.ofInt 2).toInt 3 (vk s0).1), (vk s0).2) := (by rw [h20.2.2.1, u18])
        have g25 : s21.1 7 1 = a1 := by rw [h20.2.1.1 7 1 rfl]; exact g19
        refine And.intro (Nat.le_of_ble_eq_true rfl) (And.intro ⟨0, v9, rfl, by decide, i22⟩ ?_)
        intro v26 s28 h27
        have h27 : Iv s28 ∧ Kp s21 s28 ∧ vk s28 = ((vk s21).1, (vk s21).2) ∧ (v26 = v9 ∧ v26.toInt = v9.toInt) := h27
        have i29 := h27.1
        have k30 : K_X10_way s0 s28 := Kx.tr k23 ((h27.2.1).px)
        have u31 : vk s28 = ((kb2 (Int32.ofInt 0) (Int32.ofInt 2).toInt 3 (vk s0).1), (vk s0).2) := h27.2.2.1.trans u24
        have q32 := h27.2.2.2
        have g33 : s28.1 7 1 = a1 := by rw [h27.2.1.1 7 1 rfl]; exact g25
        show Iv s28 ∧ K_X10_way s0 s28 ∧ vk s28 = (if (0 ≤ a1.toInt ∧ a1.toInt ≤ 2) then kb2 (Int32.ofInt 0) 2 3 (vk s0).1 else (vk s0).1, (vk s0).2) ∧ (((0 ≤ a1.toInt ∧ a1.toInt ≤ 2) ∧ v26.toInt = (s0.1 7 1).toInt ∧ (s28.1 7 1).toInt = a1.toInt) ∨ (¬ (0 ≤ a1.toInt ∧ a1.toInt ≤ 2) ∧ v26.toInt = -1 ∧ (s28.1 7 1).toInt = (s0.1 7 1).toInt))
        exact ⟨i29, k30, (by first | exact vk_l u31 (by rw [if_pos (by omega), z2]) | exact vk_l u31 (by rw [if_neg (by omega)])), (by first | exact Or.inl ⟨by omega, by omega, by rw [g33]⟩ | exact Or.inr ⟨by omega, by omega, congrArg Int32.toInt (h27.2.1.1 7 1 rfl)⟩)⟩
      · have c8 : ¬ (¬ v1.toInt = 0) := c8
        refine And.intro (Nat.le_of_ble_eq_true rfl) (And.intro ⟨0, (Int32.ofInt 1), rfl, by decide, i0⟩ ?_)
        intro v34 s36 h35
        have h35 : Iv s36 ∧ Kp s0 s36 ∧ vk s36 = ((vk s0).1, (vk s0).2) ∧ (v34.toInt = -1) := h35
        have i37 := h35.1
        have k38 : K_X10_way s0 s36 := Kx.tr Kx.rf ((h35.2.1).px)
        have u39 : vk s36 = ((vk s0).1, (vk s0).2) := h35.2.2.1.trans rfl
        have q40 := h35.2.2.2
        show Iv s36 ∧ K_X10_way s0 s36 ∧ vk s36 = (if (0 ≤ a1.toInt ∧ a1.toInt ≤ 2) then kb2 (Int32.ofInt 0) 2 3 (vk s0).1 else (vk s0).1, (vk s0).2) ∧ (((0 ≤ a1.toInt ∧ a1.toInt ≤ 2) ∧ v34.toInt = (s0.1 7 1).toInt ∧ (s36.1 7 1).toInt = a1.toInt) ∨ (¬ (0 ≤ a1.toInt ∧ a1.toInt ≤ 2) ∧ v34.toInt = -1 ∧ (s36.1 7 1).toInt = (s0.1 7 1).toInt))
        exact ⟨i37, k38, (by first | exact vk_l u39 (by rw [if_pos (by omega), z2]) | exact vk_l u39 (by rw [if_neg (by omega)])), (by first | exact Or.inl ⟨by omega, by omega, by rw [none]⟩ | exact Or.inr ⟨by omega, by omega, congrArg Int32.toInt (h35.2.1.1 7 1 rfl)⟩)⟩
def o_X10_deviation : List vg_I := [(0, .iload_n 2, 1, 0, 0, 0, 0), (1, .bipush (-99), 2, 0, 0, 0, 0), (3, .bipush 99, 2, 0, 0, 0, 0), (5, .invokestatic 82, 3, 0, 1, 3, 478), (8, .ifCond .ne 9, 3, 0, 0, 0, 0), (11, .aload_n 0, 1, 0, 0, 0, 0), (12, .iconst 1, 1, 0, 0, 0, 0), (13, .invokevirtual 90, 3, 1, 10, 1, 484), (16, .ireturn, 1, 0, 0, 0, 0), (17, .iload_n 1, 1, 0, 0, 0, 0), (18, .iconst 0, 1, 0, 0, 0, 0), (19, .bipush 15, 2, 0, 0, 0, 0), (21, .invokestatic 82, 3, 0, 1, 3, 478), (24, .ifCond .ne 9, 3, 0, 0, 0, 0), (27, .aload_n 0, 1, 0, 0, 0, 0), (28, .iconst 2, 1, 0, 0, 0, 0), (29, .invokevirtual 90, 3, 1, 10, 1, 484), (32, .ireturn, 1, 0, 0, 0, 0), (33, .aload_n 0, 1, 0, 0, 0, 0), (34, .getfield 26, 3, 432, 10, 5, 0), (37, .getfield 163, 3, 248, 2, 4, 0), (40, .iload_n 1, 1, 0, 0, 0, 0), (41, .iaload, 1, 0, 0, 0, 0), (42, .istore_n 3, 1, 0, 0, 0, 0), (43, .aload_n 0, 1, 0, 0, 0, 0), (44, .getfield 26, 3, 432, 10, 5, 0), (47, .getfield 163, 3, 248, 2, 4, 0), (50, .iload_n 1, 1, 0, 0, 0, 0), (51, .iload_n 2, 1, 0, 0, 0, 0), (52, .iastore, 1, 0, 0, 0, 0), (53, .aload_n 0, 1, 0, 0, 0, 0), (54, .iconst 2, 1, 0, 0, 0, 0), (55, .invokevirtual 106, 3, 2, 10, 1, 488), (58, .aload_n 0, 1, 0, 0, 0, 0), (59, .iload_n 3, 1, 0, 0, 0, 0), (60, .invokevirtual 113, 3, 3, 10, 1, 520), (63, .ireturn, 1, 0, 0, 0, 0)]
set_option maxRecDepth 100000 in
set_option maxHeartbeats 4000000 in
theorem c_X10_deviation (l : Launch) (G : vg_G) (hp : vg_Hp G) : vg_Ct l G vg_sh r_X10_deviation := by
  refine vg_meth hp vg_sh_ok r_X10_deviation k_X10_deviation rfl (fun h => by cases h) o_X10_deviation [r_X10_within, r_X10_refuse, r_X10_beginAnewFrom, r_X10_answer] false (by decide +kernel) (by decide +kernel) ⟨_, _, rfl, rfl⟩ (List.forall_mem_cons.mpr ⟨⟨c_X10_within l G hp, Nat.le_of_ble_eq_true rfl, Nat.le_of_ble_eq_true rfl⟩, List.forall_mem_cons.mpr ⟨⟨c_X10_refuse l G hp, Nat.le_of_ble_eq_true rfl, Nat.le_of_ble_eq_true rfl⟩, List.forall_mem_cons.mpr ⟨⟨c_X10_beginAnewFrom l G hp, Nat.le_of_ble_eq_true rfl, Nat.le_of_ble_eq_true rfl⟩, List.forall_mem_cons.mpr ⟨⟨c_X10_answer l G hp, Nat.le_of_ble_eq_true rfl, Nat.le_of_ble_eq_true rfl⟩, fun _ h => absurd h List.not_mem_nil⟩⟩⟩⟩) (fun h => by cases h) 600 ?_
  intro as s0 hpre
  obtain ⟨r, a1, a2, rfl, hr, i0⟩ := hpre
  simp only [List.mem_cons, List.not_mem_nil, or_false] at hr
  rcases hr with rfl
  ·
    have zm99 : (Int32.ofInt (-99)).toInt = -99 := by decide
    have z0 : (Int32.ofInt 0).toInt = 0 := by decide
    have z1 : (Int32.ofInt 1).toInt = 1 := by decide
    have z2 : (Int32.ofInt 2).toInt = 2 := by decide
    have z15 : (Int32.ofInt 15).toInt = 15 := by decide
    have z99 : (Int32.ofInt 99).toInt = 99 := by decide
    refine ⟨Nat.le_of_ble_eq_true rfl, [], ?_, fun _ h => absurd h List.not_mem_nil⟩
    ·
      refine And.intro (Nat.le_of_ble_eq_true rfl) (And.intro ⟨a2, (Int32.ofInt (-99)), (Int32.ofInt 99), rfl, trivial⟩ ?_)
      intro v1 s3 h2
      have h2 : s3 = s0 ∧ ((v1.toInt = 1 ∧ (Int32.ofInt (-99)).toInt ≤ a2.toInt ∧ a2.toInt ≤ (Int32.ofInt 99).toInt) ∨ (v1.toInt = 0 ∧ (a2.toInt < (Int32.ofInt (-99)).toInt ∨ (Int32.ofInt 99).toInt < a2.toInt))) := h2
      have q6 := h2.1.symm
      subst q6
      have q7 := h2.2
      refine And.intro (fun c8 => ?_) (fun c8 => ?_)
      · have c8 : ¬ v1.toInt = 0 := c8
        refine And.intro (Nat.le_of_ble_eq_true rfl) (And.intro ⟨a1, (Int32.ofInt 0), (Int32.ofInt 15), rfl, trivial⟩ ?_)
        intro v9 s11 h10
        have h10 : s11 = s0 ∧ ((v9.toInt = 1 ∧ (Int32.ofInt 0).toInt ≤ a1.toInt ∧ a1.toInt ≤ (Int32.ofInt 15).toInt) ∨ (v9.toInt = 0 ∧ (a1.toInt < (Int32.ofInt 0).toInt ∨ (Int32.ofInt 15).toInt < a1.toInt))) := h10
        have q14 := h10.1.symm
        subst q14
        have q15 := h10.2
        refine And.intro (fun c16 => ?_) (fun c16 => ?_)
        · have c16 : ¬ v9.toInt = 0 := c16
          refine And.intro ⟨by omega, by omega⟩ ?_
          intro v17 e18
          refine And.intro ⟨by omega, by omega⟩ ?_
          intro s19 e20
          have i21 : Iv s19 := Iv.a1 i0 e20 rfl
          have k22 : K_X10_deviation s0 s19 := Kx.u1 Kx.rf e20 rfl
          have u23 : vk s19 = ((vk s0).1, (vk s0).2) := vk_k1 rfl e20 rfl
          have y0 : ∀ j : Nat, s19.1 8 j = if j = a1.toNatClampNeg then a2 else s0.1 8 j := fun j => by rw [e20]; exact vg_u1_if
          refine And.intro (Nat.le_of_ble_eq_true rfl) (And.intro ⟨0, (Int32.ofInt 2), rfl, by decide, i21, by omega⟩ ?_)
          intro s25 h24
          have h24 : Iv s25 ∧ Kp s19 s25 ∧ vk s25 = (kb2 (Int32.ofInt 0) (Int32.ofInt 2).toInt 3 (vk s19).1, (vk s19).2) ∧ (True) := h24
          have i26 := h24.1
          have k27 : K_X10_deviation s0 s25 := Kx.tr k22 ((h24.2.1).px)
          have u28 : vk s25 = ((kb2 (Int32.ofInt 0) (Int32.ofInt 2).toInt 3 (vk s0).1), (vk s0).2) := (by rw [h24.2.2.1, u23])
          have y1 : ∀ j : Nat, s25.1 8 j = if j = a1.toNatClampNeg then a2 else s0.1 8 j := fun j => by rw [h24.2.1.1 8 j rfl]; exact y0 j
          refine And.intro (Nat.le_of_ble_eq_true rfl) (And.intro ⟨0, v17, rfl, by decide, i26⟩ ?_)
          intro v29 s31 h30
          have h30 : Iv s31 ∧ Kp s25 s31 ∧ vk s31 = ((vk s25).1, (vk s25).2) ∧ (v29 = v17 ∧ v29.toInt = v17.toInt) := h30
          have i32 := h30.1
          have k33 : K_X10_deviation s0 s31 := Kx.tr k27 ((h30.2.1).px)
          have u34 : vk s31 = ((kb2 (Int32.ofInt 0) (Int32.ofInt 2).toInt 3 (vk s0).1), (vk s0).2) := h30.2.2.1.trans u28
          have q35 := h30.2.2.2
          show Iv s31 ∧ K_X10_deviation s0 s31 ∧ vk s31 = (if (-99 ≤ a2.toInt ∧ a2.toInt ≤ 99 ∧ 0 ≤ a1.toInt ∧ a1.toInt ≤ 15) then kb2 (Int32.ofInt 0) 2 3 (vk s0).1 else (vk s0).1, (vk s0).2) ∧ (((-99 ≤ a2.toInt ∧ a2.toInt ≤ 99 ∧ 0 ≤ a1.toInt ∧ a1.toInt ≤ 15) ∧ v29 = s0.1 8 a1.toNatClampNeg ∧ ∀ j : Nat, s31.1 8 j = if j = a1.toNatClampNeg then a2 else s0.1 8 j) ∨ (¬ (-99 ≤ a2.toInt ∧ a2.toInt ≤ 99 ∧ 0 ≤ a1.toInt ∧ a1.toInt ≤ 15) ∧ v29.toInt = -1 ∧ ∀ j : Nat, s31.1 8 j = s0.1 8 j))
          exact ⟨i32, k33, (by first | exact vk_l u34 (by rw [if_pos (by omega), z2]) | exact vk_l u34 (by rw [if_neg (by omega)])), (by first | exact Or.inl ⟨by omega, by (rw [q35.1]; assumption), fun j => by rw [h30.2.1.1 8 j rfl]; exact y1 j⟩ | exact Or.inr ⟨by omega, by omega, fun j => h30.2.1.1 8 j rfl⟩)⟩
        · have c16 : ¬ (¬ v9.toInt = 0) := c16
          refine And.intro (Nat.le_of_ble_eq_true rfl) (And.intro ⟨0, (Int32.ofInt 2), rfl, by decide, i0⟩ ?_)
          intro v36 s38 h37
          have h37 : Iv s38 ∧ Kp s0 s38 ∧ vk s38 = ((vk s0).1, (vk s0).2) ∧ (v36.toInt = -1) := h37
          have i39 := h37.1
          have k40 : K_X10_deviation s0 s38 := Kx.tr Kx.rf ((h37.2.1).px)
          have u41 : vk s38 = ((vk s0).1, (vk s0).2) := h37.2.2.1.trans rfl
          have q42 := h37.2.2.2
          show Iv s38 ∧ K_X10_deviation s0 s38 ∧ vk s38 = (if (-99 ≤ a2.toInt ∧ a2.toInt ≤ 99 ∧ 0 ≤ a1.toInt ∧ a1.toInt ≤ 15) then kb2 (Int32.ofInt 0) 2 3 (vk s0).1 else (vk s0).1, (vk s0).2) ∧ (((-99 ≤ a2.toInt ∧ a2.toInt ≤ 99 ∧ 0 ≤ a1.toInt ∧ a1.toInt ≤ 15) ∧ v36 = s0.1 8 a1.toNatClampNeg ∧ ∀ j : Nat, s38.1 8 j = if j = a1.toNatClampNeg then a2 else s0.1 8 j) ∨ (¬ (-99 ≤ a2.toInt ∧ a2.toInt ≤ 99 ∧ 0 ≤ a1.toInt ∧ a1.toInt ≤ 15) ∧ v36.toInt = -1 ∧ ∀ j : Nat, s38.1 8 j = s0.1 8 j))
          exact ⟨i39, k40, (by first | exact vk_l u41 (by rw [if_pos (by omega), z2]) | exact vk_l u41 (by rw [if_neg (by omega)])), (by first | exact Or.inl ⟨by omega, by (rw [q42.1]; assumption), fun j => by rw [h37.2.1.1 8 j rfl]; exact y1 j⟩ | exact Or.inr ⟨by omega, by omega, fun j => h37.2.1.1 8 j rfl⟩)⟩
      · have c8 : ¬ (¬ v1.toInt = 0) := c8
        refine And.intro (Nat.le_of_ble_eq_true rfl) (And.intro ⟨0, (Int32.ofInt 1), rfl, by decide, i0⟩ ?_)
        intro v43 s45 h44
        have h44 : Iv s45 ∧ Kp s0 s45 ∧ vk s45 = ((vk s0).1, (vk s0).2) ∧ (v43.toInt = -1) := h44
        have i46 := h44.1
        have k47 : K_X10_deviation s0 s45 := Kx.tr Kx.rf ((h44.2.1).px)
        have u48 : vk s45 = ((vk s0).1, (vk s0).2) := h44.2.2.1.trans rfl
        have q49 := h44.2.2.2
        show Iv s45 ∧ K_X10_deviation s0 s45 ∧ vk s45 = (if (-99 ≤ a2.toInt ∧ a2.toInt ≤ 99 ∧ 0 ≤ a1.toInt ∧ a1.toInt ≤ 15) then kb2 (Int32.ofInt 0) 2 3 (vk s0).1 else (vk s0).1, (vk s0).2) ∧ (((-99 ≤ a2.toInt ∧ a2.toInt ≤ 99 ∧ 0 ≤ a1.toInt ∧ a1.toInt ≤ 15) ∧ v43 = s0.1 8 a1.toNatClampNeg ∧ ∀ j : Nat, s45.1 8 j = if j = a1.toNatClampNeg then a2 else s0.1 8 j) ∨ (¬ (-99 ≤ a2.toInt ∧ a2.toInt ≤ 99 ∧ 0 ≤ a1.toInt ∧ a1.toInt ≤ 15) ∧ v43.toInt = -1 ∧ ∀ j : Nat, s45.1 8 j = s0.1 8 j))
        exact ⟨i46, k47, (by first | exact vk_l u48 (by rw [if_pos (by omega), z2]) | exact vk_l u48 (by rw [if_neg (by omega)])), (by first | exact Or.inl ⟨by omega, by (rw [q49.1]; assumption), fun j => by rw [h44.2.1.1 8 j rfl]; exact y1 j⟩ | exact Or.inr ⟨by omega, by omega, fun j => h44.2.1.1 8 j rfl⟩)⟩
def o_X10_comb : List vg_I := [(0, .iload_n 1, 1, 0, 0, 0, 0), (1, .iconst 1, 1, 0, 0, 0, 0), (2, .iconst 5, 1, 0, 0, 0, 0), (3, .invokestatic 82, 3, 0, 1, 3, 478), (6, .ifCond .eq 34, 3, 0, 0, 0, 0), (9, .iload_n 2, 1, 0, 0, 0, 0), (10, .iconst 1, 1, 0, 0, 0, 0), (11, .bipush 16, 2, 0, 0, 0, 0), (13, .invokestatic 82, 3, 0, 1, 3, 478), (16, .ifCond .eq 24, 3, 0, 0, 0, 0), (19, .iload_n 3, 1, 0, 0, 0, 0), (20, .bipush 8, 2, 0, 0, 0, 0), (22, .bipush 32, 2, 0, 0, 0, 0), (24, .invokestatic 82, 3, 0, 1, 3, 478), (27, .ifCond .eq 13, 3, 0, 0, 0, 0), (30, .iload 4, 2, 0, 0, 0, 0), (32, .iconst 0, 1, 0, 0, 0, 0), (33, .iconst 1, 1, 0, 0, 0, 0), (34, .invokestatic 82, 3, 0, 1, 3, 478), (37, .ifCond .ne 9, 3, 0, 0, 0, 0), (40, .aload_n 0, 1, 0, 0, 0, 0), (41, .iconst 1, 1, 0, 0, 0, 0), (42, .invokevirtual 90, 3, 1, 10, 1, 484), (45, .ireturn, 1, 0, 0, 0, 0), (46, .aload_n 0, 1, 0, 0, 0, 0), (47, .getfield 33, 3, 433, 10, 6, 0), (50, .iload_n 1, 1, 0, 0, 0, 0), (51, .putfield 166, 3, 291, 1, 0, 0), (54, .aload_n 0, 1, 0, 0, 0, 0), (55, .getfield 33, 3, 433, 10, 6, 0), (58, .iload_n 2, 1, 0, 0, 0, 0), (59, .putfield 167, 3, 293, 1, 1, 0), (62, .aload_n 0, 1, 0, 0, 0, 0), (63, .getfield 33, 3, 433, 10, 6, 0), (66, .iload_n 3, 1, 0, 0, 0, 0), (67, .putfield 170, 3, 295, 1, 2, 0), (70, .aload_n 0, 1, 0, 0, 0, 0), (71, .getfield 33, 3, 433, 10, 6, 0), (74, .iload 4, 2, 0, 0, 0, 0), (76, .putfield 173, 3, 296, 1, 3, 0), (79, .aload_n 0, 1, 0, 0, 0, 0), (80, .iconst 3, 1, 0, 0, 0, 0), (81, .invokevirtual 106, 3, 2, 10, 1, 488), (84, .aload_n 0, 1, 0, 0, 0, 0), (85, .aload_n 0, 1, 0, 0, 0, 0), (86, .getfield 33, 3, 433, 10, 6, 0), (89, .iload 4, 2, 0, 0, 0, 0), (91, .ifCond .ne 13, 3, 0, 0, 0, 0), (94, .aload_n 0, 1, 0, 0, 0, 0), (95, .getfield 26, 3, 432, 10, 5, 0), (98, .getfield 148, 3, 240, 2, 0, 0), (101, .goto 10, 3, 0, 0, 0, 0), (104, .aload_n 0, 1, 0, 0, 0, 0), (105, .getfield 26, 3, 432, 10, 5, 0), (108, .invokevirtual 176, 3, 3, 2, 0, 556), (111, .invokevirtual 180, 3, 4, 1, 1, 568), (114, .invokevirtual 113, 3, 5, 10, 1, 520), (117, .ireturn, 1, 0, 0, 0, 0)]
set_option maxRecDepth 100000 in
set_option maxHeartbeats 4000000 in
theorem c_X10_comb (l : Launch) (G : vg_G) (hp : vg_Hp G) : vg_Ct l G vg_sh r_X10_comb := by
  refine vg_meth hp vg_sh_ok r_X10_comb k_X10_comb rfl (fun h => by cases h) o_X10_comb [r_X10_within, r_X10_refuse, r_X10_beginAnewFrom, r_X2_allWeights, r_X1_leastWidth, r_X10_answer] false (by decide +kernel) (by decide +kernel) ⟨_, _, rfl, rfl⟩ (List.forall_mem_cons.mpr ⟨⟨c_X10_within l G hp, Nat.le_of_ble_eq_true rfl, Nat.le_of_ble_eq_true rfl⟩, List.forall_mem_cons.mpr ⟨⟨c_X10_refuse l G hp, Nat.le_of_ble_eq_true rfl, Nat.le_of_ble_eq_true rfl⟩, List.forall_mem_cons.mpr ⟨⟨c_X10_beginAnewFrom l G hp, Nat.le_of_ble_eq_true rfl, Nat.le_of_ble_eq_true rfl⟩, List.forall_mem_cons.mpr ⟨⟨c_X2_allWeights l G hp, Nat.le_of_ble_eq_true rfl, Nat.le_of_ble_eq_true rfl⟩, List.forall_mem_cons.mpr ⟨⟨c_X1_leastWidth l G hp, Nat.le_of_ble_eq_true rfl, Nat.le_of_ble_eq_true rfl⟩, List.forall_mem_cons.mpr ⟨⟨c_X10_answer l G hp, Nat.le_of_ble_eq_true rfl, Nat.le_of_ble_eq_true rfl⟩, fun _ h => absurd h List.not_mem_nil⟩⟩⟩⟩⟩⟩) (fun h => by cases h) 600 ?_
  intro as s0 hpre
  obtain ⟨r, a1, a2, a3, a4, rfl, hr, i0⟩ := hpre
  simp only [List.mem_cons, List.not_mem_nil, or_false] at hr
  rcases hr with rfl
  ·
    have z0 : (Int32.ofInt 0).toInt = 0 := by decide
    have z1 : (Int32.ofInt 1).toInt = 1 := by decide
    have z3 : (Int32.ofInt 3).toInt = 3 := by decide
    have z5 : (Int32.ofInt 5).toInt = 5 := by decide
    have z8 : (Int32.ofInt 8).toInt = 8 := by decide
    have z16 : (Int32.ofInt 16).toInt = 16 := by decide
    have z32 : (Int32.ofInt 32).toInt = 32 := by decide
    refine ⟨Nat.le_of_ble_eq_true rfl, [], ?_, fun _ h => absurd h List.not_mem_nil⟩
    ·
      refine And.intro (Nat.le_of_ble_eq_true rfl) (And.intro ⟨a1, (Int32.ofInt 1), (Int32.ofInt 5), rfl, trivial⟩ ?_)
      intro v1 s3 h2
      have h2 : s3 = s0 ∧ ((v1.toInt = 1 ∧ (Int32.ofInt 1).toInt ≤ a1.toInt ∧ a1.toInt ≤ (Int32.ofInt 5).toInt) ∨ (v1.toInt = 0 ∧ (a1.toInt < (Int32.ofInt 1).toInt ∨ (Int32.ofInt 5).toInt < a1.toInt))) := h2
      have q6 := h2.1.symm
      subst q6
      have q7 := h2.2
      refine And.intro (fun c8 => ?_) (fun c8 => ?_)
      · have c8 : v1.toInt = 0 := c8
        refine And.intro (Nat.le_of_ble_eq_true rfl) (And.intro ⟨0, (Int32.ofInt 1), rfl, by decide, i0⟩ ?_)
        intro v9 s11 h10
        have h10 : Iv s11 ∧ Kp s0 s11 ∧ vk s11 = ((vk s0).1, (vk s0).2) ∧ (v9.toInt = -1) := h10
        have i12 := h10.1
        have k13 : K_X10_comb s0 s11 := Kx.tr Kx.rf ((h10.2.1).px)
        have u14 : vk s11 = ((vk s0).1, (vk s0).2) := h10.2.2.1.trans rfl
        have q15 := h10.2.2.2
        show Iv s11 ∧ K_X10_comb s0 s11 ∧ vk s11 = (if (1 ≤ a1.toInt ∧ a1.toInt ≤ 5 ∧ 1 ≤ a2.toInt ∧ a2.toInt ≤ 16 ∧ 8 ≤ a3.toInt ∧ a3.toInt ≤ 32 ∧ 0 ≤ a4.toInt ∧ a4.toInt ≤ 1) then kb2 (Int32.ofInt 0) 3 3 (vk s0).1 else (vk s0).1, (vk s0).2) ∧ (((1 ≤ a1.toInt ∧ a1.toInt ≤ 5 ∧ 1 ≤ a2.toInt ∧ a2.toInt ≤ 16 ∧ 8 ≤ a3.toInt ∧ a3.toInt ≤ 32 ∧ 0 ≤ a4.toInt ∧ a4.toInt ≤ 1) ∧ (s11.1 12 0).toInt = a1.toInt ∧ (s11.1 12 1).toInt = a2.toInt ∧ vg_isneed (vg_mp a2.toInt64 (vg_cx a4 (s0.1 7 0) (s0.1 8)).toInt64 a1.toNatClampNeg) v9) ∨ (¬ (1 ≤ a1.toInt ∧ a1.toInt ≤ 5 ∧ 1 ≤ a2.toInt ∧ a2.toInt ≤ 16 ∧ 8 ≤ a3.toInt ∧ a3.toInt ≤ 32 ∧ 0 ≤ a4.toInt ∧ a4.toInt ≤ 1) ∧ (s11.1 12 0).toInt = (s0.1 12 0).toInt ∧ (s11.1 12 1).toInt = (s0.1 12 1).toInt ∧ v9.toInt = -1))
        exact ⟨i12, k13, (by first | exact vk_l u14 (by rw [if_pos (by omega), z3]) | exact vk_l u14 (by rw [if_neg (by omega)])), (by first | exact Or.inl ⟨by omega, by rw [none], by rw [none], by rw [q15.1]; exact y1⟩ | exact Or.inr ⟨by omega, congrArg Int32.toInt (h10.2.1.1 12 0 rfl), congrArg Int32.toInt (h10.2.1.1 12 1 rfl), by omega⟩)⟩
      · have c8 : ¬ (v1.toInt = 0) := c8
        refine And.intro (Nat.le_of_ble_eq_true rfl) (And.intro ⟨a2, (Int32.ofInt 1), (Int32.ofInt 16), rfl, trivial⟩ ?_)
        intro v16 s18 h17
        have h17 : s18 = s0 ∧ ((v16.toInt = 1 ∧ (Int32.ofInt 1).toInt ≤ a2.toInt ∧ a2.toInt ≤ (Int32.ofInt 16).toInt) ∨ (v16.toInt = 0 ∧ (a2.toInt < (Int32.ofInt 1).toInt ∨ (Int32.ofInt 16).toInt < a2.toInt))) := h17
        have q21 := h17.1.symm
        subst q21
        have q22 := h17.2
        refine And.intro (fun c23 => ?_) (fun c23 => ?_)
        · have c23 : v16.toInt = 0 := c23
          refine And.intro (Nat.le_of_ble_eq_true rfl) (And.intro ⟨0, (Int32.ofInt 1), rfl, by decide, i0⟩ ?_)
          intro v24 s26 h25
          have h25 : Iv s26 ∧ Kp s0 s26 ∧ vk s26 = ((vk s0).1, (vk s0).2) ∧ (v24.toInt = -1) := h25
          have i27 := h25.1
          have k28 : K_X10_comb s0 s26 := Kx.tr Kx.rf ((h25.2.1).px)
          have u29 : vk s26 = ((vk s0).1, (vk s0).2) := h25.2.2.1.trans rfl
          have q30 := h25.2.2.2
          show Iv s26 ∧ K_X10_comb s0 s26 ∧ vk s26 = (if (1 ≤ a1.toInt ∧ a1.toInt ≤ 5 ∧ 1 ≤ a2.toInt ∧ a2.toInt ≤ 16 ∧ 8 ≤ a3.toInt ∧ a3.toInt ≤ 32 ∧ 0 ≤ a4.toInt ∧ a4.toInt ≤ 1) then kb2 (Int32.ofInt 0) 3 3 (vk s0).1 else (vk s0).1, (vk s0).2) ∧ (((1 ≤ a1.toInt ∧ a1.toInt ≤ 5 ∧ 1 ≤ a2.toInt ∧ a2.toInt ≤ 16 ∧ 8 ≤ a3.toInt ∧ a3.toInt ≤ 32 ∧ 0 ≤ a4.toInt ∧ a4.toInt ≤ 1) ∧ (s26.1 12 0).toInt = a1.toInt ∧ (s26.1 12 1).toInt = a2.toInt ∧ vg_isneed (vg_mp a2.toInt64 (vg_cx a4 (s0.1 7 0) (s0.1 8)).toInt64 a1.toNatClampNeg) v24) ∨ (¬ (1 ≤ a1.toInt ∧ a1.toInt ≤ 5 ∧ 1 ≤ a2.toInt ∧ a2.toInt ≤ 16 ∧ 8 ≤ a3.toInt ∧ a3.toInt ≤ 32 ∧ 0 ≤ a4.toInt ∧ a4.toInt ≤ 1) ∧ (s26.1 12 0).toInt = (s0.1 12 0).toInt ∧ (s26.1 12 1).toInt = (s0.1 12 1).toInt ∧ v24.toInt = -1))
          exact ⟨i27, k28, (by first | exact vk_l u29 (by rw [if_pos (by omega), z3]) | exact vk_l u29 (by rw [if_neg (by omega)])), (by first | exact Or.inl ⟨by omega, by rw [none], by rw [none], by rw [q30.1]; exact y1⟩ | exact Or.inr ⟨by omega, congrArg Int32.toInt (h25.2.1.1 12 0 rfl), congrArg Int32.toInt (h25.2.1.1 12 1 rfl), by omega⟩)⟩
        · have c23 : ¬ (v16.toInt = 0) := c23
          refine And.intro (Nat.le_of_ble_eq_true rfl) (And.intro ⟨a3, (Int32.ofInt 8), (Int32.ofInt 32), rfl, trivial⟩ ?_)
          intro v31 s33 h32
          have h32 : s33 = s0 ∧ ((v31.toInt = 1 ∧ (Int32.ofInt 8).toInt ≤ a3.toInt ∧ a3.toInt ≤ (Int32.ofInt 32).toInt) ∨ (v31.toInt = 0 ∧ (a3.toInt < (Int32.ofInt 8).toInt ∨ (Int32.ofInt 32).toInt < a3.toInt))) := h32
          have q36 := h32.1.symm
          subst q36
          have q37 := h32.2
          refine And.intro (fun c38 => ?_) (fun c38 => ?_)
          · have c38 : v31.toInt = 0 := c38
            refine And.intro (Nat.le_of_ble_eq_true rfl) (And.intro ⟨0, (Int32.ofInt 1), rfl, by decide, i0⟩ ?_)
            intro v39 s41 h40
            have h40 : Iv s41 ∧ Kp s0 s41 ∧ vk s41 = ((vk s0).1, (vk s0).2) ∧ (v39.toInt = -1) := h40
            have i42 := h40.1
            have k43 : K_X10_comb s0 s41 := Kx.tr Kx.rf ((h40.2.1).px)
            have u44 : vk s41 = ((vk s0).1, (vk s0).2) := h40.2.2.1.trans rfl
            have q45 := h40.2.2.2
            show Iv s41 ∧ K_X10_comb s0 s41 ∧ vk s41 = (if (1 ≤ a1.toInt ∧ a1.toInt ≤ 5 ∧ 1 ≤ a2.toInt ∧ a2.toInt ≤ 16 ∧ 8 ≤ a3.toInt ∧ a3.toInt ≤ 32 ∧ 0 ≤ a4.toInt ∧ a4.toInt ≤ 1) then kb2 (Int32.ofInt 0) 3 3 (vk s0).1 else (vk s0).1, (vk s0).2) ∧ (((1 ≤ a1.toInt ∧ a1.toInt ≤ 5 ∧ 1 ≤ a2.toInt ∧ a2.toInt ≤ 16 ∧ 8 ≤ a3.toInt ∧ a3.toInt ≤ 32 ∧ 0 ≤ a4.toInt ∧ a4.toInt ≤ 1) ∧ (s41.1 12 0).toInt = a1.toInt ∧ (s41.1 12 1).toInt = a2.toInt ∧ vg_isneed (vg_mp a2.toInt64 (vg_cx a4 (s0.1 7 0) (s0.1 8)).toInt64 a1.toNatClampNeg) v39) ∨ (¬ (1 ≤ a1.toInt ∧ a1.toInt ≤ 5 ∧ 1 ≤ a2.toInt ∧ a2.toInt ≤ 16 ∧ 8 ≤ a3.toInt ∧ a3.toInt ≤ 32 ∧ 0 ≤ a4.toInt ∧ a4.toInt ≤ 1) ∧ (s41.1 12 0).toInt = (s0.1 12 0).toInt ∧ (s41.1 12 1).toInt = (s0.1 12 1).toInt ∧ v39.toInt = -1))
            exact ⟨i42, k43, (by first | exact vk_l u44 (by rw [if_pos (by omega), z3]) | exact vk_l u44 (by rw [if_neg (by omega)])), (by first | exact Or.inl ⟨by omega, by rw [none], by rw [none], by rw [q45.1]; exact y1⟩ | exact Or.inr ⟨by omega, congrArg Int32.toInt (h40.2.1.1 12 0 rfl), congrArg Int32.toInt (h40.2.1.1 12 1 rfl), by omega⟩)⟩
          · have c38 : ¬ (v31.toInt = 0) := c38
            refine And.intro (Nat.le_of_ble_eq_true rfl) (And.intro ⟨a4, (Int32.ofInt 0), (Int32.ofInt 1), rfl, trivial⟩ ?_)
            intro v46 s48 h47
            have h47 : s48 = s0 ∧ ((v46.toInt = 1 ∧ (Int32.ofInt 0).toInt ≤ a4.toInt ∧ a4.toInt ≤ (Int32.ofInt 1).toInt) ∨ (v46.toInt = 0 ∧ (a4.toInt < (Int32.ofInt 0).toInt ∨ (Int32.ofInt 1).toInt < a4.toInt))) := h47
            have q51 := h47.1.symm
            subst q51
            have q52 := h47.2
            refine And.intro (fun c53 => ?_) (fun c53 => ?_)
            · have c53 : ¬ v46.toInt = 0 := c53
              intro s54 e55
              have i56 : Iv s54 := Iv.c1 (lo := 1) (hi := 5) i0 e55 rfl (by omega) (by omega)
              have k57 : K_X10_comb s0 s54 := Kx.u1 Kx.rf e55 rfl
              have u58 : vk s54 = ((vk s0).1, (vk s0).2) := vk_k1 rfl e55 rfl
              have g59 : s54.1 12 0 = a1 := by rw [e55]; exact vg_u1_self
              intro s60 e61
              have i62 : Iv s60 := Iv.c1 (lo := 1) (hi := 16) i56 e61 rfl (by omega) (by omega)
              have k63 : K_X10_comb s0 s60 := Kx.u1 k57 e61 rfl
              have u64 : vk s60 = ((vk s0).1, (vk s0).2) := vk_k1 u58 e61 rfl
              have g65 : s60.1 12 0 = a1 := by rw [e61, vg_u1_at (a := 12) (b := 0) (k := 12) (i := 1) (by decide)]; exact g59
              have g66 : s60.1 12 1 = a2 := by rw [e61]; exact vg_u1_self
              intro s67 e68
              have i69 : Iv s67 := Iv.c1 (lo := 8) (hi := 32) i62 e68 rfl (by omega) (by omega)
              have k70 : K_X10_comb s0 s67 := Kx.u1 k63 e68 rfl
              have u71 : vk s67 = ((vk s0).1, (vk s0).2) := vk_k1 u64 e68 rfl
              have g72 : s67.1 12 0 = a1 := by rw [e68, vg_u1_at (a := 12) (b := 0) (k := 12) (i := 2) (by decide)]; exact g65
              have g73 : s67.1 12 1 = a2 := by rw [e68, vg_u1_at (a := 12) (b := 1) (k := 12) (i := 2) (by decide)]; exact g66
              intro s74 e75
              have i76 : Iv s74 := Iv.u1 i69 e75 rfl
              have k77 : K_X10_comb s0 s74 := Kx.u1 k70 e75 rfl
              have u78 : vk s74 = ((vk s0).1, (vk s0).2) := vk_k1 u71 e75 rfl
              have g79 : s74.1 12 0 = a1 := by rw [e75, vg_u1_at (a := 12) (b := 0) (k := 12) (i := 3) (by decide)]; exact g72
              have g80 : s74.1 12 1 = a2 := by rw [e75, vg_u1_at (a := 12) (b := 1) (k := 12) (i := 3) (by decide)]; exact g73
              refine And.intro (Nat.le_of_ble_eq_true rfl) (And.intro ⟨0, (Int32.ofInt 3), rfl, by decide, i76, by omega⟩ ?_)
              intro s82 h81
              have h81 : Iv s82 ∧ Kp s74 s82 ∧ vk s82 = (kb2 (Int32.ofInt 0) (Int32.ofInt 3).toInt 3 (vk s74).1, (vk s74).2) ∧ (True) := h81
              have i83 := h81.1
              have k84 : K_X10_comb s0 s82 := Kx.tr k77 ((h81.2.1).px)
              have u85 : vk s82 = ((kb2 (Int32.ofInt 0) (Int32.ofInt 3).toInt 3 (vk s0).1), (vk s0).2) := (by rw [h81.2.2.1, u78])
              have g86 : s82.1 12 0 = a1 := by rw [h81.2.1.1 12 0 rfl]; exact g79
              have g87 : s82.1 12 1 = a2 := by rw [h81.2.1.1 12 1 rfl]; exact g80
              refine And.intro (fun c88 => ?_) (fun c88 => ?_)
              · have c88 : ¬ a4.toInt = 0 := c88
                refine And.intro (Nat.le_of_ble_eq_true rfl) (And.intro ⟨7, rfl, by decide, i83⟩ ?_)
                intro v89 s91 h90
                have h90 : s91 = s82 ∧ (v89 = vg_ws (s82.1 8) (s82.1 7 0).toNatClampNeg) := h90
                have q94 := h90.1.symm
                subst q94
                have q95 := h90.2
                have y0 : v89 = vg_cx a4 (s0.1 7 0) (s0.1 8) := by first | (rw [vg_cx, if_pos (by omega), None]; exact k84.1 7 0 rfl) | (rw [vg_cx, if_neg (by omega), q95, k84.1 7 0 rfl]; exact vg_ws_congr (fun j _ => k84.1 8 j rfl))
                refine And.intro (Nat.le_of_ble_eq_true rfl) (And.intro ⟨12, v89, rfl, by decide, i83⟩ ?_)
                intro v96 s98 h97
                have h97 : s98 = s82 ∧ (vg_isneed (vg_mp (s82.1 12 1).toInt64 v89.toInt64 (s82.1 12 0).toNatClampNeg) v96) := h97
                have q101 := h97.1.symm
                subst q101
                have q102 := h97.2
                have y1 : vg_isneed (vg_mp a2.toInt64 (vg_cx a4 (s0.1 7 0) (s0.1 8)).toInt64 a1.toNatClampNeg) v96 := vg_cned q102 g86 g87 y0
                refine And.intro (Nat.le_of_ble_eq_true rfl) (And.intro ⟨0, v96, rfl, by decide, i83⟩ ?_)
                intro v103 s105 h104
                have h104 : Iv s105 ∧ Kp s82 s105 ∧ vk s105 = ((vk s82).1, (vk s82).2) ∧ (v103 = v96 ∧ v103.toInt = v96.toInt) := h104
                have i106 := h104.1
                have k107 : K_X10_comb s0 s105 := Kx.tr k84 ((h104.2.1).px)
                have u108 : vk s105 = ((kb2 (Int32.ofInt 0) (Int32.ofInt 3).toInt 3 (vk s0).1), (vk s0).2) := h104.2.2.1.trans u85
                have q109 := h104.2.2.2
                have g110 : s105.1 12 0 = a1 := by rw [h104.2.1.1 12 0 rfl]; exact g86
                have g111 : s105.1 12 1 = a2 := by rw [h104.2.1.1 12 1 rfl]; exact g87
                show Iv s105 ∧ K_X10_comb s0 s105 ∧ vk s105 = (if (1 ≤ a1.toInt ∧ a1.toInt ≤ 5 ∧ 1 ≤ a2.toInt ∧ a2.toInt ≤ 16 ∧ 8 ≤ a3.toInt ∧ a3.toInt ≤ 32 ∧ 0 ≤ a4.toInt ∧ a4.toInt ≤ 1) then kb2 (Int32.ofInt 0) 3 3 (vk s0).1 else (vk s0).1, (vk s0).2) ∧ (((1 ≤ a1.toInt ∧ a1.toInt ≤ 5 ∧ 1 ≤ a2.toInt ∧ a2.toInt ≤ 16 ∧ 8 ≤ a3.toInt ∧ a3.toInt ≤ 32 ∧ 0 ≤ a4.toInt ∧ a4.toInt ≤ 1) ∧ (s105.1 12 0).toInt = a1.toInt ∧ (s105.1 12 1).toInt = a2.toInt ∧ vg_isneed (vg_mp a2.toInt64 (vg_cx a4 (s0.1 7 0) (s0.1 8)).toInt64 a1.toNatClampNeg) v103) ∨ (¬ (1 ≤ a1.toInt ∧ a1.toInt ≤ 5 ∧ 1 ≤ a2.toInt ∧ a2.toInt ≤ 16 ∧ 8 ≤ a3.toInt ∧ a3.toInt ≤ 32 ∧ 0 ≤ a4.toInt ∧ a4.toInt ≤ 1) ∧ (s105.1 12 0).toInt = (s0.1 12 0).toInt ∧ (s105.1 12 1).toInt = (s0.1 12 1).toInt ∧ v103.toInt = -1))
                exact ⟨i106, k107, (by first | exact vk_l u108 (by rw [if_pos (by omega), z3]) | exact vk_l u108 (by rw [if_neg (by omega)])), (by first | exact Or.inl ⟨by omega, by rw [g110], by rw [g111], by rw [q109.1]; exact y1⟩ | exact Or.inr ⟨by omega, congrArg Int32.toInt (h104.2.1.1 12 0 rfl), congrArg Int32.toInt (h104.2.1.1 12 1 rfl), by omega⟩)⟩
              · have c88 : ¬ (¬ a4.toInt = 0) := c88
                intro v112 e113
                have g114 : s82.1 7 0 = v112 := by rw [e113]
                have b115 : (1 : Int) ≤ v112.toInt ∧ v112.toInt ≤ 16 := by rw [e113]; exact Iv_7_0 i83
                have y0 : v112 = vg_cx a4 (s0.1 7 0) (s0.1 8) := by first | (rw [vg_cx, if_pos (by omega), e113]; exact k84.1 7 0 rfl) | (rw [vg_cx, if_neg (by omega), q52, k84.1 7 0 rfl]; exact vg_ws_congr (fun j _ => k84.1 8 j rfl))
                refine And.intro (Nat.le_of_ble_eq_true rfl) (And.intro ⟨12, v112, rfl, by decide, i83⟩ ?_)
                intro v116 s118 h117
                have h117 : s118 = s82 ∧ (vg_isneed (vg_mp (s82.1 12 1).toInt64 v112.toInt64 (s82.1 12 0).toNatClampNeg) v116) := h117
                have q121 := h117.1.symm
                subst q121
                have q122 := h117.2
                have y1 : vg_isneed (vg_mp a2.toInt64 (vg_cx a4 (s0.1 7 0) (s0.1 8)).toInt64 a1.toNatClampNeg) v116 := vg_cned q122 g86 g87 y0
                refine And.intro (Nat.le_of_ble_eq_true rfl) (And.intro ⟨0, v116, rfl, by decide, i83⟩ ?_)
                intro v123 s125 h124
                have h124 : Iv s125 ∧ Kp s82 s125 ∧ vk s125 = ((vk s82).1, (vk s82).2) ∧ (v123 = v116 ∧ v123.toInt = v116.toInt) := h124
                have i126 := h124.1
                have k127 : K_X10_comb s0 s125 := Kx.tr k84 ((h124.2.1).px)
                have u128 : vk s125 = ((kb2 (Int32.ofInt 0) (Int32.ofInt 3).toInt 3 (vk s0).1), (vk s0).2) := h124.2.2.1.trans u85
                have q129 := h124.2.2.2
                have g130 : s125.1 12 0 = a1 := by rw [h124.2.1.1 12 0 rfl]; exact g86
                have g131 : s125.1 12 1 = a2 := by rw [h124.2.1.1 12 1 rfl]; exact g87
                show Iv s125 ∧ K_X10_comb s0 s125 ∧ vk s125 = (if (1 ≤ a1.toInt ∧ a1.toInt ≤ 5 ∧ 1 ≤ a2.toInt ∧ a2.toInt ≤ 16 ∧ 8 ≤ a3.toInt ∧ a3.toInt ≤ 32 ∧ 0 ≤ a4.toInt ∧ a4.toInt ≤ 1) then kb2 (Int32.ofInt 0) 3 3 (vk s0).1 else (vk s0).1, (vk s0).2) ∧ (((1 ≤ a1.toInt ∧ a1.toInt ≤ 5 ∧ 1 ≤ a2.toInt ∧ a2.toInt ≤ 16 ∧ 8 ≤ a3.toInt ∧ a3.toInt ≤ 32 ∧ 0 ≤ a4.toInt ∧ a4.toInt ≤ 1) ∧ (s125.1 12 0).toInt = a1.toInt ∧ (s125.1 12 1).toInt = a2.toInt ∧ vg_isneed (vg_mp a2.toInt64 (vg_cx a4 (s0.1 7 0) (s0.1 8)).toInt64 a1.toNatClampNeg) v123) ∨ (¬ (1 ≤ a1.toInt ∧ a1.toInt ≤ 5 ∧ 1 ≤ a2.toInt ∧ a2.toInt ≤ 16 ∧ 8 ≤ a3.toInt ∧ a3.toInt ≤ 32 ∧ 0 ≤ a4.toInt ∧ a4.toInt ≤ 1) ∧ (s125.1 12 0).toInt = (s0.1 12 0).toInt ∧ (s125.1 12 1).toInt = (s0.1 12 1).toInt ∧ v123.toInt = -1))
                exact ⟨i126, k127, (by first | exact vk_l u128 (by rw [if_pos (by omega), z3]) | exact vk_l u128 (by rw [if_neg (by omega)])), (by first | exact Or.inl ⟨by omega, by rw [g130], by rw [g131], by rw [q129.1]; exact y1⟩ | exact Or.inr ⟨by omega, congrArg Int32.toInt (h124.2.1.1 12 0 rfl), congrArg Int32.toInt (h124.2.1.1 12 1 rfl), by omega⟩)⟩
            · have c53 : ¬ (¬ v46.toInt = 0) := c53
              refine And.intro (Nat.le_of_ble_eq_true rfl) (And.intro ⟨0, (Int32.ofInt 1), rfl, by decide, i0⟩ ?_)
              intro v132 s134 h133
              have h133 : Iv s134 ∧ Kp s0 s134 ∧ vk s134 = ((vk s0).1, (vk s0).2) ∧ (v132.toInt = -1) := h133
              have i135 := h133.1
              have k136 : K_X10_comb s0 s134 := Kx.tr Kx.rf ((h133.2.1).px)
              have u137 : vk s134 = ((vk s0).1, (vk s0).2) := h133.2.2.1.trans rfl
              have q138 := h133.2.2.2
              show Iv s134 ∧ K_X10_comb s0 s134 ∧ vk s134 = (if (1 ≤ a1.toInt ∧ a1.toInt ≤ 5 ∧ 1 ≤ a2.toInt ∧ a2.toInt ≤ 16 ∧ 8 ≤ a3.toInt ∧ a3.toInt ≤ 32 ∧ 0 ≤ a4.toInt ∧ a4.toInt ≤ 1) then kb2 (Int32.ofInt 0) 3 3 (vk s0).1 else (vk s0).1, (vk s0).2) ∧ (((1 ≤ a1.toInt ∧ a1.toInt ≤ 5 ∧ 1 ≤ a2.toInt ∧ a2.toInt ≤ 16 ∧ 8 ≤ a3.toInt ∧ a3.toInt ≤ 32 ∧ 0 ≤ a4.toInt ∧ a4.toInt ≤ 1) ∧ (s134.1 12 0).toInt = a1.toInt ∧ (s134.1 12 1).toInt = a2.toInt ∧ vg_isneed (vg_mp a2.toInt64 (vg_cx a4 (s0.1 7 0) (s0.1 8)).toInt64 a1.toNatClampNeg) v132) ∨ (¬ (1 ≤ a1.toInt ∧ a1.toInt ≤ 5 ∧ 1 ≤ a2.toInt ∧ a2.toInt ≤ 16 ∧ 8 ≤ a3.toInt ∧ a3.toInt ≤ 32 ∧ 0 ≤ a4.toInt ∧ a4.toInt ≤ 1) ∧ (s134.1 12 0).toInt = (s0.1 12 0).toInt ∧ (s134.1 12 1).toInt = (s0.1 12 1).toInt ∧ v132.toInt = -1))
              exact ⟨i135, k136, (by first | exact vk_l u137 (by rw [if_pos (by omega), z3]) | exact vk_l u137 (by rw [if_neg (by omega)])), (by first | exact Or.inl ⟨by omega, by rw [none], by rw [none], by rw [q138.1]; exact y1⟩ | exact Or.inr ⟨by omega, congrArg Int32.toInt (h133.2.1.1 12 0 rfl), congrArg Int32.toInt (h133.2.1.1 12 1 rfl), by omega⟩)⟩
def o_X10_taps : List vg_I := [(0, .iload_n 1, 1, 0, 0, 0, 0), (1, .invokestatic 183, 3, 0, 1, 1, 576), (4, .ifCond .eq 36, 3, 0, 0, 0, 0), (7, .iload_n 2, 1, 0, 0, 0, 0), (8, .invokestatic 183, 3, 0, 1, 1, 576), (11, .ifCond .eq 29, 3, 0, 0, 0, 0), (14, .iload_n 3, 1, 0, 0, 0, 0), (15, .invokestatic 183, 3, 0, 1, 1, 576), (18, .ifCond .eq 22, 3, 0, 0, 0, 0), (21, .iload 4, 2, 0, 0, 0, 0), (23, .invokestatic 183, 3, 0, 1, 1, 576), (26, .ifCond .eq 14, 3, 0, 0, 0, 0), (29, .iload 5, 2, 0, 0, 0, 0), (31, .iconst 0, 1, 0, 0, 0, 0), (32, .bipush 12, 2, 0, 0, 0, 0), (34, .invokestatic 82, 3, 1, 1, 3, 478), (37, .ifCond .ne 9, 3, 0, 0, 0, 0), (40, .aload_n 0, 1, 0, 0, 0, 0), (41, .iconst 1, 1, 0, 0, 0, 0), (42, .invokevirtual 90, 3, 2, 10, 1, 484), (45, .ireturn, 1, 0, 0, 0, 0), (46, .aload_n 0, 1, 0, 0, 0, 0), (47, .getfield 40, 3, 434, 10, 7, 0), (50, .iload_n 1, 1, 0, 0, 0, 0), (51, .iload_n 2, 1, 0, 0, 0, 0), (52, .iload_n 3, 1, 0, 0, 0, 0), (53, .iload 4, 2, 0, 0, 0, 0), (55, .iload 5, 2, 0, 0, 0, 0), (57, .invokevirtual 186, 3, 3, 8, 5, 579), (60, .aload_n 0, 1, 0, 0, 0, 0), (61, .iconst 4, 1, 0, 0, 0, 0), (62, .invokevirtual 106, 3, 4, 10, 1, 488), (65, .aload_n 0, 1, 0, 0, 0, 0), (66, .aload_n 0, 1, 0, 0, 0, 0), (67, .getfield 40, 3, 434, 10, 7, 0), (70, .iconst 3, 1, 0, 0, 0, 0), (71, .invokevirtual 190, 3, 5, 8, 1, 583), (74, .invokevirtual 113, 3, 6, 10, 1, 520), (77, .ireturn, 1, 0, 0, 0, 0)]
set_option maxRecDepth 100000 in
set_option maxHeartbeats 4000000 in
theorem c_X10_taps (l : Launch) (G : vg_G) (hp : vg_Hp G) : vg_Ct l G vg_sh r_X10_taps := by
  refine vg_meth hp vg_sh_ok r_X10_taps k_X10_taps rfl (fun h => by cases h) o_X10_taps [r_X10_isTap, r_X10_within, r_X10_refuse, r_X8_tell, r_X10_beginAnewFrom, r_X8_sumOf, r_X10_answer] false (by decide +kernel) (by decide +kernel) ⟨_, _, rfl, rfl⟩ (List.forall_mem_cons.mpr ⟨⟨c_X10_isTap l G hp, Nat.le_of_ble_eq_true rfl, Nat.le_of_ble_eq_true rfl⟩, List.forall_mem_cons.mpr ⟨⟨c_X10_within l G hp, Nat.le_of_ble_eq_true rfl, Nat.le_of_ble_eq_true rfl⟩, List.forall_mem_cons.mpr ⟨⟨c_X10_refuse l G hp, Nat.le_of_ble_eq_true rfl, Nat.le_of_ble_eq_true rfl⟩, List.forall_mem_cons.mpr ⟨⟨c_X8_tell l G hp, Nat.le_of_ble_eq_true rfl, Nat.le_of_ble_eq_true rfl⟩, List.forall_mem_cons.mpr ⟨⟨c_X10_beginAnewFrom l G hp, Nat.le_of_ble_eq_true rfl, Nat.le_of_ble_eq_true rfl⟩, List.forall_mem_cons.mpr ⟨⟨c_X8_sumOf l G hp, Nat.le_of_ble_eq_true rfl, Nat.le_of_ble_eq_true rfl⟩, List.forall_mem_cons.mpr ⟨⟨c_X10_answer l G hp, Nat.le_of_ble_eq_true rfl, Nat.le_of_ble_eq_true rfl⟩, fun _ h => absurd h List.not_mem_nil⟩⟩⟩⟩⟩⟩⟩) (fun h => by cases h) 600 ?_
  intro as s0 hpre
  obtain ⟨r, a1, a2, a3, a4, a5, rfl, hr, i0⟩ := hpre
  simp only [List.mem_cons, List.not_mem_nil, or_false] at hr
  rcases hr with rfl
  ·
    have z0 : (Int32.ofInt 0).toInt = 0 := by decide
    have z1 : (Int32.ofInt 1).toInt = 1 := by decide
    have z3 : (Int32.ofInt 3).toInt = 3 := by decide
    have z4 : (Int32.ofInt 4).toInt = 4 := by decide
    have z12 : (Int32.ofInt 12).toInt = 12 := by decide
    refine ⟨Nat.le_of_ble_eq_true rfl, [], ?_, fun _ h => absurd h List.not_mem_nil⟩
    ·
      refine And.intro (Nat.le_of_ble_eq_true rfl) (And.intro ⟨a1, rfl, trivial⟩ ?_)
      intro v1 s3 h2
      have h2 : s3 = s0 ∧ ((v1.toInt = 1 ∧ -999 ≤ a1.toInt ∧ a1.toInt ≤ 999) ∨ (v1.toInt = 0 ∧ (a1.toInt < -999 ∨ 999 < a1.toInt))) := h2
      have q6 := h2.1.symm
      subst q6
      have q7 := h2.2
      refine And.intro (fun c8 => ?_) (fun c8 => ?_)
      · have c8 : v1.toInt = 0 := c8
        refine And.intro (Nat.le_of_ble_eq_true rfl) (And.intro ⟨0, (Int32.ofInt 1), rfl, by decide, i0⟩ ?_)
        intro v9 s11 h10
        have h10 : Iv s11 ∧ Kp s0 s11 ∧ vk s11 = ((vk s0).1, (vk s0).2) ∧ (v9.toInt = -1) := h10
        have i12 := h10.1
        have k13 : K_X10_taps s0 s11 := Kx.tr Kx.rf ((h10.2.1).px)
        have u14 : vk s11 = ((vk s0).1, (vk s0).2) := h10.2.2.1.trans rfl
        have q15 := h10.2.2.2
        show Iv s11 ∧ K_X10_taps s0 s11 ∧ vk s11 = (if (-999 ≤ a1.toInt ∧ a1.toInt ≤ 999 ∧ -999 ≤ a2.toInt ∧ a2.toInt ≤ 999 ∧ -999 ≤ a3.toInt ∧ a3.toInt ≤ 999 ∧ -999 ≤ a4.toInt ∧ a4.toInt ≤ 999 ∧ 0 ≤ a5.toInt ∧ a5.toInt ≤ 12) then kb2 (Int32.ofInt 0) 4 3 (vk s0).1 else (vk s0).1, (vk s0).2) ∧ (((-999 ≤ a1.toInt ∧ a1.toInt ≤ 999 ∧ -999 ≤ a2.toInt ∧ a2.toInt ≤ 999 ∧ -999 ≤ a3.toInt ∧ a3.toInt ≤ 999 ∧ -999 ≤ a4.toInt ∧ a4.toInt ≤ 999 ∧ 0 ≤ a5.toInt ∧ a5.toInt ≤ 12) ∧ v9.toInt = 2 * (a1.toInt + a2.toInt + a3.toInt) + a4.toInt ∧ s11.1 16 1 = a5 ∧ s11.1 17 0 = a1 ∧ s11.1 17 1 = a2 ∧ s11.1 17 2 = a3 ∧ s11.1 17 3 = a4 ∧ s11.1 17 4 = a3 ∧ s11.1 17 5 = a2 ∧ s11.1 17 6 = a1) ∨ (¬ (-999 ≤ a1.toInt ∧ a1.toInt ≤ 999 ∧ -999 ≤ a2.toInt ∧ a2.toInt ≤ 999 ∧ -999 ≤ a3.toInt ∧ a3.toInt ≤ 999 ∧ -999 ≤ a4.toInt ∧ a4.toInt ≤ 999 ∧ 0 ≤ a5.toInt ∧ a5.toInt ≤ 12) ∧ v9.toInt = -1 ∧ s11.1 16 1 = s0.1 16 1 ∧ ∀ j : Nat, s11.1 17 j = s0.1 17 j))
        exact ⟨i12, k13, (by first | exact vk_l u14 (by rw [if_pos (by omega), z4]) | exact vk_l u14 (by rw [if_neg (by omega)])), (by first | exact Or.inl ⟨by omega, by omega, None⟩ | exact Or.inr ⟨by omega, by omega, h10.2.1.1 16 1 rfl, fun j => h10.2.1.1 17 j rfl⟩)⟩
      · have c8 : ¬ (v1.toInt = 0) := c8
        refine And.intro (Nat.le_of_ble_eq_true rfl) (And.intro ⟨a2, rfl, trivial⟩ ?_)
        intro v16 s18 h17
        have h17 : s18 = s0 ∧ ((v16.toInt = 1 ∧ -999 ≤ a2.toInt ∧ a2.toInt ≤ 999) ∨ (v16.toInt = 0 ∧ (a2.toInt < -999 ∨ 999 < a2.toInt))) := h17
        have q21 := h17.1.symm
        subst q21
        have q22 := h17.2
        refine And.intro (fun c23 => ?_) (fun c23 => ?_)
        · have c23 : v16.toInt = 0 := c23
          refine And.intro (Nat.le_of_ble_eq_true rfl) (And.intro ⟨0, (Int32.ofInt 1), rfl, by decide, i0⟩ ?_)
          intro v24 s26 h25
          have h25 : Iv s26 ∧ Kp s0 s26 ∧ vk s26 = ((vk s0).1, (vk s0).2) ∧ (v24.toInt = -1) := h25
          have i27 := h25.1
          have k28 : K_X10_taps s0 s26 := Kx.tr Kx.rf ((h25.2.1).px)
          have u29 : vk s26 = ((vk s0).1, (vk s0).2) := h25.2.2.1.trans rfl
          have q30 := h25.2.2.2
          show Iv s26 ∧ K_X10_taps s0 s26 ∧ vk s26 = (if (-999 ≤ a1.toInt ∧ a1.toInt ≤ 999 ∧ -999 ≤ a2.toInt ∧ a2.toInt ≤ 999 ∧ -999 ≤ a3.toInt ∧ a3.toInt ≤ 999 ∧ -999 ≤ a4.toInt ∧ a4.toInt ≤ 999 ∧ 0 ≤ a5.toInt ∧ a5.toInt ≤ 12) then kb2 (Int32.ofInt 0) 4 3 (vk s0).1 else (vk s0).1, (vk s0).2) ∧ (((-999 ≤ a1.toInt ∧ a1.toInt ≤ 999 ∧ -999 ≤ a2.toInt ∧ a2.toInt ≤ 999 ∧ -999 ≤ a3.toInt ∧ a3.toInt ≤ 999 ∧ -999 ≤ a4.toInt ∧ a4.toInt ≤ 999 ∧ 0 ≤ a5.toInt ∧ a5.toInt ≤ 12) ∧ v24.toInt = 2 * (a1.toInt + a2.toInt + a3.toInt) + a4.toInt ∧ s26.1 16 1 = a5 ∧ s26.1 17 0 = a1 ∧ s26.1 17 1 = a2 ∧ s26.1 17 2 = a3 ∧ s26.1 17 3 = a4 ∧ s26.1 17 4 = a3 ∧ s26.1 17 5 = a2 ∧ s26.1 17 6 = a1) ∨ (¬ (-999 ≤ a1.toInt ∧ a1.toInt ≤ 999 ∧ -999 ≤ a2.toInt ∧ a2.toInt ≤ 999 ∧ -999 ≤ a3.toInt ∧ a3.toInt ≤ 999 ∧ -999 ≤ a4.toInt ∧ a4.toInt ≤ 999 ∧ 0 ≤ a5.toInt ∧ a5.toInt ≤ 12) ∧ v24.toInt = -1 ∧ s26.1 16 1 = s0.1 16 1 ∧ ∀ j : Nat, s26.1 17 j = s0.1 17 j))
          exact ⟨i27, k28, (by first | exact vk_l u29 (by rw [if_pos (by omega), z4]) | exact vk_l u29 (by rw [if_neg (by omega)])), (by first | exact Or.inl ⟨by omega, by omega, None⟩ | exact Or.inr ⟨by omega, by omega, h25.2.1.1 16 1 rfl, fun j => h25.2.1.1 17 j rfl⟩)⟩
        · have c23 : ¬ (v16.toInt = 0) := c23
          refine And.intro (Nat.le_of_ble_eq_true rfl) (And.intro ⟨a3, rfl, trivial⟩ ?_)
          intro v31 s33 h32
          have h32 : s33 = s0 ∧ ((v31.toInt = 1 ∧ -999 ≤ a3.toInt ∧ a3.toInt ≤ 999) ∨ (v31.toInt = 0 ∧ (a3.toInt < -999 ∨ 999 < a3.toInt))) := h32
          have q36 := h32.1.symm
          subst q36
          have q37 := h32.2
          refine And.intro (fun c38 => ?_) (fun c38 => ?_)
          · have c38 : v31.toInt = 0 := c38
            refine And.intro (Nat.le_of_ble_eq_true rfl) (And.intro ⟨0, (Int32.ofInt 1), rfl, by decide, i0⟩ ?_)
            intro v39 s41 h40
            have h40 : Iv s41 ∧ Kp s0 s41 ∧ vk s41 = ((vk s0).1, (vk s0).2) ∧ (v39.toInt = -1) := h40
            have i42 := h40.1
            have k43 : K_X10_taps s0 s41 := Kx.tr Kx.rf ((h40.2.1).px)
            have u44 : vk s41 = ((vk s0).1, (vk s0).2) := h40.2.2.1.trans rfl
            have q45 := h40.2.2.2
            show Iv s41 ∧ K_X10_taps s0 s41 ∧ vk s41 = (if (-999 ≤ a1.toInt ∧ a1.toInt ≤ 999 ∧ -999 ≤ a2.toInt ∧ a2.toInt ≤ 999 ∧ -999 ≤ a3.toInt ∧ a3.toInt ≤ 999 ∧ -999 ≤ a4.toInt ∧ a4.toInt ≤ 999 ∧ 0 ≤ a5.toInt ∧ a5.toInt ≤ 12) then kb2 (Int32.ofInt 0) 4 3 (vk s0).1 else (vk s0).1, (vk s0).2) ∧ (((-999 ≤ a1.toInt ∧ a1.toInt ≤ 999 ∧ -999 ≤ a2.toInt ∧ a2.toInt ≤ 999 ∧ -999 ≤ a3.toInt ∧ a3.toInt ≤ 999 ∧ -999 ≤ a4.toInt ∧ a4.toInt ≤ 999 ∧ 0 ≤ a5.toInt ∧ a5.toInt ≤ 12) ∧ v39.toInt = 2 * (a1.toInt + a2.toInt + a3.toInt) + a4.toInt ∧ s41.1 16 1 = a5 ∧ s41.1 17 0 = a1 ∧ s41.1 17 1 = a2 ∧ s41.1 17 2 = a3 ∧ s41.1 17 3 = a4 ∧ s41.1 17 4 = a3 ∧ s41.1 17 5 = a2 ∧ s41.1 17 6 = a1) ∨ (¬ (-999 ≤ a1.toInt ∧ a1.toInt ≤ 999 ∧ -999 ≤ a2.toInt ∧ a2.toInt ≤ 999 ∧ -999 ≤ a3.toInt ∧ a3.toInt ≤ 999 ∧ -999 ≤ a4.toInt ∧ a4.toInt ≤ 999 ∧ 0 ≤ a5.toInt ∧ a5.toInt ≤ 12) ∧ v39.toInt = -1 ∧ s41.1 16 1 = s0.1 16 1 ∧ ∀ j : Nat, s41.1 17 j = s0.1 17 j))
            exact ⟨i42, k43, (by first | exact vk_l u44 (by rw [if_pos (by omega), z4]) | exact vk_l u44 (by rw [if_neg (by omega)])), (by first | exact Or.inl ⟨by omega, by omega, None⟩ | exact Or.inr ⟨by omega, by omega, h40.2.1.1 16 1 rfl, fun j => h40.2.1.1 17 j rfl⟩)⟩
          · have c38 : ¬ (v31.toInt = 0) := c38
            refine And.intro (Nat.le_of_ble_eq_true rfl) (And.intro ⟨a4, rfl, trivial⟩ ?_)
            intro v46 s48 h47
            have h47 : s48 = s0 ∧ ((v46.toInt = 1 ∧ -999 ≤ a4.toInt ∧ a4.toInt ≤ 999) ∨ (v46.toInt = 0 ∧ (a4.toInt < -999 ∨ 999 < a4.toInt))) := h47
            have q51 := h47.1.symm
            subst q51
            have q52 := h47.2
            refine And.intro (fun c53 => ?_) (fun c53 => ?_)
            · have c53 : v46.toInt = 0 := c53
              refine And.intro (Nat.le_of_ble_eq_true rfl) (And.intro ⟨0, (Int32.ofInt 1), rfl, by decide, i0⟩ ?_)
              intro v54 s56 h55
              have h55 : Iv s56 ∧ Kp s0 s56 ∧ vk s56 = ((vk s0).1, (vk s0).2) ∧ (v54.toInt = -1) := h55
              have i57 := h55.1
              have k58 : K_X10_taps s0 s56 := Kx.tr Kx.rf ((h55.2.1).px)
              have u59 : vk s56 = ((vk s0).1, (vk s0).2) := h55.2.2.1.trans rfl
              have q60 := h55.2.2.2
              show Iv s56 ∧ K_X10_taps s0 s56 ∧ vk s56 = (if (-999 ≤ a1.toInt ∧ a1.toInt ≤ 999 ∧ -999 ≤ a2.toInt ∧ a2.toInt ≤ 999 ∧ -999 ≤ a3.toInt ∧ a3.toInt ≤ 999 ∧ -999 ≤ a4.toInt ∧ a4.toInt ≤ 999 ∧ 0 ≤ a5.toInt ∧ a5.toInt ≤ 12) then kb2 (Int32.ofInt 0) 4 3 (vk s0).1 else (vk s0).1, (vk s0).2) ∧ (((-999 ≤ a1.toInt ∧ a1.toInt ≤ 999 ∧ -999 ≤ a2.toInt ∧ a2.toInt ≤ 999 ∧ -999 ≤ a3.toInt ∧ a3.toInt ≤ 999 ∧ -999 ≤ a4.toInt ∧ a4.toInt ≤ 999 ∧ 0 ≤ a5.toInt ∧ a5.toInt ≤ 12) ∧ v54.toInt = 2 * (a1.toInt + a2.toInt + a3.toInt) + a4.toInt ∧ s56.1 16 1 = a5 ∧ s56.1 17 0 = a1 ∧ s56.1 17 1 = a2 ∧ s56.1 17 2 = a3 ∧ s56.1 17 3 = a4 ∧ s56.1 17 4 = a3 ∧ s56.1 17 5 = a2 ∧ s56.1 17 6 = a1) ∨ (¬ (-999 ≤ a1.toInt ∧ a1.toInt ≤ 999 ∧ -999 ≤ a2.toInt ∧ a2.toInt ≤ 999 ∧ -999 ≤ a3.toInt ∧ a3.toInt ≤ 999 ∧ -999 ≤ a4.toInt ∧ a4.toInt ≤ 999 ∧ 0 ≤ a5.toInt ∧ a5.toInt ≤ 12) ∧ v54.toInt = -1 ∧ s56.1 16 1 = s0.1 16 1 ∧ ∀ j : Nat, s56.1 17 j = s0.1 17 j))
              exact ⟨i57, k58, (by first | exact vk_l u59 (by rw [if_pos (by omega), z4]) | exact vk_l u59 (by rw [if_neg (by omega)])), (by first | exact Or.inl ⟨by omega, by omega, None⟩ | exact Or.inr ⟨by omega, by omega, h55.2.1.1 16 1 rfl, fun j => h55.2.1.1 17 j rfl⟩)⟩
            · have c53 : ¬ (v46.toInt = 0) := c53
              refine And.intro (Nat.le_of_ble_eq_true rfl) (And.intro ⟨a5, (Int32.ofInt 0), (Int32.ofInt 12), rfl, trivial⟩ ?_)
              intro v61 s63 h62
              have h62 : s63 = s0 ∧ ((v61.toInt = 1 ∧ (Int32.ofInt 0).toInt ≤ a5.toInt ∧ a5.toInt ≤ (Int32.ofInt 12).toInt) ∨ (v61.toInt = 0 ∧ (a5.toInt < (Int32.ofInt 0).toInt ∨ (Int32.ofInt 12).toInt < a5.toInt))) := h62
              have q66 := h62.1.symm
              subst q66
              have q67 := h62.2
              refine And.intro (fun c68 => ?_) (fun c68 => ?_)
              · have c68 : ¬ v61.toInt = 0 := c68
                refine And.intro (Nat.le_of_ble_eq_true rfl) (And.intro ⟨16, a1, a2, a3, a4, a5, rfl, by decide, i0⟩ ?_)
                intro s70 h69
                have h69 : Iv s70 ∧ K_X10_taps s0 s70 ∧ vk s70 = ((vk s0).1, (vk s0).2) ∧ (s70.1 16 1 = a5 ∧ s70.1 17 0 = a1 ∧ s70.1 17 1 = a2 ∧ s70.1 17 2 = a3 ∧ s70.1 17 3 = a4 ∧ s70.1 17 4 = a3 ∧ s70.1 17 5 = a2 ∧ s70.1 17 6 = a1) := h69
                have i71 := h69.1
                have k72 : K_X10_taps s0 s70 := Kx.tr Kx.rf (h69.2.1)
                have u73 : vk s70 = ((vk s0).1, (vk s0).2) := h69.2.2.1.trans rfl
                have q74 := h69.2.2.2
                have y0 := q74.2
                have y75 : s70.1 16 1 = a5 ∧ s70.1 17 0 = a1 ∧ s70.1 17 1 = a2 ∧ s70.1 17 2 = a3 ∧ s70.1 17 3 = a4 ∧ s70.1 17 4 = a3 ∧ s70.1 17 5 = a2 ∧ s70.1 17 6 = a1 := q74
                refine And.intro (Nat.le_of_ble_eq_true rfl) (And.intro ⟨0, (Int32.ofInt 4), rfl, by decide, i71, by omega⟩ ?_)
                intro s77 h76
                have h76 : Iv s77 ∧ Kp s70 s77 ∧ vk s77 = (kb2 (Int32.ofInt 0) (Int32.ofInt 4).toInt 3 (vk s70).1, (vk s70).2) ∧ (True) := h76
                have i78 := h76.1
                have k79 : K_X10_taps s0 s77 := Kx.tr k72 ((h76.2.1).px)
                have u80 : vk s77 = ((kb2 (Int32.ofInt 0) (Int32.ofInt 4).toInt 3 (vk s0).1), (vk s0).2) := (by rw [h76.2.2.1, u73])
                have y81 : s77.1 16 1 = a5 ∧ s77.1 17 0 = a1 ∧ s77.1 17 1 = a2 ∧ s77.1 17 2 = a3 ∧ s77.1 17 3 = a4 ∧ s77.1 17 4 = a3 ∧ s77.1 17 5 = a2 ∧ s77.1 17 6 = a1 := by rw [h76.2.1.1 16 1 rfl, h76.2.1.1 17 0 rfl, h76.2.1.1 17 1 rfl, h76.2.1.1 17 2 rfl, h76.2.1.1 17 3 rfl, h76.2.1.1 17 4 rfl, h76.2.1.1 17 5 rfl, h76.2.1.1 17 6 rfl]; exact y75
                have y1 : s77.1 17 0 = a1 ∧ s77.1 17 1 = a2 ∧ s77.1 17 2 = a3 ∧ s77.1 17 3 = a4 ∧ s77.1 17 4 = a3 ∧ s77.1 17 5 = a2 ∧ s77.1 17 6 = a1 := by rw [h76.2.1.1 17 0 rfl, h76.2.1.1 17 1 rfl, h76.2.1.1 17 2 rfl, h76.2.1.1 17 3 rfl, h76.2.1.1 17 4 rfl, h76.2.1.1 17 5 rfl, h76.2.1.1 17 6 rfl]; exact y0
                refine And.intro (Nat.le_of_ble_eq_true rfl) (And.intro ⟨16, (Int32.ofInt 3), rfl, by decide, i78⟩ ?_)
                intro v82 s84 h83
                have h83 : s84 = s77 ∧ (((Int32.ofInt 3).toInt = 3 → v82 = vg_rs (s77.1 17) 7) ∧ ((Int32.ofInt 3).toInt = 0 → v82.toInt = 4) ∧ ((Int32.ofInt 3).toInt = 1 → v82.toInt = 32) ∧ ((Int32.ofInt 3).toInt = 2 → v82.toInt = 512)) := h83
                have q87 := h83.1.symm
                subst q87
                have q88 := h83.2
                have y2 : v82.toInt = 2 * (a1.toInt + a2.toInt + a3.toInt) + a4.toInt := by rw [q88.1 (by decide)]; exact vg_sum7 y1 (by omega) (by omega) (by omega) (by omega)
                refine And.intro (Nat.le_of_ble_eq_true rfl) (And.intro ⟨0, v82, rfl, by decide, i78⟩ ?_)
                intro v89 s91 h90
                have h90 : Iv s91 ∧ Kp s77 s91 ∧ vk s91 = ((vk s77).1, (vk s77).2) ∧ (v89 = v82 ∧ v89.toInt = v82.toInt) := h90
                have i92 := h90.1
                have k93 : K_X10_taps s0 s91 := Kx.tr k79 ((h90.2.1).px)
                have u94 : vk s91 = ((kb2 (Int32.ofInt 0) (Int32.ofInt 4).toInt 3 (vk s0).1), (vk s0).2) := h90.2.2.1.trans u80
                have q95 := h90.2.2.2
                have y96 : s91.1 16 1 = a5 ∧ s91.1 17 0 = a1 ∧ s91.1 17 1 = a2 ∧ s91.1 17 2 = a3 ∧ s91.1 17 3 = a4 ∧ s91.1 17 4 = a3 ∧ s91.1 17 5 = a2 ∧ s91.1 17 6 = a1 := by rw [h90.2.1.1 16 1 rfl, h90.2.1.1 17 0 rfl, h90.2.1.1 17 1 rfl, h90.2.1.1 17 2 rfl, h90.2.1.1 17 3 rfl, h90.2.1.1 17 4 rfl, h90.2.1.1 17 5 rfl, h90.2.1.1 17 6 rfl]; exact y81
                show Iv s91 ∧ K_X10_taps s0 s91 ∧ vk s91 = (if (-999 ≤ a1.toInt ∧ a1.toInt ≤ 999 ∧ -999 ≤ a2.toInt ∧ a2.toInt ≤ 999 ∧ -999 ≤ a3.toInt ∧ a3.toInt ≤ 999 ∧ -999 ≤ a4.toInt ∧ a4.toInt ≤ 999 ∧ 0 ≤ a5.toInt ∧ a5.toInt ≤ 12) then kb2 (Int32.ofInt 0) 4 3 (vk s0).1 else (vk s0).1, (vk s0).2) ∧ (((-999 ≤ a1.toInt ∧ a1.toInt ≤ 999 ∧ -999 ≤ a2.toInt ∧ a2.toInt ≤ 999 ∧ -999 ≤ a3.toInt ∧ a3.toInt ≤ 999 ∧ -999 ≤ a4.toInt ∧ a4.toInt ≤ 999 ∧ 0 ≤ a5.toInt ∧ a5.toInt ≤ 12) ∧ v89.toInt = 2 * (a1.toInt + a2.toInt + a3.toInt) + a4.toInt ∧ s91.1 16 1 = a5 ∧ s91.1 17 0 = a1 ∧ s91.1 17 1 = a2 ∧ s91.1 17 2 = a3 ∧ s91.1 17 3 = a4 ∧ s91.1 17 4 = a3 ∧ s91.1 17 5 = a2 ∧ s91.1 17 6 = a1) ∨ (¬ (-999 ≤ a1.toInt ∧ a1.toInt ≤ 999 ∧ -999 ≤ a2.toInt ∧ a2.toInt ≤ 999 ∧ -999 ≤ a3.toInt ∧ a3.toInt ≤ 999 ∧ -999 ≤ a4.toInt ∧ a4.toInt ≤ 999 ∧ 0 ≤ a5.toInt ∧ a5.toInt ≤ 12) ∧ v89.toInt = -1 ∧ s91.1 16 1 = s0.1 16 1 ∧ ∀ j : Nat, s91.1 17 j = s0.1 17 j))
                exact ⟨i92, k93, (by first | exact vk_l u94 (by rw [if_pos (by omega), z4]) | exact vk_l u94 (by rw [if_neg (by omega)])), (by first | exact Or.inl ⟨by omega, by omega, y96⟩ | exact Or.inr ⟨by omega, by omega, h90.2.1.1 16 1 rfl, fun j => h90.2.1.1 17 j rfl⟩)⟩
              · have c68 : ¬ (¬ v61.toInt = 0) := c68
                refine And.intro (Nat.le_of_ble_eq_true rfl) (And.intro ⟨0, (Int32.ofInt 1), rfl, by decide, i0⟩ ?_)
                intro v97 s99 h98
                have h98 : Iv s99 ∧ Kp s0 s99 ∧ vk s99 = ((vk s0).1, (vk s0).2) ∧ (v97.toInt = -1) := h98
                have i100 := h98.1
                have k101 : K_X10_taps s0 s99 := Kx.tr Kx.rf ((h98.2.1).px)
                have u102 : vk s99 = ((vk s0).1, (vk s0).2) := h98.2.2.1.trans rfl
                have q103 := h98.2.2.2
                show Iv s99 ∧ K_X10_taps s0 s99 ∧ vk s99 = (if (-999 ≤ a1.toInt ∧ a1.toInt ≤ 999 ∧ -999 ≤ a2.toInt ∧ a2.toInt ≤ 999 ∧ -999 ≤ a3.toInt ∧ a3.toInt ≤ 999 ∧ -999 ≤ a4.toInt ∧ a4.toInt ≤ 999 ∧ 0 ≤ a5.toInt ∧ a5.toInt ≤ 12) then kb2 (Int32.ofInt 0) 4 3 (vk s0).1 else (vk s0).1, (vk s0).2) ∧ (((-999 ≤ a1.toInt ∧ a1.toInt ≤ 999 ∧ -999 ≤ a2.toInt ∧ a2.toInt ≤ 999 ∧ -999 ≤ a3.toInt ∧ a3.toInt ≤ 999 ∧ -999 ≤ a4.toInt ∧ a4.toInt ≤ 999 ∧ 0 ≤ a5.toInt ∧ a5.toInt ≤ 12) ∧ v97.toInt = 2 * (a1.toInt + a2.toInt + a3.toInt) + a4.toInt ∧ s99.1 16 1 = a5 ∧ s99.1 17 0 = a1 ∧ s99.1 17 1 = a2 ∧ s99.1 17 2 = a3 ∧ s99.1 17 3 = a4 ∧ s99.1 17 4 = a3 ∧ s99.1 17 5 = a2 ∧ s99.1 17 6 = a1) ∨ (¬ (-999 ≤ a1.toInt ∧ a1.toInt ≤ 999 ∧ -999 ≤ a2.toInt ∧ a2.toInt ≤ 999 ∧ -999 ≤ a3.toInt ∧ a3.toInt ≤ 999 ∧ -999 ≤ a4.toInt ∧ a4.toInt ≤ 999 ∧ 0 ≤ a5.toInt ∧ a5.toInt ≤ 12) ∧ v97.toInt = -1 ∧ s99.1 16 1 = s0.1 16 1 ∧ ∀ j : Nat, s99.1 17 j = s0.1 17 j))
                exact ⟨i100, k101, (by first | exact vk_l u102 (by rw [if_pos (by omega), z4]) | exact vk_l u102 (by rw [if_neg (by omega)])), (by first | exact Or.inl ⟨by omega, by omega, None⟩ | exact Or.inr ⟨by omega, by omega, h98.2.1.1 16 1 rfl, fun j => h98.2.1.1 17 j rfl⟩)⟩
def o_X10_folds : List vg_I := [(0, .iload_n 1, 1, 0, 0, 0, 0), (1, .iconst 0, 1, 0, 0, 0, 0), (2, .iconst 3, 1, 0, 0, 0, 0), (3, .invokestatic 82, 3, 0, 1, 3, 478), (6, .ifCond .eq 25, 3, 0, 0, 0, 0), (9, .iload_n 2, 1, 0, 0, 0, 0), (10, .invokestatic 193, 3, 1, 1, 1, 601), (13, .ifCond .eq 18, 3, 0, 0, 0, 0), (16, .iload_n 3, 1, 0, 0, 0, 0), (17, .invokestatic 193, 3, 1, 1, 1, 601), (20, .ifCond .eq 11, 3, 0, 0, 0, 0), (23, .iload 4, 2, 0, 0, 0, 0), (25, .invokestatic 193, 3, 1, 1, 1, 601), (28, .ifCond .ne 9, 3, 0, 0, 0, 0), (31, .aload_n 0, 1, 0, 0, 0, 0), (32, .iconst 1, 1, 0, 0, 0, 0), (33, .invokevirtual 90, 3, 2, 10, 1, 484), (36, .ireturn, 1, 0, 0, 0, 0), (37, .aload_n 0, 1, 0, 0, 0, 0), (38, .iload_n 1, 1, 0, 0, 0, 0), (39, .putfield 196, 3, 429, 10, 2, 0), (42, .aload_n 0, 1, 0, 0, 0, 0), (43, .getfield 46, 3, 435, 10, 8, 0), (46, .iconst 0, 1, 0, 0, 0, 0), (47, .aaload, 1, 0, 0, 0, 0), (48, .iload_n 2, 1, 0, 0, 0, 0), (49, .putfield 199, 3, 394, 3, 0, 0), (52, .aload_n 0, 1, 0, 0, 0, 0), (53, .getfield 46, 3, 435, 10, 8, 0), (56, .iconst 1, 1, 0, 0, 0, 0), (57, .aaload, 1, 0, 0, 0, 0), (58, .iload_n 3, 1, 0, 0, 0, 0), (59, .putfield 199, 3, 394, 3, 0, 0), (62, .aload_n 0, 1, 0, 0, 0, 0), (63, .getfield 46, 3, 435, 10, 8, 0), (66, .iconst 2, 1, 0, 0, 0, 0), (67, .aaload, 1, 0, 0, 0, 0), (68, .iload 4, 2, 0, 0, 0, 0), (70, .putfield 199, 3, 394, 3, 0, 0), (73, .aload_n 0, 1, 0, 0, 0, 0), (74, .iconst 4, 1, 0, 0, 0, 0), (75, .invokevirtual 106, 3, 3, 10, 1, 488), (78, .aload_n 0, 1, 0, 0, 0, 0), (79, .iconst 1, 1, 0, 0, 0, 0), (80, .iload_n 1, 1, 0, 0, 0, 0), (81, .ishl, 1, 0, 0, 0, 0), (82, .invokevirtual 113, 3, 4, 10, 1, 520), (85, .ireturn, 1, 0, 0, 0, 0)]
set_option maxRecDepth 100000 in
set_option maxHeartbeats 4000000 in
theorem c_X10_folds (l : Launch) (G : vg_G) (hp : vg_Hp G) : vg_Ct l G vg_sh r_X10_folds := by
  refine vg_meth hp vg_sh_ok r_X10_folds k_X10_folds rfl (fun h => by cases h) o_X10_folds [r_X10_within, r_X8_isKind, r_X10_refuse, r_X10_beginAnewFrom, r_X10_answer] false (by decide +kernel) (by decide +kernel) ⟨_, _, rfl, rfl⟩ (List.forall_mem_cons.mpr ⟨⟨c_X10_within l G hp, Nat.le_of_ble_eq_true rfl, Nat.le_of_ble_eq_true rfl⟩, List.forall_mem_cons.mpr ⟨⟨c_X8_isKind l G hp, Nat.le_of_ble_eq_true rfl, Nat.le_of_ble_eq_true rfl⟩, List.forall_mem_cons.mpr ⟨⟨c_X10_refuse l G hp, Nat.le_of_ble_eq_true rfl, Nat.le_of_ble_eq_true rfl⟩, List.forall_mem_cons.mpr ⟨⟨c_X10_beginAnewFrom l G hp, Nat.le_of_ble_eq_true rfl, Nat.le_of_ble_eq_true rfl⟩, List.forall_mem_cons.mpr ⟨⟨c_X10_answer l G hp, Nat.le_of_ble_eq_true rfl, Nat.le_of_ble_eq_true rfl⟩, fun _ h => absurd h List.not_mem_nil⟩⟩⟩⟩⟩) (fun h => by cases h) 600 ?_
  intro as s0 hpre
  obtain ⟨r, a1, a2, a3, a4, rfl, hr, i0⟩ := hpre
  simp only [List.mem_cons, List.not_mem_nil, or_false] at hr
  rcases hr with rfl
  ·
    have z0 : (Int32.ofInt 0).toInt = 0 := by decide
    have z1 : (Int32.ofInt 1).toInt = 1 := by decide
    have z2 : (Int32.ofInt 2).toInt = 2 := by decide
    have z3 : (Int32.ofInt 3).toInt = 3 := by decide
    have z4 : (Int32.ofInt 4).toInt = 4 := by decide
    refine ⟨Nat.le_of_ble_eq_true rfl, [], ?_, fun _ h => absurd h List.not_mem_nil⟩
    ·
      refine And.intro (Nat.le_of_ble_eq_true rfl) (And.intro ⟨a1, (Int32.ofInt 0), (Int32.ofInt 3), rfl, trivial⟩ ?_)
      intro v1 s3 h2
      have h2 : s3 = s0 ∧ ((v1.toInt = 1 ∧ (Int32.ofInt 0).toInt ≤ a1.toInt ∧ a1.toInt ≤ (Int32.ofInt 3).toInt) ∨ (v1.toInt = 0 ∧ (a1.toInt < (Int32.ofInt 0).toInt ∨ (Int32.ofInt 3).toInt < a1.toInt))) := h2
      have q6 := h2.1.symm
      subst q6
      have q7 := h2.2
      refine And.intro (fun c8 => ?_) (fun c8 => ?_)
      · have c8 : v1.toInt = 0 := c8
        refine And.intro (Nat.le_of_ble_eq_true rfl) (And.intro ⟨0, (Int32.ofInt 1), rfl, by decide, i0⟩ ?_)
        intro v9 s11 h10
        have h10 : Iv s11 ∧ Kp s0 s11 ∧ vk s11 = ((vk s0).1, (vk s0).2) ∧ (v9.toInt = -1) := h10
        have i12 := h10.1
        have k13 : K_X10_folds s0 s11 := Kx.tr Kx.rf ((h10.2.1).px)
        have u14 : vk s11 = ((vk s0).1, (vk s0).2) := h10.2.2.1.trans rfl
        have q15 := h10.2.2.2
        show Iv s11 ∧ K_X10_folds s0 s11 ∧ vk s11 = (if (0 ≤ a1.toInt ∧ a1.toInt ≤ 3 ∧ 0 ≤ a2.toInt ∧ a2.toInt ≤ 3 ∧ 0 ≤ a3.toInt ∧ a3.toInt ≤ 3 ∧ 0 ≤ a4.toInt ∧ a4.toInt ≤ 3) then kb2 (Int32.ofInt 0) 4 3 (vk s0).1 else (vk s0).1, (vk s0).2) ∧ (((0 ≤ a1.toInt ∧ a1.toInt ≤ 3 ∧ 0 ≤ a2.toInt ∧ a2.toInt ≤ 3 ∧ 0 ≤ a3.toInt ∧ a3.toInt ≤ 3 ∧ 0 ≤ a4.toInt ∧ a4.toInt ≤ 3) ∧ v9.toInt = (vg_af a1).toInt ∧ (s11.1 0 2).toInt = a1.toInt ∧ (s11.1 35 0).toInt = a2.toInt ∧ (s11.1 37 0).toInt = a3.toInt ∧ (s11.1 39 0).toInt = a4.toInt) ∨ (¬ (0 ≤ a1.toInt ∧ a1.toInt ≤ 3 ∧ 0 ≤ a2.toInt ∧ a2.toInt ≤ 3 ∧ 0 ≤ a3.toInt ∧ a3.toInt ≤ 3 ∧ 0 ≤ a4.toInt ∧ a4.toInt ≤ 3) ∧ v9.toInt = -1 ∧ (s11.1 0 2).toInt = (s0.1 0 2).toInt ∧ (s11.1 35 0).toInt = (s0.1 35 0).toInt ∧ (s11.1 37 0).toInt = (s0.1 37 0).toInt ∧ (s11.1 39 0).toInt = (s0.1 39 0).toInt))
        exact ⟨i12, k13, (by first | exact vk_l u14 (by rw [if_pos (by omega), z4]) | exact vk_l u14 (by rw [if_neg (by omega)])), (by first | exact Or.inl ⟨by omega, by omega, by rw [none], by rw [none], by rw [none], by rw [none]⟩ | exact Or.inr ⟨by omega, by omega, congrArg Int32.toInt (h10.2.1.1 0 2 rfl), congrArg Int32.toInt (h10.2.1.1 35 0 rfl), congrArg Int32.toInt (h10.2.1.1 37 0 rfl), congrArg Int32.toInt (h10.2.1.1 39 0 rfl)⟩)⟩
      · have c8 : ¬ (v1.toInt = 0) := c8
        refine And.intro (Nat.le_of_ble_eq_true rfl) (And.intro ⟨a2, rfl, trivial⟩ ?_)
        intro v16 s18 h17
        have h17 : s18 = s0 ∧ ((v16.toInt = 1 ∧ 0 ≤ a2.toInt ∧ a2.toInt ≤ 3) ∨ (v16.toInt = 0 ∧ (a2.toInt < 0 ∨ 3 < a2.toInt))) := h17
        have q21 := h17.1.symm
        subst q21
        have q22 := h17.2
        refine And.intro (fun c23 => ?_) (fun c23 => ?_)
        · have c23 : v16.toInt = 0 := c23
          refine And.intro (Nat.le_of_ble_eq_true rfl) (And.intro ⟨0, (Int32.ofInt 1), rfl, by decide, i0⟩ ?_)
          intro v24 s26 h25
          have h25 : Iv s26 ∧ Kp s0 s26 ∧ vk s26 = ((vk s0).1, (vk s0).2) ∧ (v24.toInt = -1) := h25
          have i27 := h25.1
          have k28 : K_X10_folds s0 s26 := Kx.tr Kx.rf ((h25.2.1).px)
          have u29 : vk s26 = ((vk s0).1, (vk s0).2) := h25.2.2.1.trans rfl
          have q30 := h25.2.2.2
          show Iv s26 ∧ K_X10_folds s0 s26 ∧ vk s26 = (if (0 ≤ a1.toInt ∧ a1.toInt ≤ 3 ∧ 0 ≤ a2.toInt ∧ a2.toInt ≤ 3 ∧ 0 ≤ a3.toInt ∧ a3.toInt ≤ 3 ∧ 0 ≤ a4.toInt ∧ a4.toInt ≤ 3) then kb2 (Int32.ofInt 0) 4 3 (vk s0).1 else (vk s0).1, (vk s0).2) ∧ (((0 ≤ a1.toInt ∧ a1.toInt ≤ 3 ∧ 0 ≤ a2.toInt ∧ a2.toInt ≤ 3 ∧ 0 ≤ a3.toInt ∧ a3.toInt ≤ 3 ∧ 0 ≤ a4.toInt ∧ a4.toInt ≤ 3) ∧ v24.toInt = (vg_af a1).toInt ∧ (s26.1 0 2).toInt = a1.toInt ∧ (s26.1 35 0).toInt = a2.toInt ∧ (s26.1 37 0).toInt = a3.toInt ∧ (s26.1 39 0).toInt = a4.toInt) ∨ (¬ (0 ≤ a1.toInt ∧ a1.toInt ≤ 3 ∧ 0 ≤ a2.toInt ∧ a2.toInt ≤ 3 ∧ 0 ≤ a3.toInt ∧ a3.toInt ≤ 3 ∧ 0 ≤ a4.toInt ∧ a4.toInt ≤ 3) ∧ v24.toInt = -1 ∧ (s26.1 0 2).toInt = (s0.1 0 2).toInt ∧ (s26.1 35 0).toInt = (s0.1 35 0).toInt ∧ (s26.1 37 0).toInt = (s0.1 37 0).toInt ∧ (s26.1 39 0).toInt = (s0.1 39 0).toInt))
          exact ⟨i27, k28, (by first | exact vk_l u29 (by rw [if_pos (by omega), z4]) | exact vk_l u29 (by rw [if_neg (by omega)])), (by first | exact Or.inl ⟨by omega, by omega, by rw [none], by rw [none], by rw [none], by rw [none]⟩ | exact Or.inr ⟨by omega, by omega, congrArg Int32.toInt (h25.2.1.1 0 2 rfl), congrArg Int32.toInt (h25.2.1.1 35 0 rfl), congrArg Int32.toInt (h25.2.1.1 37 0 rfl), congrArg Int32.toInt (h25.2.1.1 39 0 rfl)⟩)⟩
        · have c23 : ¬ (v16.toInt = 0) := c23
          refine And.intro (Nat.le_of_ble_eq_true rfl) (And.intro ⟨a3, rfl, trivial⟩ ?_)
          intro v31 s33 h32
          have h32 : s33 = s0 ∧ ((v31.toInt = 1 ∧ 0 ≤ a3.toInt ∧ a3.toInt ≤ 3) ∨ (v31.toInt = 0 ∧ (a3.toInt < 0 ∨ 3 < a3.toInt))) := h32
          have q36 := h32.1.symm
          subst q36
          have q37 := h32.2
          refine And.intro (fun c38 => ?_) (fun c38 => ?_)
          · have c38 : v31.toInt = 0 := c38
            refine And.intro (Nat.le_of_ble_eq_true rfl) (And.intro ⟨0, (Int32.ofInt 1), rfl, by decide, i0⟩ ?_)
            intro v39 s41 h40
            have h40 : Iv s41 ∧ Kp s0 s41 ∧ vk s41 = ((vk s0).1, (vk s0).2) ∧ (v39.toInt = -1) := h40
            have i42 := h40.1
            have k43 : K_X10_folds s0 s41 := Kx.tr Kx.rf ((h40.2.1).px)
            have u44 : vk s41 = ((vk s0).1, (vk s0).2) := h40.2.2.1.trans rfl
            have q45 := h40.2.2.2
            show Iv s41 ∧ K_X10_folds s0 s41 ∧ vk s41 = (if (0 ≤ a1.toInt ∧ a1.toInt ≤ 3 ∧ 0 ≤ a2.toInt ∧ a2.toInt ≤ 3 ∧ 0 ≤ a3.toInt ∧ a3.toInt ≤ 3 ∧ 0 ≤ a4.toInt ∧ a4.toInt ≤ 3) then kb2 (Int32.ofInt 0) 4 3 (vk s0).1 else (vk s0).1, (vk s0).2) ∧ (((0 ≤ a1.toInt ∧ a1.toInt ≤ 3 ∧ 0 ≤ a2.toInt ∧ a2.toInt ≤ 3 ∧ 0 ≤ a3.toInt ∧ a3.toInt ≤ 3 ∧ 0 ≤ a4.toInt ∧ a4.toInt ≤ 3) ∧ v39.toInt = (vg_af a1).toInt ∧ (s41.1 0 2).toInt = a1.toInt ∧ (s41.1 35 0).toInt = a2.toInt ∧ (s41.1 37 0).toInt = a3.toInt ∧ (s41.1 39 0).toInt = a4.toInt) ∨ (¬ (0 ≤ a1.toInt ∧ a1.toInt ≤ 3 ∧ 0 ≤ a2.toInt ∧ a2.toInt ≤ 3 ∧ 0 ≤ a3.toInt ∧ a3.toInt ≤ 3 ∧ 0 ≤ a4.toInt ∧ a4.toInt ≤ 3) ∧ v39.toInt = -1 ∧ (s41.1 0 2).toInt = (s0.1 0 2).toInt ∧ (s41.1 35 0).toInt = (s0.1 35 0).toInt ∧ (s41.1 37 0).toInt = (s0.1 37 0).toInt ∧ (s41.1 39 0).toInt = (s0.1 39 0).toInt))
            exact ⟨i42, k43, (by first | exact vk_l u44 (by rw [if_pos (by omega), z4]) | exact vk_l u44 (by rw [if_neg (by omega)])), (by first | exact Or.inl ⟨by omega, by omega, by rw [none], by rw [none], by rw [none], by rw [none]⟩ | exact Or.inr ⟨by omega, by omega, congrArg Int32.toInt (h40.2.1.1 0 2 rfl), congrArg Int32.toInt (h40.2.1.1 35 0 rfl), congrArg Int32.toInt (h40.2.1.1 37 0 rfl), congrArg Int32.toInt (h40.2.1.1 39 0 rfl)⟩)⟩
          · have c38 : ¬ (v31.toInt = 0) := c38
            refine And.intro (Nat.le_of_ble_eq_true rfl) (And.intro ⟨a4, rfl, trivial⟩ ?_)
            intro v46 s48 h47
            have h47 : s48 = s0 ∧ ((v46.toInt = 1 ∧ 0 ≤ a4.toInt ∧ a4.toInt ≤ 3) ∨ (v46.toInt = 0 ∧ (a4.toInt < 0 ∨ 3 < a4.toInt))) := h47
            have q51 := h47.1.symm
            subst q51
            have q52 := h47.2
            refine And.intro (fun c53 => ?_) (fun c53 => ?_)
            · have c53 : ¬ v46.toInt = 0 := c53
              intro s54 e55
              have i56 : Iv s54 := Iv.c1 (lo := 0) (hi := 3) i0 e55 rfl (by omega) (by omega)
              have k57 : K_X10_folds s0 s54 := Kx.u1 Kx.rf e55 rfl
              have u58 : vk s54 = ((vk s0).1, (vk s0).2) := vk_k1 rfl e55 rfl
              have g59 : s54.1 0 2 = a1 := by rw [e55]; exact vg_u1_self
              refine And.intro rfl (And.intro ⟨by omega, by omega⟩ ?_)
              refine And.intro (fun c60 => ?_) ?_
              · have c60 : (Int32.ofInt 0).toInt = (0) := c60
                intro s61 e62
                have i63 : Iv s61 := Iv.u1 i56 e62 rfl
                have k64 : K_X10_folds s0 s61 := Kx.u1 k57 e62 rfl
                have u65 : vk s61 = ((vk s0).1, (vk s0).2) := vk_k1 u58 e62 rfl
                have g66 : s61.1 0 2 = a1 := by rw [e62, vg_u1_ne (a := 0) (k := 35) (by decide)]; exact g59
                have g67 : s61.1 35 0 = a2 := by rw [e62]; exact vg_u1_self
                refine And.intro rfl (And.intro ⟨by omega, by omega⟩ ?_)
                refine And.intro (fun c68 => ?_) ?_
                · have c68 : (Int32.ofInt 1).toInt = (0) := c68
                  exfalso
                  omega
                refine And.intro (fun c69 => ?_) ?_
                · have c69 : (Int32.ofInt 1).toInt = (1) := c69
                  intro s70 e71
                  have i72 : Iv s70 := Iv.u1 i63 e71 rfl
                  have k73 : K_X10_folds s0 s70 := Kx.u1 k64 e71 rfl
                  have u74 : vk s70 = ((vk s0).1, (vk s0).2) := vk_k1 u65 e71 rfl
                  have g75 : s70.1 0 2 = a1 := by rw [e71, vg_u1_ne (a := 0) (k := 37) (by decide)]; exact g66
                  have g76 : s70.1 35 0 = a2 := by rw [e71, vg_u1_ne (a := 35) (k := 37) (by decide)]; exact g67
                  have g77 : s70.1 37 0 = a3 := by rw [e71]; exact vg_u1_self
                  refine And.intro rfl (And.intro ⟨by omega, by omega⟩ ?_)
                  refine And.intro (fun c78 => ?_) ?_
                  · have c78 : (Int32.ofInt 2).toInt = (0) := c78
                    exfalso
                    omega
                  refine And.intro (fun c79 => ?_) ?_
                  · have c79 : (Int32.ofInt 2).toInt = (1) := c79
                    exfalso
                    omega
                  refine And.intro (fun c80 => ?_) ?_
                  · have c80 : (Int32.ofInt 2).toInt = (2) := c80
                    intro s81 e82
                    have i83 : Iv s81 := Iv.u1 i72 e82 rfl
                    have k84 : K_X10_folds s0 s81 := Kx.u1 k73 e82 rfl
                    have u85 : vk s81 = ((vk s0).1, (vk s0).2) := vk_k1 u74 e82 rfl
                    have g86 : s81.1 0 2 = a1 := by rw [e82, vg_u1_ne (a := 0) (k := 39) (by decide)]; exact g75
                    have g87 : s81.1 35 0 = a2 := by rw [e82, vg_u1_ne (a := 35) (k := 39) (by decide)]; exact g76
                    have g88 : s81.1 37 0 = a3 := by rw [e82, vg_u1_ne (a := 37) (k := 39) (by decide)]; exact g77
                    have g89 : s81.1 39 0 = a4 := by rw [e82]; exact vg_u1_self
                    refine And.intro (Nat.le_of_ble_eq_true rfl) (And.intro ⟨0, (Int32.ofInt 4), rfl, by decide, i83, by omega⟩ ?_)
                    intro s91 h90
                    have h90 : Iv s91 ∧ Kp s81 s91 ∧ vk s91 = (kb2 (Int32.ofInt 0) (Int32.ofInt 4).toInt 3 (vk s81).1, (vk s81).2) ∧ (True) := h90
                    have i92 := h90.1
                    have k93 : K_X10_folds s0 s91 := Kx.tr k84 ((h90.2.1).px)
                    have u94 : vk s91 = ((kb2 (Int32.ofInt 0) (Int32.ofInt 4).toInt 3 (vk s0).1), (vk s0).2) := (by rw [h90.2.2.1, u85])
                    have g95 : s91.1 0 2 = a1 := by rw [h90.2.1.1 0 2 rfl]; exact g86
                    have g96 : s91.1 35 0 = a2 := by rw [h90.2.1.1 35 0 rfl]; exact g87
                    have g97 : s91.1 37 0 = a3 := by rw [h90.2.1.1 37 0 rfl]; exact g88
                    have g98 : s91.1 39 0 = a4 := by rw [h90.2.1.1 39 0 rfl]; exact g89
                    intro v99 e100
                    have y1 : v99.toInt = (vg_af a1).toInt := congrArg Int32.toInt (by assumption)
                    refine And.intro (Nat.le_of_ble_eq_true rfl) (And.intro ⟨0, v99, rfl, by decide, i92⟩ ?_)
                    intro v101 s103 h102
                    have h102 : Iv s103 ∧ Kp s91 s103 ∧ vk s103 = ((vk s91).1, (vk s91).2) ∧ (v101 = v99 ∧ v101.toInt = v99.toInt) := h102
                    have i104 := h102.1
                    have k105 : K_X10_folds s0 s103 := Kx.tr k93 ((h102.2.1).px)
                    have u106 : vk s103 = ((kb2 (Int32.ofInt 0) (Int32.ofInt 4).toInt 3 (vk s0).1), (vk s0).2) := h102.2.2.1.trans u94
                    have q107 := h102.2.2.2
                    have g108 : s103.1 0 2 = a1 := by rw [h102.2.1.1 0 2 rfl]; exact g95
                    have g109 : s103.1 35 0 = a2 := by rw [h102.2.1.1 35 0 rfl]; exact g96
                    have g110 : s103.1 37 0 = a3 := by rw [h102.2.1.1 37 0 rfl]; exact g97
                    have g111 : s103.1 39 0 = a4 := by rw [h102.2.1.1 39 0 rfl]; exact g98
                    show Iv s103 ∧ K_X10_folds s0 s103 ∧ vk s103 = (if (0 ≤ a1.toInt ∧ a1.toInt ≤ 3 ∧ 0 ≤ a2.toInt ∧ a2.toInt ≤ 3 ∧ 0 ≤ a3.toInt ∧ a3.toInt ≤ 3 ∧ 0 ≤ a4.toInt ∧ a4.toInt ≤ 3) then kb2 (Int32.ofInt 0) 4 3 (vk s0).1 else (vk s0).1, (vk s0).2) ∧ (((0 ≤ a1.toInt ∧ a1.toInt ≤ 3 ∧ 0 ≤ a2.toInt ∧ a2.toInt ≤ 3 ∧ 0 ≤ a3.toInt ∧ a3.toInt ≤ 3 ∧ 0 ≤ a4.toInt ∧ a4.toInt ≤ 3) ∧ v101.toInt = (vg_af a1).toInt ∧ (s103.1 0 2).toInt = a1.toInt ∧ (s103.1 35 0).toInt = a2.toInt ∧ (s103.1 37 0).toInt = a3.toInt ∧ (s103.1 39 0).toInt = a4.toInt) ∨ (¬ (0 ≤ a1.toInt ∧ a1.toInt ≤ 3 ∧ 0 ≤ a2.toInt ∧ a2.toInt ≤ 3 ∧ 0 ≤ a3.toInt ∧ a3.toInt ≤ 3 ∧ 0 ≤ a4.toInt ∧ a4.toInt ≤ 3) ∧ v101.toInt = -1 ∧ (s103.1 0 2).toInt = (s0.1 0 2).toInt ∧ (s103.1 35 0).toInt = (s0.1 35 0).toInt ∧ (s103.1 37 0).toInt = (s0.1 37 0).toInt ∧ (s103.1 39 0).toInt = (s0.1 39 0).toInt))
                    exact ⟨i104, k105, (by first | exact vk_l u106 (by rw [if_pos (by omega), z4]) | exact vk_l u106 (by rw [if_neg (by omega)])), (by first | exact Or.inl ⟨by omega, by omega, by rw [g108], by rw [g109], by rw [g110], by rw [g111]⟩ | exact Or.inr ⟨by omega, by omega, congrArg Int32.toInt (h102.2.1.1 0 2 rfl), congrArg Int32.toInt (h102.2.1.1 35 0 rfl), congrArg Int32.toInt (h102.2.1.1 37 0 rfl), congrArg Int32.toInt (h102.2.1.1 39 0 rfl)⟩)⟩
                  exact trivial
                refine And.intro (fun c112 => ?_) ?_
                · have c112 : (Int32.ofInt 1).toInt = (2) := c112
                  exfalso
                  omega
                exact trivial
              refine And.intro (fun c113 => ?_) ?_
              · have c113 : (Int32.ofInt 0).toInt = (1) := c113
                exfalso
                omega
              refine And.intro (fun c114 => ?_) ?_
              · have c114 : (Int32.ofInt 0).toInt = (2) := c114
                exfalso
                omega
              exact trivial
            · have c53 : ¬ (¬ v46.toInt = 0) := c53
              refine And.intro (Nat.le_of_ble_eq_true rfl) (And.intro ⟨0, (Int32.ofInt 1), rfl, by decide, i0⟩ ?_)
              intro v115 s117 h116
              have h116 : Iv s117 ∧ Kp s0 s117 ∧ vk s117 = ((vk s0).1, (vk s0).2) ∧ (v115.toInt = -1) := h116
              have i118 := h116.1
              have k119 : K_X10_folds s0 s117 := Kx.tr Kx.rf ((h116.2.1).px)
              have u120 : vk s117 = ((vk s0).1, (vk s0).2) := h116.2.2.1.trans rfl
              have q121 := h116.2.2.2
              show Iv s117 ∧ K_X10_folds s0 s117 ∧ vk s117 = (if (0 ≤ a1.toInt ∧ a1.toInt ≤ 3 ∧ 0 ≤ a2.toInt ∧ a2.toInt ≤ 3 ∧ 0 ≤ a3.toInt ∧ a3.toInt ≤ 3 ∧ 0 ≤ a4.toInt ∧ a4.toInt ≤ 3) then kb2 (Int32.ofInt 0) 4 3 (vk s0).1 else (vk s0).1, (vk s0).2) ∧ (((0 ≤ a1.toInt ∧ a1.toInt ≤ 3 ∧ 0 ≤ a2.toInt ∧ a2.toInt ≤ 3 ∧ 0 ≤ a3.toInt ∧ a3.toInt ≤ 3 ∧ 0 ≤ a4.toInt ∧ a4.toInt ≤ 3) ∧ v115.toInt = (vg_af a1).toInt ∧ (s117.1 0 2).toInt = a1.toInt ∧ (s117.1 35 0).toInt = a2.toInt ∧ (s117.1 37 0).toInt = a3.toInt ∧ (s117.1 39 0).toInt = a4.toInt) ∨ (¬ (0 ≤ a1.toInt ∧ a1.toInt ≤ 3 ∧ 0 ≤ a2.toInt ∧ a2.toInt ≤ 3 ∧ 0 ≤ a3.toInt ∧ a3.toInt ≤ 3 ∧ 0 ≤ a4.toInt ∧ a4.toInt ≤ 3) ∧ v115.toInt = -1 ∧ (s117.1 0 2).toInt = (s0.1 0 2).toInt ∧ (s117.1 35 0).toInt = (s0.1 35 0).toInt ∧ (s117.1 37 0).toInt = (s0.1 37 0).toInt ∧ (s117.1 39 0).toInt = (s0.1 39 0).toInt))
              exact ⟨i118, k119, (by first | exact vk_l u120 (by rw [if_pos (by omega), z4]) | exact vk_l u120 (by rw [if_neg (by omega)])), (by first | exact Or.inl ⟨by omega, by omega, by rw [none], by rw [none], by rw [none], by rw [none]⟩ | exact Or.inr ⟨by omega, by omega, congrArg Int32.toInt (h116.2.1.1 0 2 rfl), congrArg Int32.toInt (h116.2.1.1 35 0 rfl), congrArg Int32.toInt (h116.2.1.1 37 0 rfl), congrArg Int32.toInt (h116.2.1.1 39 0 rfl)⟩)⟩
def o_X10_anew : List vg_I := [(0, .iload_n 1, 1, 0, 0, 0, 0), (1, .invokestatic 201, 3, 0, 1, 1, 609), (4, .ifCond .ne 9, 3, 0, 0, 0, 0), (7, .aload_n 0, 1, 0, 0, 0, 0), (8, .iconst 2, 1, 0, 0, 0, 0), (9, .invokevirtual 90, 3, 1, 10, 1, 484), (12, .ireturn, 1, 0, 0, 0, 0), (13, .aload_n 0, 1, 0, 0, 0, 0), (14, .iload_n 1, 1, 0, 0, 0, 0), (15, .invokevirtual 106, 3, 2, 10, 1, 488), (18, .aload_n 0, 1, 0, 0, 0, 0), (19, .aload_n 0, 1, 0, 0, 0, 0), (20, .getfield 110, 3, 428, 10, 1, 0), (23, .invokevirtual 113, 3, 3, 10, 1, 520), (26, .ireturn, 1, 0, 0, 0, 0)]
set_option maxRecDepth 100000 in
set_option maxHeartbeats 4000000 in
theorem c_X10_anew (l : Launch) (G : vg_G) (hp : vg_Hp G) : vg_Ct l G vg_sh r_X10_anew := by
  refine vg_meth hp vg_sh_ok r_X10_anew k_X10_anew rfl (fun h => by cases h) o_X10_anew [r_X10_isStage, r_X10_refuse, r_X10_beginAnewFrom, r_X10_answer] false (by decide +kernel) (by decide +kernel) ⟨_, _, rfl, rfl⟩ (List.forall_mem_cons.mpr ⟨⟨c_X10_isStage l G hp, Nat.le_of_ble_eq_true rfl, Nat.le_of_ble_eq_true rfl⟩, List.forall_mem_cons.mpr ⟨⟨c_X10_refuse l G hp, Nat.le_of_ble_eq_true rfl, Nat.le_of_ble_eq_true rfl⟩, List.forall_mem_cons.mpr ⟨⟨c_X10_beginAnewFrom l G hp, Nat.le_of_ble_eq_true rfl, Nat.le_of_ble_eq_true rfl⟩, List.forall_mem_cons.mpr ⟨⟨c_X10_answer l G hp, Nat.le_of_ble_eq_true rfl, Nat.le_of_ble_eq_true rfl⟩, fun _ h => absurd h List.not_mem_nil⟩⟩⟩⟩) (fun h => by cases h) 600 ?_
  intro as s0 hpre
  obtain ⟨r, a1, rfl, hr, i0⟩ := hpre
  simp only [List.mem_cons, List.not_mem_nil, or_false] at hr
  rcases hr with rfl
  ·
    have z2 : (Int32.ofInt 2).toInt = 2 := by decide
    refine ⟨Nat.le_of_ble_eq_true rfl, [], ?_, fun _ h => absurd h List.not_mem_nil⟩
    ·
      refine And.intro (Nat.le_of_ble_eq_true rfl) (And.intro ⟨a1, rfl, trivial⟩ ?_)
      intro v1 s3 h2
      have h2 : s3 = s0 ∧ ((v1.toInt = 1 ∧ 0 ≤ a1.toInt ∧ a1.toInt ≤ 6) ∨ (v1.toInt = 0 ∧ (a1.toInt < 0 ∨ 6 < a1.toInt))) := h2
      have q6 := h2.1.symm
      subst q6
      have q7 := h2.2
      refine And.intro (fun c8 => ?_) (fun c8 => ?_)
      · have c8 : ¬ v1.toInt = 0 := c8
        refine And.intro (Nat.le_of_ble_eq_true rfl) (And.intro ⟨0, a1, rfl, by decide, i0, by omega⟩ ?_)
        intro s10 h9
        have h9 : Iv s10 ∧ Kp s0 s10 ∧ vk s10 = (kb2 (Int32.ofInt 0) a1.toInt 3 (vk s0).1, (vk s0).2) ∧ (True) := h9
        have i11 := h9.1
        have k12 : Kp s0 s10 := Kx.tr Kx.rf (h9.2.1)
        have u13 : vk s10 = ((kb2 (Int32.ofInt 0) a1.toInt 3 (vk s0).1), (vk s0).2) := h9.2.2.1
        intro v14 e15
        have g16 : s10.1 0 1 = v14 := by rw [e15]
        have b17 : v14.toInt = (s10.1 0 1).toInt := congrArg Int32.toInt e15
        refine And.intro (Nat.le_of_ble_eq_true rfl) (And.intro ⟨0, v14, rfl, by decide, i11⟩ ?_)
        intro v18 s20 h19
        have h19 : Iv s20 ∧ Kp s10 s20 ∧ vk s20 = ((vk s10).1, (vk s10).2) ∧ (v18 = v14 ∧ v18.toInt = v14.toInt) := h19
        have i21 := h19.1
        have k22 : Kp s0 s20 := Kx.tr k12 (h19.2.1)
        have u23 : vk s20 = ((kb2 (Int32.ofInt 0) a1.toInt 3 (vk s0).1), (vk s0).2) := h19.2.2.1.trans u13
        have q24 := h19.2.2.2
        show Iv s20 ∧ Kp s0 s20 ∧ vk s20 = (if (0 ≤ a1.toInt ∧ a1.toInt ≤ 6) then kb2 (Int32.ofInt 0) a1.toInt 3 (vk s0).1 else (vk s0).1, (vk s0).2) ∧ (((0 ≤ a1.toInt ∧ a1.toInt ≤ 6) ∧ v18.toInt = (s0.1 0 1).toInt) ∨ (¬ (0 ≤ a1.toInt ∧ a1.toInt ≤ 6) ∧ v18.toInt = -1))
        exact ⟨i21, k22, (by first | exact vk_l u23 (by rw [if_pos (by omega)]) | exact vk_l u23 (by rw [if_neg (by omega)])), (by have h9 := congrArg Int32.toInt (k22.1 0 1 rfl); have h8 := congrArg Int32.toInt (h19.2.1.1 0 1 rfl); omega)⟩
      · have c8 : ¬ (¬ v1.toInt = 0) := c8
        refine And.intro (Nat.le_of_ble_eq_true rfl) (And.intro ⟨0, (Int32.ofInt 2), rfl, by decide, i0⟩ ?_)
        intro v25 s27 h26
        have h26 : Iv s27 ∧ Kp s0 s27 ∧ vk s27 = ((vk s0).1, (vk s0).2) ∧ (v25.toInt = -1) := h26
        have i28 := h26.1
        have k29 : Kp s0 s27 := Kx.tr Kx.rf (h26.2.1)
        have u30 : vk s27 = ((vk s0).1, (vk s0).2) := h26.2.2.1.trans rfl
        have q31 := h26.2.2.2
        show Iv s27 ∧ Kp s0 s27 ∧ vk s27 = (if (0 ≤ a1.toInt ∧ a1.toInt ≤ 6) then kb2 (Int32.ofInt 0) a1.toInt 3 (vk s0).1 else (vk s0).1, (vk s0).2) ∧ (((0 ≤ a1.toInt ∧ a1.toInt ≤ 6) ∧ v25.toInt = (s0.1 0 1).toInt) ∨ (¬ (0 ≤ a1.toInt ∧ a1.toInt ≤ 6) ∧ v25.toInt = -1))
        exact ⟨i28, k29, (by first | exact vk_l u30 (by rw [if_pos (by omega)]) | exact vk_l u30 (by rw [if_neg (by omega)])), (by have h9 := congrArg Int32.toInt (k29.1 0 1 rfl); have h8 := congrArg Int32.toInt (h26.2.1.1 0 1 rfl); omega)⟩
def o_X10_handToFolds : List vg_I := [(0, .iload_n 1, 1, 0, 0, 0, 0), (1, .istore_n 2, 1, 0, 0, 0, 0), (2, .iconst 0, 1, 0, 0, 0, 0), (3, .istore_n 3, 1, 0, 0, 0, 0), (4, .iload_n 3, 1, 0, 0, 0, 0), (5, .aload_n 0, 1, 0, 0, 0, 0), (6, .getfield 196, 3, 429, 10, 2, 0), (9, .if_icmp .ge 49, 3, 0, 0, 0, 0), (12, .aload_n 0, 1, 0, 0, 0, 0), (13, .getfield 46, 3, 435, 10, 8, 0), (16, .iload_n 3, 1, 0, 0, 0, 0), (17, .aaload, 1, 0, 0, 0, 0), (18, .iload_n 2, 1, 0, 0, 0, 0), (19, .invokevirtual 430, 3, 0, 3, 1, 767), (22, .ifCond .ne 4, 3, 0, 0, 0, 0), (25, .return_, 1, 0, 0, 0, 0), (26, .aload_n 0, 1, 0, 0, 0, 0), (27, .getfield 46, 3, 435, 10, 8, 0), (30, .iload_n 3, 1, 0, 0, 0, 0), (31, .aaload, 1, 0, 0, 0, 0), (32, .aload_n 0, 1, 0, 0, 0, 0), (33, .getfield 40, 3, 434, 10, 7, 0), (36, .invokevirtual 431, 3, 1, 3, 1, 771), (39, .istore_n 2, 1, 0, 0, 0, 0), (40, .aload_n 0, 1, 0, 0, 0, 0), (41, .getfield 52, 3, 436, 10, 9, 0), (44, .iconst 4, 1, 0, 0, 0, 0), (45, .iload_n 3, 1, 0, 0, 0, 0), (46, .iadd, 1, 0, 0, 0, 0), (47, .aaload, 1, 0, 0, 0, 0), (48, .iload_n 2, 1, 0, 0, 0, 0), (49, .invokevirtual 422, 3, 2, 4, 1, 634), (52, .iinc 3 1, 3, 0, 0, 0, 0), (55, .goto (-51), 3, 0, 0, 0, 0), (58, .return_, 1, 0, 0, 0, 0)]
set_option maxRecDepth 100000 in
set_option maxHeartbeats 4000000 in
theorem c_X10_handToFolds (l : Launch) (G : vg_G) (hp : vg_Hp G) : vg_Ct l G vg_sh r_X10_handToFolds := by
  refine vg_meth hp vg_sh_ok r_X10_handToFolds k_X10_handToFolds rfl (fun h => by cases h) o_X10_handToFolds [r_X3_take, r_X3_number, r_X4_put] false (by decide +kernel) (by decide +kernel) ⟨_, _, rfl, rfl⟩ (List.forall_mem_cons.mpr ⟨⟨c_X3_take l G hp, Nat.le_of_ble_eq_true rfl, Nat.le_of_ble_eq_true rfl⟩, List.forall_mem_cons.mpr ⟨⟨c_X3_number l G hp, Nat.le_of_ble_eq_true rfl, Nat.le_of_ble_eq_true rfl⟩, List.forall_mem_cons.mpr ⟨⟨c_X4_put l G hp, Nat.le_of_ble_eq_true rfl, Nat.le_of_ble_eq_true rfl⟩, fun _ h => absurd h List.not_mem_nil⟩⟩⟩) (fun h => by cases h) 600 ?_
  intro as s0 hpre
  obtain ⟨r, a1, rfl, hr, i0⟩ := hpre
  simp only [List.mem_cons, List.not_mem_nil, or_false] at hr
  rcases hr with rfl
  ·
    have z0 : (Int32.ofInt 0).toInt = 0 := by decide
    have z1 : (Int32.ofInt 1).toInt = 1 := by decide
    have z4 : (Int32.ofInt 4).toInt = 4 := by decide
    refine ⟨Nat.le_of_ble_eq_true rfl, [(4, [true, false, true, true], (fun L t => ∃ (x2 : Int32) (x3 : Int32), L = [some (.ref 0), none, some (.int x2), some (.int x3)] ∧ (0 : Int) ≤ x3.toInt ∧ x3.toInt ≤ (3 : Int) ∧ (vk_ff (s0.1 0 2).toInt (3 - x3.toNatClampNeg) (vk t).1 = vk_ff (s0.1 0 2).toInt 3 (vk s0).1 ∧ x3.toInt ≤ (s0.1 0 2).toInt) ∧ Iv t ∧ Kp s0 t ∧ vk t = ((vk t).1, (vk s0).2)), (fun L _ => (0 + (3 - (vg_li L 3).toInt) * 1000000000000).toNat))], ?_, List.forall_mem_cons.mpr ⟨?_, fun _ h => absurd h List.not_mem_nil⟩⟩
    ·
      exact ⟨rfl, ⟨a1, (Int32.ofInt 0), rfl, (by omega), (by omega), (by first | exact ⟨rfl, by have h9 := Iv_0_2 i0; omega⟩ | exact ⟨vk_ff_nx (f := 0) None.1 (by omega) (by omega) (by omega) (by omega) (by omega) (by omega) (congrArg Prod.fst rfl), by omega⟩ | exact ⟨vk_ff_nx (f := 1) None.1 (by omega) (by omega) (by omega) (by omega) (by omega) (by omega) (congrArg Prod.fst rfl), by omega⟩ | exact ⟨vk_ff_nx (f := 2) None.1 (by omega) (by omega) (by omega) (by omega) (by omega) (by omega) (congrArg Prod.fst rfl), by omega⟩), i0, Kx.rf, vk_h1 rfl⟩, trivial⟩
    ·
      intro L s6 hL
      obtain ⟨w1, w2, rfl, b3, b4, x5, i7, k8, u9⟩ := hL
      have y0 := congrArg Int32.toInt (k8.1 0 2 rfl)
      intro v10 e11
      have g12 : s6.1 0 2 = v10 := by rw [e11]
      have b13 : v10.toInt = (s6.1 0 2).toInt := congrArg Int32.toInt e11
      have b14 : (0 : Int) ≤ v10.toInt ∧ v10.toInt ≤ 3 := by rw [e11]; exact Iv_0_2 i7
      refine And.intro (fun c15 => ?_) (fun c15 => ?_)
      · have c15 : v10.toInt ≤ w2.toInt := c15
        show Iv s6 ∧ Kp s0 s6 ∧ vk s6 = (vk_ff (s0.1 0 2).toInt 3 (vk s0).1, (vk s0).2) ∧ (True)
        exact ⟨i7, k8, (by first | exact vk_l u9 (vk_ff_end x5.1 (by omega)) | exact vk_l u9 (vk_ff_st (f := 0) x5.1 (by omega) (by omega) (by omega) (by omega) (by omega)) | exact vk_l u9 (vk_ff_st (f := 1) x5.1 (by omega) (by omega) (by omega) (by omega) (by omega)) | exact vk_l u9 (vk_ff_st (f := 2) x5.1 (by omega) (by omega) (by omega) (by omega) (by omega))), (trivial)⟩
      · have c15 : ¬ (v10.toInt ≤ w2.toInt) := c15
        refine And.intro rfl (And.intro ⟨by omega, by omega⟩ ?_)
        refine And.intro (fun c16 => ?_) ?_
        · have c16 : w2.toInt = (0) := c16
          refine And.intro (Nat.le_of_ble_eq_true rfl) (And.intro ⟨35, w1, rfl, by decide, i7⟩ ?_)
          intro v17 s19 h18
          have h18 : Iv s19 ∧ Kp s6 s19 ∧ vk s19 = (kset (vk s6).1 8 (vk_fl ((vk s6).1 8)), (vk s6).2) ∧ ((v17.toInt = 0 ∧ ((vk s6).1 8).toInt = 0) ∨ (v17.toInt = 1 ∧ ¬ ((vk s6).1 8).toInt = 0)) := h18
          have i20 := h18.1
          have k21 : Kp s0 s19 := Kx.tr k8 (h18.2.1)
          have u22 : vk s19 = ((kset (vk s6).1 8 (vk_fl ((vk s6).1 8))), (vk s0).2) := (by rw [h18.2.2.1, u9])
          have q23 := h18.2.2.2
          refine And.intro (fun c24 => ?_) (fun c24 => ?_)
          · have c24 : ¬ v17.toInt = 0 := c24
            refine And.intro rfl (And.intro ⟨by omega, by omega⟩ ?_)
            refine And.intro (fun c25 => ?_) ?_
            · have c25 : w2.toInt = (0) := c25
              refine And.intro (Nat.le_of_ble_eq_true rfl) (And.intro ⟨35, 16, rfl, by decide, by decide, i20⟩ ?_)
              intro v26 s28 h27
              have h27 : s28 = s19 ∧ (True) := h27
              have q31 := h27.1.symm
              subst q31
              intro v32 e33
              have b34 := vg_add e33 (by omega) (by omega)
              refine And.intro rfl (And.intro ⟨by omega, by omega⟩ ?_)
              refine And.intro (fun c35 => ?_) ?_
              · have c35 : v32.toInt = (0) := c35
                exfalso
                omega
              refine And.intro (fun c36 => ?_) ?_
              · have c36 : v32.toInt = (1) := c36
                exfalso
                omega
              refine And.intro (fun c37 => ?_) ?_
              · have c37 : v32.toInt = (2) := c37
                exfalso
                omega
              refine And.intro (fun c38 => ?_) ?_
              · have c38 : v32.toInt = (3) := c38
                exfalso
                omega
              refine And.intro (fun c39 => ?_) ?_
              · have c39 : v32.toInt = (4) := c39
                refine And.intro (Nat.le_of_ble_eq_true rfl) (And.intro ⟨49, v26, rfl, by decide, i20⟩ ?_)
                intro s41 h40
                have h40 : Iv s41 ∧ Kp s19 s41 ∧ vk s41 = (vk_inc (vk s19).1 4, (vk s19).2) ∧ (True) := h40
                have i42 := h40.1
                have k43 : Kp s0 s41 := Kx.tr k21 (h40.2.1)
                have u44 : vk s41 = ((vk_inc (kset (vk s6).1 8 (vk_fl ((vk s6).1 8))) 4), (vk s0).2) := (by rw [h40.2.2.1, u22])
                intro v45 e46
                have b47 := vg_add e46 (by omega) (by omega)
                exact ⟨rfl, ⟨v26, v45, rfl, (by omega), (by omega), (by first | exact ⟨rfl, by have h9 := Iv_0_2 i0; omega⟩ | exact ⟨vk_ff_nx (f := 0) x5.1 (by omega) (by omega) (by omega) (by omega) (by omega) (by omega) (congrArg Prod.fst u44), by omega⟩ | exact ⟨vk_ff_nx (f := 1) x5.1 (by omega) (by omega) (by omega) (by omega) (by omega) (by omega) (congrArg Prod.fst u44), by omega⟩ | exact ⟨vk_ff_nx (f := 2) x5.1 (by omega) (by omega) (by omega) (by omega) (by omega) (by omega) (congrArg Prod.fst u44), by omega⟩), i42, k43, vk_h1 u44⟩, (by show (0 + (3 - v45.toInt) * 1000000000000).toNat < (0 + (3 - w2.toInt) * 1000000000000).toNat; omega)⟩
              refine And.intro (fun c48 => ?_) ?_
              · have c48 : v32.toInt = (5) := c48
                exfalso
                omega
              refine And.intro (fun c49 => ?_) ?_
              · have c49 : v32.toInt = (6) := c49
                exfalso
                omega
              exact trivial
            refine And.intro (fun c50 => ?_) ?_
            · have c50 : w2.toInt = (1) := c50
              exfalso
              omega
            refine And.intro (fun c51 => ?_) ?_
            · have c51 : w2.toInt = (2) := c51
              exfalso
              omega
            exact trivial
          · have c24 : ¬ (¬ v17.toInt = 0) := c24
            show Iv s19 ∧ Kp s0 s19 ∧ vk s19 = (vk_ff (s0.1 0 2).toInt 3 (vk s0).1, (vk s0).2) ∧ (True)
            exact ⟨i20, k21, (by first | exact vk_l u22 (vk_ff_end x5.1 (by omega)) | exact vk_l u22 (vk_ff_st (f := 0) x5.1 (by omega) (by omega) (by omega) (by omega) (by omega)) | exact vk_l u22 (vk_ff_st (f := 1) x5.1 (by omega) (by omega) (by omega) (by omega) (by omega)) | exact vk_l u22 (vk_ff_st (f := 2) x5.1 (by omega) (by omega) (by omega) (by omega) (by omega))), (trivial)⟩
        refine And.intro (fun c52 => ?_) ?_
        · have c52 : w2.toInt = (1) := c52
          refine And.intro (Nat.le_of_ble_eq_true rfl) (And.intro ⟨37, w1, rfl, by decide, i7⟩ ?_)
          intro v53 s55 h54
          have h54 : Iv s55 ∧ Kp s6 s55 ∧ vk s55 = (kset (vk s6).1 9 (vk_fl ((vk s6).1 9)), (vk s6).2) ∧ ((v53.toInt = 0 ∧ ((vk s6).1 9).toInt = 0) ∨ (v53.toInt = 1 ∧ ¬ ((vk s6).1 9).toInt = 0)) := h54
          have i56 := h54.1
          have k57 : Kp s0 s55 := Kx.tr k8 (h54.2.1)
          have u58 : vk s55 = ((kset (vk s6).1 9 (vk_fl ((vk s6).1 9))), (vk s0).2) := (by rw [h54.2.2.1, u9])
          have q59 := h54.2.2.2
          refine And.intro (fun c60 => ?_) (fun c60 => ?_)
          · have c60 : ¬ v53.toInt = 0 := c60
            refine And.intro rfl (And.intro ⟨by omega, by omega⟩ ?_)
            refine And.intro (fun c61 => ?_) ?_
            · have c61 : w2.toInt = (0) := c61
              exfalso
              omega
            refine And.intro (fun c62 => ?_) ?_
            · have c62 : w2.toInt = (1) := c62
              refine And.intro (Nat.le_of_ble_eq_true rfl) (And.intro ⟨37, 16, rfl, by decide, by decide, i56⟩ ?_)
              intro v63 s65 h64
              have h64 : s65 = s55 ∧ (True) := h64
              have q68 := h64.1.symm
              subst q68
              intro v69 e70
              have b71 := vg_add e70 (by omega) (by omega)
              refine And.intro rfl (And.intro ⟨by omega, by omega⟩ ?_)
              refine And.intro (fun c72 => ?_) ?_
              · have c72 : v69.toInt = (0) := c72
                exfalso
                omega
              refine And.intro (fun c73 => ?_) ?_
              · have c73 : v69.toInt = (1) := c73
                exfalso
                omega
              refine And.intro (fun c74 => ?_) ?_
              · have c74 : v69.toInt = (2) := c74
                exfalso
                omega
              refine And.intro (fun c75 => ?_) ?_
              · have c75 : v69.toInt = (3) := c75
                exfalso
                omega
              refine And.intro (fun c76 => ?_) ?_
              · have c76 : v69.toInt = (4) := c76
                exfalso
                omega
              refine And.intro (fun c77 => ?_) ?_
              · have c77 : v69.toInt = (5) := c77
                refine And.intro (Nat.le_of_ble_eq_true rfl) (And.intro ⟨51, v63, rfl, by decide, i56⟩ ?_)
                intro s79 h78
                have h78 : Iv s79 ∧ Kp s55 s79 ∧ vk s79 = (vk_inc (vk s55).1 5, (vk s55).2) ∧ (True) := h78
                have i80 := h78.1
                have k81 : Kp s0 s79 := Kx.tr k57 (h78.2.1)
                have u82 : vk s79 = ((vk_inc (kset (vk s6).1 9 (vk_fl ((vk s6).1 9))) 5), (vk s0).2) := (by rw [h78.2.2.1, u58])
                intro v83 e84
                have b85 := vg_add e84 (by omega) (by omega)
                exact ⟨rfl, ⟨v63, v83, rfl, (by omega), (by omega), (by first | exact ⟨rfl, by have h9 := Iv_0_2 i0; omega⟩ | exact ⟨vk_ff_nx (f := 0) x5.1 (by omega) (by omega) (by omega) (by omega) (by omega) (by omega) (congrArg Prod.fst u82), by omega⟩ | exact ⟨vk_ff_nx (f := 1) x5.1 (by omega) (by omega) (by omega) (by omega) (by omega) (by omega) (congrArg Prod.fst u82), by omega⟩ | exact ⟨vk_ff_nx (f := 2) x5.1 (by omega) (by omega) (by omega) (by omega) (by omega) (by omega) (congrArg Prod.fst u82), by omega⟩), i80, k81, vk_h1 u82⟩, (by show (0 + (3 - v83.toInt) * 1000000000000).toNat < (0 + (3 - w2.toInt) * 1000000000000).toNat; omega)⟩
              refine And.intro (fun c86 => ?_) ?_
              · have c86 : v69.toInt = (6) := c86
                exfalso
                omega
              exact trivial
            refine And.intro (fun c87 => ?_) ?_
            · have c87 : w2.toInt = (2) := c87
              exfalso
              omega
            exact trivial
          · have c60 : ¬ (¬ v53.toInt = 0) := c60
            show Iv s55 ∧ Kp s0 s55 ∧ vk s55 = (vk_ff (s0.1 0 2).toInt 3 (vk s0).1, (vk s0).2) ∧ (True)
            exact ⟨i56, k57, (by first | exact vk_l u58 (vk_ff_end x5.1 (by omega)) | exact vk_l u58 (vk_ff_st (f := 0) x5.1 (by omega) (by omega) (by omega) (by omega) (by omega)) | exact vk_l u58 (vk_ff_st (f := 1) x5.1 (by omega) (by omega) (by omega) (by omega) (by omega)) | exact vk_l u58 (vk_ff_st (f := 2) x5.1 (by omega) (by omega) (by omega) (by omega) (by omega))), (trivial)⟩
        refine And.intro (fun c88 => ?_) ?_
        · have c88 : w2.toInt = (2) := c88
          refine And.intro (Nat.le_of_ble_eq_true rfl) (And.intro ⟨39, w1, rfl, by decide, i7⟩ ?_)
          intro v89 s91 h90
          have h90 : Iv s91 ∧ Kp s6 s91 ∧ vk s91 = (kset (vk s6).1 10 (vk_fl ((vk s6).1 10)), (vk s6).2) ∧ ((v89.toInt = 0 ∧ ((vk s6).1 10).toInt = 0) ∨ (v89.toInt = 1 ∧ ¬ ((vk s6).1 10).toInt = 0)) := h90
          have i92 := h90.1
          have k93 : Kp s0 s91 := Kx.tr k8 (h90.2.1)
          have u94 : vk s91 = ((kset (vk s6).1 10 (vk_fl ((vk s6).1 10))), (vk s0).2) := (by rw [h90.2.2.1, u9])
          have q95 := h90.2.2.2
          refine And.intro (fun c96 => ?_) (fun c96 => ?_)
          · have c96 : ¬ v89.toInt = 0 := c96
            refine And.intro rfl (And.intro ⟨by omega, by omega⟩ ?_)
            refine And.intro (fun c97 => ?_) ?_
            · have c97 : w2.toInt = (0) := c97
              exfalso
              omega
            refine And.intro (fun c98 => ?_) ?_
            · have c98 : w2.toInt = (1) := c98
              exfalso
              omega
            refine And.intro (fun c99 => ?_) ?_
            · have c99 : w2.toInt = (2) := c99
              refine And.intro (Nat.le_of_ble_eq_true rfl) (And.intro ⟨39, 16, rfl, by decide, by decide, i92⟩ ?_)
              intro v100 s102 h101
              have h101 : s102 = s91 ∧ (True) := h101
              have q105 := h101.1.symm
              subst q105
              intro v106 e107
              have b108 := vg_add e107 (by omega) (by omega)
              refine And.intro rfl (And.intro ⟨by omega, by omega⟩ ?_)
              refine And.intro (fun c109 => ?_) ?_
              · have c109 : v106.toInt = (0) := c109
                exfalso
                omega
              refine And.intro (fun c110 => ?_) ?_
              · have c110 : v106.toInt = (1) := c110
                exfalso
                omega
              refine And.intro (fun c111 => ?_) ?_
              · have c111 : v106.toInt = (2) := c111
                exfalso
                omega
              refine And.intro (fun c112 => ?_) ?_
              · have c112 : v106.toInt = (3) := c112
                exfalso
                omega
              refine And.intro (fun c113 => ?_) ?_
              · have c113 : v106.toInt = (4) := c113
                exfalso
                omega
              refine And.intro (fun c114 => ?_) ?_
              · have c114 : v106.toInt = (5) := c114
                exfalso
                omega
              refine And.intro (fun c115 => ?_) ?_
              · have c115 : v106.toInt = (6) := c115
                refine And.intro (Nat.le_of_ble_eq_true rfl) (And.intro ⟨53, v100, rfl, by decide, i92⟩ ?_)
                intro s117 h116
                have h116 : Iv s117 ∧ Kp s91 s117 ∧ vk s117 = (vk_inc (vk s91).1 6, (vk s91).2) ∧ (True) := h116
                have i118 := h116.1
                have k119 : Kp s0 s117 := Kx.tr k93 (h116.2.1)
                have u120 : vk s117 = ((vk_inc (kset (vk s6).1 10 (vk_fl ((vk s6).1 10))) 6), (vk s0).2) := (by rw [h116.2.2.1, u94])
                intro v121 e122
                have b123 := vg_add e122 (by omega) (by omega)
                exact ⟨rfl, ⟨v100, v121, rfl, (by omega), (by omega), (by first | exact ⟨rfl, by have h9 := Iv_0_2 i0; omega⟩ | exact ⟨vk_ff_nx (f := 0) x5.1 (by omega) (by omega) (by omega) (by omega) (by omega) (by omega) (congrArg Prod.fst u120), by omega⟩ | exact ⟨vk_ff_nx (f := 1) x5.1 (by omega) (by omega) (by omega) (by omega) (by omega) (by omega) (congrArg Prod.fst u120), by omega⟩ | exact ⟨vk_ff_nx (f := 2) x5.1 (by omega) (by omega) (by omega) (by omega) (by omega) (by omega) (congrArg Prod.fst u120), by omega⟩), i118, k119, vk_h1 u120⟩, (by show (0 + (3 - v121.toInt) * 1000000000000).toNat < (0 + (3 - w2.toInt) * 1000000000000).toNat; omega)⟩
              exact trivial
            exact trivial
          · have c96 : ¬ (¬ v89.toInt = 0) := c96
            show Iv s91 ∧ Kp s0 s91 ∧ vk s91 = (vk_ff (s0.1 0 2).toInt 3 (vk s0).1, (vk s0).2) ∧ (True)
            exact ⟨i92, k93, (by first | exact vk_l u94 (vk_ff_end x5.1 (by omega)) | exact vk_l u94 (vk_ff_st (f := 0) x5.1 (by omega) (by omega) (by omega) (by omega) (by omega)) | exact vk_l u94 (vk_ff_st (f := 1) x5.1 (by omega) (by omega) (by omega) (by omega) (by omega)) | exact vk_l u94 (vk_ff_st (f := 2) x5.1 (by omega) (by omega) (by omega) (by omega) (by omega))), (trivial)⟩
        exact trivial
def o_X10_oneClock : List vg_I := [(0, .aload_n 0, 1, 0, 0, 0, 0), (1, .getfield 10, 3, 430, 10, 3, 0), (4, .aload_n 0, 1, 0, 0, 0, 0), (5, .getfield 110, 3, 428, 10, 1, 0), (8, .invokevirtual 393, 3, 0, 7, 1, 620), (11, .istore_n 1, 1, 0, 0, 0, 0), (12, .aload_n 0, 1, 0, 0, 0, 0), (13, .getfield 52, 3, 436, 10, 9, 0), (16, .iconst 0, 1, 0, 0, 0, 0), (17, .aaload, 1, 0, 0, 0, 0), (18, .iload_n 1, 1, 0, 0, 0, 0), (19, .invokevirtual 422, 3, 1, 4, 1, 634), (22, .aload_n 0, 1, 0, 0, 0, 0), (23, .getfield 19, 3, 431, 10, 4, 0), (26, .iload_n 1, 1, 0, 0, 0, 0), (27, .invokevirtual 376, 3, 2, 5, 1, 641), (30, .istore_n 2, 1, 0, 0, 0, 0), (31, .aload_n 0, 1, 0, 0, 0, 0), (32, .getfield 52, 3, 436, 10, 9, 0), (35, .iconst 1, 1, 0, 0, 0, 0), (36, .aaload, 1, 0, 0, 0, 0), (37, .iload_n 2, 1, 0, 0, 0, 0), (38, .invokevirtual 422, 3, 1, 4, 1, 634), (41, .aload_n 0, 1, 0, 0, 0, 0), (42, .getfield 26, 3, 432, 10, 5, 0), (45, .iload_n 2, 1, 0, 0, 0, 0), (46, .invokevirtual 396, 3, 3, 2, 1, 721), (49, .istore_n 3, 1, 0, 0, 0, 0), (50, .aload_n 0, 1, 0, 0, 0, 0), (51, .getfield 52, 3, 436, 10, 9, 0), (54, .iconst 2, 1, 0, 0, 0, 0), (55, .aaload, 1, 0, 0, 0, 0), (56, .iload_n 3, 1, 0, 0, 0, 0), (57, .invokevirtual 422, 3, 1, 4, 1, 634), (60, .aload_n 0, 1, 0, 0, 0, 0), (61, .getfield 33, 3, 433, 10, 6, 0), (64, .aload_n 0, 1, 0, 0, 0, 0), (65, .getfield 33, 3, 433, 10, 6, 0), (68, .getfield 173, 3, 296, 1, 3, 0), (71, .ifCond .ne 7, 3, 0, 0, 0, 0), (74, .iload_n 2, 1, 0, 0, 0, 0), (75, .goto 4, 3, 0, 0, 0, 0), (78, .iload_n 3, 1, 0, 0, 0, 0), (79, .invokevirtual 425, 3, 4, 1, 1, 750), (82, .ifCond .eq 30, 3, 0, 0, 0, 0), (85, .aload_n 0, 1, 0, 0, 0, 0), (86, .getfield 52, 3, 436, 10, 9, 0), (89, .iconst 3, 1, 0, 0, 0, 0), (90, .aaload, 1, 0, 0, 0, 0), (91, .aload_n 0, 1, 0, 0, 0, 0), (92, .getfield 33, 3, 433, 10, 6, 0), (95, .invokevirtual 316, 3, 5, 1, 0, 762), (98, .invokevirtual 422, 3, 1, 4, 1, 634), (101, .aload_n 0, 1, 0, 0, 0, 0), (102, .aload_n 0, 1, 0, 0, 0, 0), (103, .getfield 33, 3, 433, 10, 6, 0), (106, .invokevirtual 316, 3, 5, 1, 0, 762), (109, .invokevirtual 427, 3, 6, 10, 1, 763), (112, .aload_n 0, 1, 0, 0, 0, 0), (113, .dup, 1, 0, 0, 0, 0), (114, .getfield 110, 3, 428, 10, 1, 0), (117, .iconst 1, 1, 0, 0, 0, 0), (118, .iadd, 1, 0, 0, 0, 0), (119, .putfield 110, 3, 428, 10, 1, 0), (122, .return_, 1, 0, 0, 0, 0)]
set_option maxRecDepth 100000 in
set_option maxHeartbeats 4000000 in
theorem c_X10_oneClock (l : Launch) (G : vg_G) (hp : vg_Hp G) : vg_Ct l G vg_sh r_X10_oneClock := by
  refine vg_meth hp vg_sh_ok r_X10_oneClock k_X10_oneClock rfl (fun h => by cases h) o_X10_oneClock [r_X7_numberAt, r_X4_put, r_X5_advance, r_X2_take, r_X1_take, r_X1_number, r_X10_handToFolds] false (by decide +kernel) (by decide +kernel) ⟨_, _, rfl, rfl⟩ (List.forall_mem_cons.mpr ⟨⟨c_X7_numberAt l G hp, Nat.le_of_ble_eq_true rfl, Nat.le_of_ble_eq_true rfl⟩, List.forall_mem_cons.mpr ⟨⟨c_X4_put l G hp, Nat.le_of_ble_eq_true rfl, Nat.le_of_ble_eq_true rfl⟩, List.forall_mem_cons.mpr ⟨⟨c_X5_advance l G hp, Nat.le_of_ble_eq_true rfl, Nat.le_of_ble_eq_true rfl⟩, List.forall_mem_cons.mpr ⟨⟨c_X2_take l G hp, Nat.le_of_ble_eq_true rfl, Nat.le_of_ble_eq_true rfl⟩, List.forall_mem_cons.mpr ⟨⟨c_X1_take l G hp, Nat.le_of_ble_eq_true rfl, Nat.le_of_ble_eq_true rfl⟩, List.forall_mem_cons.mpr ⟨⟨c_X1_number l G hp, Nat.le_of_ble_eq_true rfl, Nat.le_of_ble_eq_true rfl⟩, List.forall_mem_cons.mpr ⟨⟨c_X10_handToFolds l G hp, Nat.le_of_ble_eq_true rfl, Nat.le_of_ble_eq_true rfl⟩, fun _ h => absurd h List.not_mem_nil⟩⟩⟩⟩⟩⟩⟩) (fun h => by cases h) 600 ?_
  intro as s0 hpre
  obtain ⟨r, rfl, hr, i0, p0⟩ := hpre
  simp only [List.mem_cons, List.not_mem_nil, or_false] at hr
  rcases hr with rfl
  ·
    have z0 : (Int32.ofInt 0).toInt = 0 := by decide
    have z1 : (Int32.ofInt 1).toInt = 1 := by decide
    have z2 : (Int32.ofInt 2).toInt = 2 := by decide
    have z3 : (Int32.ofInt 3).toInt = 3 := by decide
    refine ⟨Nat.le_of_ble_eq_true rfl, [], ?_, fun _ h => absurd h List.not_mem_nil⟩
    ·
      intro v1 e2
      have g3 : s0.1 0 1 = v1 := by rw [e2]
      have g4 : s0.1 0 1 = v1 := e2.symm
      have b5 : v1.toInt = (s0.1 0 1).toInt := congrArg Int32.toInt e2
      refine And.intro (Nat.le_of_ble_eq_true rfl) (And.intro ⟨1, v1, rfl, by decide, i0⟩ ?_)
      intro v6 s8 h7
      have h7 : s8 = s0 ∧ (True) := h7
      have q11 := h7.1.symm
      subst q11
      refine And.intro rfl (And.intro ⟨by omega, by omega⟩ ?_)
      refine And.intro (fun c12 => ?_) ?_
      · have c12 : (Int32.ofInt 0).toInt = (0) := c12
        refine And.intro (Nat.le_of_ble_eq_true rfl) (And.intro ⟨41, v6, rfl, by decide, i0⟩ ?_)
        intro s14 h13
        have h13 : Iv s14 ∧ Kp s0 s14 ∧ vk s14 = (vk_inc (vk s0).1 0, (vk s0).2) ∧ (True) := h13
        have i15 := h13.1
        have k16 : K_X10_clocks s0 s14 := Kx.tr Kx.rf ((h13.2.1).px)
        have u17 : vk s14 = ((vk_inc (vk s0).1 0), (vk s0).2) := h13.2.2.1
        have g18 : s14.1 0 1 = v1 := by rw [h13.2.1.1 0 1 rfl]; exact g4
        refine And.intro (Nat.le_of_ble_eq_true rfl) (And.intro ⟨3, v6, rfl, by decide, i15⟩ ?_)
        intro v19 s21 h20
        have h20 : Iv s21 ∧ Kp s14 s21 ∧ vk s21 = ((vk s14).1, (vk s14).2) ∧ (True) := h20
        have i22 := h20.1
        have k23 : K_X10_clocks s0 s21 := Kx.tr k16 ((h20.2.1).px)
        have u24 : vk s21 = ((vk_inc (vk s0).1 0), (vk s0).2) := h20.2.2.1.trans u17
        have g25 : s21.1 0 1 = v1 := by rw [h20.2.1.1 0 1 rfl]; exact g18
        refine And.intro rfl (And.intro ⟨by omega, by omega⟩ ?_)
        refine And.intro (fun c26 => ?_) ?_
        · have c26 : (Int32.ofInt 1).toInt = (0) := c26
          exfalso
          omega
        refine And.intro (fun c27 => ?_) ?_
        · have c27 : (Int32.ofInt 1).toInt = (1) := c27
          refine And.intro (Nat.le_of_ble_eq_true rfl) (And.intro ⟨43, v19, rfl, by decide, i22⟩ ?_)
          intro s29 h28
          have h28 : Iv s29 ∧ Kp s21 s29 ∧ vk s29 = (vk_inc (vk s21).1 1, (vk s21).2) ∧ (True) := h28
          have i30 := h28.1
          have k31 : K_X10_clocks s0 s29 := Kx.tr k23 ((h28.2.1).px)
          have u32 : vk s29 = ((vk_inc (vk_inc (vk s0).1 0) 1), (vk s0).2) := (by rw [h28.2.2.1, u24])
          have g33 : s29.1 0 1 = v1 := by rw [h28.2.1.1 0 1 rfl]; exact g25
          refine And.intro (Nat.le_of_ble_eq_true rfl) (And.intro ⟨7, v19, rfl, by decide, i30⟩ ?_)
          intro v34 s36 h35
          have h35 : Iv s36 ∧ Kp s29 s36 ∧ vk s36 = ((vk s29).1, (vk s29).2) ∧ (True) := h35
          have i37 := h35.1
          have k38 : K_X10_clocks s0 s36 := Kx.tr k31 ((h35.2.1).px)
          have u39 : vk s36 = ((vk_inc (vk_inc (vk s0).1 0) 1), (vk s0).2) := h35.2.2.1.trans u32
          have g40 : s36.1 0 1 = v1 := by rw [h35.2.1.1 0 1 rfl]; exact g33
          refine And.intro rfl (And.intro ⟨by omega, by omega⟩ ?_)
          refine And.intro (fun c41 => ?_) ?_
          · have c41 : (Int32.ofInt 2).toInt = (0) := c41
            exfalso
            omega
          refine And.intro (fun c42 => ?_) ?_
          · have c42 : (Int32.ofInt 2).toInt = (1) := c42
            exfalso
            omega
          refine And.intro (fun c43 => ?_) ?_
          · have c43 : (Int32.ofInt 2).toInt = (2) := c43
            refine And.intro (Nat.le_of_ble_eq_true rfl) (And.intro ⟨45, v34, rfl, by decide, i37⟩ ?_)
            intro s45 h44
            have h44 : Iv s45 ∧ Kp s36 s45 ∧ vk s45 = (vk_inc (vk s36).1 2, (vk s36).2) ∧ (True) := h44
            have i46 := h44.1
            have k47 : K_X10_clocks s0 s45 := Kx.tr k38 ((h44.2.1).px)
            have u48 : vk s45 = ((vk_inc (vk_inc (vk_inc (vk s0).1 0) 1) 2), (vk s0).2) := (by rw [h44.2.2.1, u39])
            have g49 : s45.1 0 1 = v1 := by rw [h44.2.1.1 0 1 rfl]; exact g40
            intro v50 e51
            have g52 : s45.1 12 3 = v50 := by rw [e51]
            refine And.intro (fun c53 => ?_) (fun c53 => ?_)
            · have c53 : ¬ v50.toInt = 0 := c53
              have y3 := u48
              have y4 := congrArg Int32.toInt (k47.1 12 1 rfl)
              refine And.intro (Nat.le_of_ble_eq_true rfl) (And.intro ⟨12, v34, rfl, by decide, i46⟩ ?_)
              intro v54 s56 h55
              have h55 : Iv s56 ∧ Kp s45 s56 ∧ vk s56 = (vk_tk (s45.1 12 1).toInt (vk s45).1, (vk s45).2) ∧ ((v54.toInt = 0 ∧ ((vk s45).1 7 + Int32.ofInt 1).toInt < (s45.1 12 1).toInt) ∨ (v54.toInt = 1 ∧ ¬ ((vk s45).1 7 + Int32.ofInt 1).toInt < (s45.1 12 1).toInt)) := h55
              have i57 := h55.1
              have k58 : K_X10_clocks s0 s56 := Kx.tr k47 ((h55.2.1).px)
              have u59 : vk s56 = ((vk_tk (s45.1 12 1).toInt (vk_inc (vk_inc (vk_inc (vk s0).1 0) 1) 2)), (vk s0).2) := (by rw [h55.2.2.1, u48])
              have q60 := h55.2.2.2
              have g61 : s56.1 0 1 = v1 := by rw [h55.2.1.1 0 1 rfl]; exact g49
              have y5 : (v54.toInt = 0 ∧ ((vk_inc (vk_inc (vk_inc (vk s0).1 0) 1) 2) 7 + Int32.ofInt 1).toInt < (s0.1 12 1).toInt) ∨ (v54.toInt = 1 ∧ ¬ ((vk_inc (vk_inc (vk_inc (vk s0).1 0) 1) 2) 7 + Int32.ofInt 1).toInt < (s0.1 12 1).toInt) := by have h9 := q60; rw [y3, y4] at h9; exact h9
              refine And.intro (fun c62 => ?_) (fun c62 => ?_)
              · have c62 : v54.toInt = 0 := c62
                intro v63 e64
                have w65 : v1 = v63 := by rw [e64, g61]
                subst w65
                intro v66 e67
                have b68 := vg_add e67 (by omega) (by omega)
                intro s69 e70
                have i71 : Iv s69 := Iv.u1 i57 e70 rfl
                have k72 : K_X10_clocks s0 s69 := Kx.u1 k58 e70 rfl
                have u73 : vk s69 = ((vk_tk (s45.1 12 1).toInt (vk_inc (vk_inc (vk_inc (vk s0).1 0) 1) 2)), (vk s0).2) := vk_k1 u59 e70 rfl
                have g74 : s69.1 0 1 = v66 := by rw [e70]; exact vg_u1_self
                show Iv s69 ∧ K_X10_clocks s0 s69 ∧ vk s69 = (vk_step (s0.1 12 1).toInt (s0.1 0 2).toInt (vk s0).1, (vk s0).2) ∧ ((s69.1 0 1).toInt = (s0.1 0 1).toInt + 1)
                exact ⟨i71, k72, (by first | exact vk_l u73 (vk_st0 y4 (by omega)) | exact vk_l u73 (vk_st1 y4 y6 (by omega))), (by rw [g74]; omega)⟩
              · have c62 : ¬ (v54.toInt = 0) := c62
                refine And.intro rfl (And.intro ⟨by omega, by omega⟩ ?_)
                refine And.intro (fun c75 => ?_) ?_
                · have c75 : (Int32.ofInt 3).toInt = (0) := c75
                  exfalso
                  omega
                refine And.intro (fun c76 => ?_) ?_
                · have c76 : (Int32.ofInt 3).toInt = (1) := c76
                  exfalso
                  omega
                refine And.intro (fun c77 => ?_) ?_
                · have c77 : (Int32.ofInt 3).toInt = (2) := c77
                  exfalso
                  omega
                refine And.intro (fun c78 => ?_) ?_
                · have c78 : (Int32.ofInt 3).toInt = (3) := c78
                  refine And.intro (Nat.le_of_ble_eq_true rfl) (And.intro ⟨12, rfl, by decide, i57⟩ ?_)
                  intro v79 s81 h80
                  have h80 : s81 = s56 ∧ (True) := h80
                  have q84 := h80.1.symm
                  subst q84
                  refine And.intro (Nat.le_of_ble_eq_true rfl) (And.intro ⟨47, v79, rfl, by decide, i57⟩ ?_)
                  intro s86 h85
                  have h85 : Iv s86 ∧ Kp s56 s86 ∧ vk s86 = (vk_inc (vk s56).1 3, (vk s56).2) ∧ (True) := h85
                  have i87 := h85.1
                  have k88 : K_X10_clocks s0 s86 := Kx.tr k58 ((h85.2.1).px)
                  have u89 : vk s86 = ((vk_inc (vk_tk (s45.1 12 1).toInt (vk_inc (vk_inc (vk_inc (vk s0).1 0) 1) 2)) 3), (vk s0).2) := (by rw [h85.2.2.1, u59])
                  have g90 : s86.1 0 1 = v1 := by rw [h85.2.1.1 0 1 rfl]; exact g61
                  refine And.intro (Nat.le_of_ble_eq_true rfl) (And.intro ⟨12, rfl, by decide, i87⟩ ?_)
                  intro v91 s93 h92
                  have h92 : s93 = s86 ∧ (True) := h92
                  have q96 := h92.1.symm
                  subst q96
                  have y6 := congrArg Int32.toInt (k88.1 0 2 rfl)
                  refine And.intro (Nat.le_of_ble_eq_true rfl) (And.intro ⟨0, v91, rfl, by decide, i87⟩ ?_)
                  intro s98 h97
                  have h97 : Iv s98 ∧ Kp s86 s98 ∧ vk s98 = (vk_ff (s86.1 0 2).toInt 3 (vk s86).1, (vk s86).2) ∧ (True) := h97
                  have i99 := h97.1
                  have k100 : K_X10_clocks s0 s98 := Kx.tr k88 ((h97.2.1).px)
                  have u101 : vk s98 = ((vk_ff (s86.1 0 2).toInt 3 (vk_inc (vk_tk (s45.1 12 1).toInt (vk_inc (vk_inc (vk_inc (vk s0).1 0) 1) 2)) 3)), (vk s0).2) := (by rw [h97.2.2.1, u89])
                  have g102 : s98.1 0 1 = v1 := by rw [h97.2.1.1 0 1 rfl]; exact g90
                  intro v103 e104
                  have w105 : v1 = v103 := by rw [e104, g102]
                  subst w105
                  intro v106 e107
                  have b108 := vg_add e107 (by omega) (by omega)
                  intro s109 e110
                  have i111 : Iv s109 := Iv.u1 i99 e110 rfl
                  have k112 : K_X10_clocks s0 s109 := Kx.u1 k100 e110 rfl
                  have u113 : vk s109 = ((vk_ff (s86.1 0 2).toInt 3 (vk_inc (vk_tk (s45.1 12 1).toInt (vk_inc (vk_inc (vk_inc (vk s0).1 0) 1) 2)) 3)), (vk s0).2) := vk_k1 u101 e110 rfl
                  have g114 : s109.1 0 1 = v106 := by rw [e110]; exact vg_u1_self
                  show Iv s109 ∧ K_X10_clocks s0 s109 ∧ vk s109 = (vk_step (s0.1 12 1).toInt (s0.1 0 2).toInt (vk s0).1, (vk s0).2) ∧ ((s109.1 0 1).toInt = (s0.1 0 1).toInt + 1)
                  exact ⟨i111, k112, (by first | exact vk_l u113 (vk_st0 y4 (by omega)) | exact vk_l u113 (vk_st1 y4 y6 (by omega))), (by rw [g114]; omega)⟩
                refine And.intro (fun c115 => ?_) ?_
                · have c115 : (Int32.ofInt 3).toInt = (4) := c115
                  exfalso
                  omega
                refine And.intro (fun c116 => ?_) ?_
                · have c116 : (Int32.ofInt 3).toInt = (5) := c116
                  exfalso
                  omega
                refine And.intro (fun c117 => ?_) ?_
                · have c117 : (Int32.ofInt 3).toInt = (6) := c117
                  exfalso
                  omega
                exact trivial
            · have c53 : ¬ (¬ v50.toInt = 0) := c53
              have y3 := u48
              have y4 := congrArg Int32.toInt (k47.1 12 1 rfl)
              refine And.intro (Nat.le_of_ble_eq_true rfl) (And.intro ⟨12, v19, rfl, by decide, i46⟩ ?_)
              intro v118 s120 h119
              have h119 : Iv s120 ∧ Kp s45 s120 ∧ vk s120 = (vk_tk (s45.1 12 1).toInt (vk s45).1, (vk s45).2) ∧ ((v118.toInt = 0 ∧ ((vk s45).1 7 + Int32.ofInt 1).toInt < (s45.1 12 1).toInt) ∨ (v118.toInt = 1 ∧ ¬ ((vk s45).1 7 + Int32.ofInt 1).toInt < (s45.1 12 1).toInt)) := h119
              have i121 := h119.1
              have k122 : K_X10_clocks s0 s120 := Kx.tr k47 ((h119.2.1).px)
              have u123 : vk s120 = ((vk_tk (s45.1 12 1).toInt (vk_inc (vk_inc (vk_inc (vk s0).1 0) 1) 2)), (vk s0).2) := (by rw [h119.2.2.1, u48])
              have q124 := h119.2.2.2
              have g125 : s120.1 0 1 = v1 := by rw [h119.2.1.1 0 1 rfl]; exact g49
              have y5 : (v118.toInt = 0 ∧ ((vk_inc (vk_inc (vk_inc (vk s0).1 0) 1) 2) 7 + Int32.ofInt 1).toInt < (s0.1 12 1).toInt) ∨ (v118.toInt = 1 ∧ ¬ ((vk_inc (vk_inc (vk_inc (vk s0).1 0) 1) 2) 7 + Int32.ofInt 1).toInt < (s0.1 12 1).toInt) := by have h9 := q124; rw [y3, y4] at h9; exact h9
              refine And.intro (fun c126 => ?_) (fun c126 => ?_)
              · have c126 : v118.toInt = 0 := c126
                intro v127 e128
                have w129 : v1 = v127 := by rw [e128, g125]
                subst w129
                intro v130 e131
                have b132 := vg_add e131 (by omega) (by omega)
                intro s133 e134
                have i135 : Iv s133 := Iv.u1 i121 e134 rfl
                have k136 : K_X10_clocks s0 s133 := Kx.u1 k122 e134 rfl
                have u137 : vk s133 = ((vk_tk (s45.1 12 1).toInt (vk_inc (vk_inc (vk_inc (vk s0).1 0) 1) 2)), (vk s0).2) := vk_k1 u123 e134 rfl
                have g138 : s133.1 0 1 = v130 := by rw [e134]; exact vg_u1_self
                show Iv s133 ∧ K_X10_clocks s0 s133 ∧ vk s133 = (vk_step (s0.1 12 1).toInt (s0.1 0 2).toInt (vk s0).1, (vk s0).2) ∧ ((s133.1 0 1).toInt = (s0.1 0 1).toInt + 1)
                exact ⟨i135, k136, (by first | exact vk_l u137 (vk_st0 y4 (by omega)) | exact vk_l u137 (vk_st1 y4 y6 (by omega))), (by rw [g138]; omega)⟩
              · have c126 : ¬ (v118.toInt = 0) := c126
                refine And.intro rfl (And.intro ⟨by omega, by omega⟩ ?_)
                refine And.intro (fun c139 => ?_) ?_
                · have c139 : (Int32.ofInt 3).toInt = (0) := c139
                  exfalso
                  omega
                refine And.intro (fun c140 => ?_) ?_
                · have c140 : (Int32.ofInt 3).toInt = (1) := c140
                  exfalso
                  omega
                refine And.intro (fun c141 => ?_) ?_
                · have c141 : (Int32.ofInt 3).toInt = (2) := c141
                  exfalso
                  omega
                refine And.intro (fun c142 => ?_) ?_
                · have c142 : (Int32.ofInt 3).toInt = (3) := c142
                  refine And.intro (Nat.le_of_ble_eq_true rfl) (And.intro ⟨12, rfl, by decide, i121⟩ ?_)
                  intro v143 s145 h144
                  have h144 : s145 = s120 ∧ (True) := h144
                  have q148 := h144.1.symm
                  subst q148
                  refine And.intro (Nat.le_of_ble_eq_true rfl) (And.intro ⟨47, v143, rfl, by decide, i121⟩ ?_)
                  intro s150 h149
                  have h149 : Iv s150 ∧ Kp s120 s150 ∧ vk s150 = (vk_inc (vk s120).1 3, (vk s120).2) ∧ (True) := h149
                  have i151 := h149.1
                  have k152 : K_X10_clocks s0 s150 := Kx.tr k122 ((h149.2.1).px)
                  have u153 : vk s150 = ((vk_inc (vk_tk (s45.1 12 1).toInt (vk_inc (vk_inc (vk_inc (vk s0).1 0) 1) 2)) 3), (vk s0).2) := (by rw [h149.2.2.1, u123])
                  have g154 : s150.1 0 1 = v1 := by rw [h149.2.1.1 0 1 rfl]; exact g125
                  refine And.intro (Nat.le_of_ble_eq_true rfl) (And.intro ⟨12, rfl, by decide, i151⟩ ?_)
                  intro v155 s157 h156
                  have h156 : s157 = s150 ∧ (True) := h156
                  have q160 := h156.1.symm
                  subst q160
                  have y6 := congrArg Int32.toInt (k152.1 0 2 rfl)
                  refine And.intro (Nat.le_of_ble_eq_true rfl) (And.intro ⟨0, v155, rfl, by decide, i151⟩ ?_)
                  intro s162 h161
                  have h161 : Iv s162 ∧ Kp s150 s162 ∧ vk s162 = (vk_ff (s150.1 0 2).toInt 3 (vk s150).1, (vk s150).2) ∧ (True) := h161
                  have i163 := h161.1
                  have k164 : K_X10_clocks s0 s162 := Kx.tr k152 ((h161.2.1).px)
                  have u165 : vk s162 = ((vk_ff (s150.1 0 2).toInt 3 (vk_inc (vk_tk (s45.1 12 1).toInt (vk_inc (vk_inc (vk_inc (vk s0).1 0) 1) 2)) 3)), (vk s0).2) := (by rw [h161.2.2.1, u153])
                  have g166 : s162.1 0 1 = v1 := by rw [h161.2.1.1 0 1 rfl]; exact g154
                  intro v167 e168
                  have w169 : v1 = v167 := by rw [e168, g166]
                  subst w169
                  intro v170 e171
                  have b172 := vg_add e171 (by omega) (by omega)
                  intro s173 e174
                  have i175 : Iv s173 := Iv.u1 i163 e174 rfl
                  have k176 : K_X10_clocks s0 s173 := Kx.u1 k164 e174 rfl
                  have u177 : vk s173 = ((vk_ff (s150.1 0 2).toInt 3 (vk_inc (vk_tk (s45.1 12 1).toInt (vk_inc (vk_inc (vk_inc (vk s0).1 0) 1) 2)) 3)), (vk s0).2) := vk_k1 u165 e174 rfl
                  have g178 : s173.1 0 1 = v170 := by rw [e174]; exact vg_u1_self
                  show Iv s173 ∧ K_X10_clocks s0 s173 ∧ vk s173 = (vk_step (s0.1 12 1).toInt (s0.1 0 2).toInt (vk s0).1, (vk s0).2) ∧ ((s173.1 0 1).toInt = (s0.1 0 1).toInt + 1)
                  exact ⟨i175, k176, (by first | exact vk_l u177 (vk_st0 y4 (by omega)) | exact vk_l u177 (vk_st1 y4 y6 (by omega))), (by rw [g178]; omega)⟩
                refine And.intro (fun c179 => ?_) ?_
                · have c179 : (Int32.ofInt 3).toInt = (4) := c179
                  exfalso
                  omega
                refine And.intro (fun c180 => ?_) ?_
                · have c180 : (Int32.ofInt 3).toInt = (5) := c180
                  exfalso
                  omega
                refine And.intro (fun c181 => ?_) ?_
                · have c181 : (Int32.ofInt 3).toInt = (6) := c181
                  exfalso
                  omega
                exact trivial
          refine And.intro (fun c182 => ?_) ?_
          · have c182 : (Int32.ofInt 2).toInt = (3) := c182
            exfalso
            omega
          refine And.intro (fun c183 => ?_) ?_
          · have c183 : (Int32.ofInt 2).toInt = (4) := c183
            exfalso
            omega
          refine And.intro (fun c184 => ?_) ?_
          · have c184 : (Int32.ofInt 2).toInt = (5) := c184
            exfalso
            omega
          refine And.intro (fun c185 => ?_) ?_
          · have c185 : (Int32.ofInt 2).toInt = (6) := c185
            exfalso
            omega
          exact trivial
        refine And.intro (fun c186 => ?_) ?_
        · have c186 : (Int32.ofInt 1).toInt = (2) := c186
          exfalso
          omega
        refine And.intro (fun c187 => ?_) ?_
        · have c187 : (Int32.ofInt 1).toInt = (3) := c187
          exfalso
          omega
        refine And.intro (fun c188 => ?_) ?_
        · have c188 : (Int32.ofInt 1).toInt = (4) := c188
          exfalso
          omega
        refine And.intro (fun c189 => ?_) ?_
        · have c189 : (Int32.ofInt 1).toInt = (5) := c189
          exfalso
          omega
        refine And.intro (fun c190 => ?_) ?_
        · have c190 : (Int32.ofInt 1).toInt = (6) := c190
          exfalso
          omega
        exact trivial
      refine And.intro (fun c191 => ?_) ?_
      · have c191 : (Int32.ofInt 0).toInt = (1) := c191
        exfalso
        omega
      refine And.intro (fun c192 => ?_) ?_
      · have c192 : (Int32.ofInt 0).toInt = (2) := c192
        exfalso
        omega
      refine And.intro (fun c193 => ?_) ?_
      · have c193 : (Int32.ofInt 0).toInt = (3) := c193
        exfalso
        omega
      refine And.intro (fun c194 => ?_) ?_
      · have c194 : (Int32.ofInt 0).toInt = (4) := c194
        exfalso
        omega
      refine And.intro (fun c195 => ?_) ?_
      · have c195 : (Int32.ofInt 0).toInt = (5) := c195
        exfalso
        omega
      refine And.intro (fun c196 => ?_) ?_
      · have c196 : (Int32.ofInt 0).toInt = (6) := c196
        exfalso
        omega
      exact trivial
def o_X10_clocks : List vg_I := [(0, .iload_n 1, 1, 0, 0, 0, 0), (1, .iconst 1, 1, 0, 0, 0, 0), (2, .sipush 400, 3, 0, 0, 0, 0), (5, .invokestatic 82, 3, 0, 1, 3, 478), (8, .ifCond .ne 9, 3, 0, 0, 0, 0), (11, .aload_n 0, 1, 0, 0, 0, 0), (12, .iconst 1, 1, 0, 0, 0, 0), (13, .invokevirtual 90, 3, 1, 10, 1, 484), (16, .ireturn, 1, 0, 0, 0, 0), (17, .iconst 0, 1, 0, 0, 0, 0), (18, .istore_n 2, 1, 0, 0, 0, 0), (19, .iload_n 2, 1, 0, 0, 0, 0), (20, .iload_n 1, 1, 0, 0, 0, 0), (21, .if_icmp .ge 13, 3, 0, 0, 0, 0), (24, .aload_n 0, 1, 0, 0, 0, 0), (25, .invokevirtual 204, 3, 2, 10, 0, 616), (28, .iinc 2 1, 3, 0, 0, 0, 0), (31, .goto (-12), 3, 0, 0, 0, 0), (34, .aload_n 0, 1, 0, 0, 0, 0), (35, .aload_n 0, 1, 0, 0, 0, 0), (36, .getfield 110, 3, 428, 10, 1, 0), (39, .invokevirtual 113, 3, 3, 10, 1, 520), (42, .ireturn, 1, 0, 0, 0, 0)]
set_option maxRecDepth 100000 in
set_option maxHeartbeats 4000000 in
theorem c_X10_clocks (l : Launch) (G : vg_G) (hp : vg_Hp G) : vg_Ct l G vg_sh r_X10_clocks := by
  refine vg_meth hp vg_sh_ok r_X10_clocks k_X10_clocks rfl (fun h => by cases h) o_X10_clocks [r_X10_within, r_X10_refuse, r_X10_oneClock, r_X10_answer] false (by decide +kernel) (by decide +kernel) ⟨_, _, rfl, rfl⟩ (List.forall_mem_cons.mpr ⟨⟨c_X10_within l G hp, Nat.le_of_ble_eq_true rfl, Nat.le_of_ble_eq_true rfl⟩, List.forall_mem_cons.mpr ⟨⟨c_X10_refuse l G hp, Nat.le_of_ble_eq_true rfl, Nat.le_of_ble_eq_true rfl⟩, List.forall_mem_cons.mpr ⟨⟨c_X10_oneClock l G hp, Nat.le_of_ble_eq_true rfl, Nat.le_of_ble_eq_true rfl⟩, List.forall_mem_cons.mpr ⟨⟨c_X10_answer l G hp, Nat.le_of_ble_eq_true rfl, Nat.le_of_ble_eq_true rfl⟩, fun _ h => absurd h List.not_mem_nil⟩⟩⟩⟩) (fun h => by cases h) 600 ?_
  intro as s0 hpre
  obtain ⟨r, a1, rfl, hr, i0, p0⟩ := hpre
  simp only [List.mem_cons, List.not_mem_nil, or_false] at hr
  rcases hr with rfl
  ·
    have z0 : (Int32.ofInt 0).toInt = 0 := by decide
    have z1 : (Int32.ofInt 1).toInt = 1 := by decide
    have z400 : (Int32.ofInt 400).toInt = 400 := by decide
    refine ⟨Nat.le_of_ble_eq_true rfl, [(19, [true, true, true], (fun L t => ∃ (x2 : Int32), L = [some (.ref 0), some (.int a1), some (.int x2)] ∧ (0 : Int) ≤ x2.toInt ∧ x2.toInt ≤ (400 : Int) ∧ (1 : Int) ≤ a1.toInt ∧ a1.toInt ≤ (400 : Int) ∧ ((t.1 0 1).toInt = (s0.1 0 1).toInt + x2.toInt ∧ x2.toInt ≤ a1.toInt) ∧ Iv t ∧ K_X10_clocks s0 t ∧ vk t = (vk_it (s0.1 12 1).toInt (s0.1 0 2).toInt x2.toNatClampNeg (vk s0).1, (vk s0).2)), (fun L _ => (0 + (400 - (vg_li L 2).toInt) * 1000000000000).toNat))], ?_, List.forall_mem_cons.mpr ⟨?_, fun _ h => absurd h List.not_mem_nil⟩⟩
    ·
      refine And.intro (Nat.le_of_ble_eq_true rfl) (And.intro ⟨a1, (Int32.ofInt 1), (Int32.ofInt 400), rfl, trivial⟩ ?_)
      intro v1 s3 h2
      have h2 : s3 = s0 ∧ ((v1.toInt = 1 ∧ (Int32.ofInt 1).toInt ≤ a1.toInt ∧ a1.toInt ≤ (Int32.ofInt 400).toInt) ∨ (v1.toInt = 0 ∧ (a1.toInt < (Int32.ofInt 1).toInt ∨ (Int32.ofInt 400).toInt < a1.toInt))) := h2
      have q6 := h2.1.symm
      subst q6
      have q7 := h2.2
      refine And.intro (fun c8 => ?_) (fun c8 => ?_)
      · have c8 : ¬ v1.toInt = 0 := c8
        exact ⟨rfl, ⟨(Int32.ofInt 0), rfl, (by omega), (by omega), (by omega), (by omega), (by omega), i0, Kx.rf, (by first | exact vk_l rfl (vk_it_s y0 y1 (by omega) (by omega)) | exact vk_l rfl rfl)⟩, trivial⟩
      · have c8 : ¬ (¬ v1.toInt = 0) := c8
        refine And.intro (Nat.le_of_ble_eq_true rfl) (And.intro ⟨0, (Int32.ofInt 1), rfl, by decide, i0⟩ ?_)
        intro v9 s11 h10
        have h10 : Iv s11 ∧ Kp s0 s11 ∧ vk s11 = ((vk s0).1, (vk s0).2) ∧ (v9.toInt = -1) := h10
        have i12 := h10.1
        have k13 : K_X10_clocks s0 s11 := Kx.tr Kx.rf ((h10.2.1).px)
        have u14 : vk s11 = ((vk s0).1, (vk s0).2) := h10.2.2.1.trans rfl
        have q15 := h10.2.2.2
        show Iv s11 ∧ K_X10_clocks s0 s11 ∧ vk s11 = (if (1 ≤ a1.toInt ∧ a1.toInt ≤ 400) then vk_it (s0.1 12 1).toInt (s0.1 0 2).toInt a1.toNatClampNeg (vk s0).1 else (vk s0).1, (vk s0).2) ∧ (((1 ≤ a1.toInt ∧ a1.toInt ≤ 400) ∧ v9.toInt = (s0.1 0 1).toInt + a1.toInt ∧ (s11.1 0 1).toInt = (s0.1 0 1).toInt + a1.toInt) ∨ (¬ (1 ≤ a1.toInt ∧ a1.toInt ≤ 400) ∧ v9.toInt = -1 ∧ (s11.1 0 1).toInt = (s0.1 0 1).toInt))
        exact ⟨i12, k13, (by first | exact vk_l u14 (by rw [if_pos (by omega), vg_eqi (x := a1) (y := none) (by omega)]) | exact vk_l u14 (by rw [if_neg (by omega)])), (by have h9 := congrArg Int32.toInt (h10.2.1.1 0 1 rfl); omega)⟩
    ·
      intro L s22 hL
      obtain ⟨w16, rfl, b17, b18, b19, b20, x21, i23, k24, u25⟩ := hL
      have y0 := congrArg Int32.toInt (k24.1 12 1 rfl)
      have y1 := congrArg Int32.toInt (k24.1 0 2 rfl)
      refine And.intro (fun c26 => ?_) (fun c26 => ?_)
      · have c26 : a1.toInt ≤ w16.toInt := c26
        intro v27 e28
        have g29 : s22.1 0 1 = v27 := by rw [e28]
        have b30 : v27.toInt = (s22.1 0 1).toInt := congrArg Int32.toInt e28
        refine And.intro (Nat.le_of_ble_eq_true rfl) (And.intro ⟨0, v27, rfl, by decide, i23⟩ ?_)
        intro v31 s33 h32
        have h32 : Iv s33 ∧ Kp s22 s33 ∧ vk s33 = ((vk s22).1, (vk s22).2) ∧ (v31 = v27 ∧ v31.toInt = v27.toInt) := h32
        have i34 := h32.1
        have k35 : K_X10_clocks s0 s33 := Kx.tr k24 ((h32.2.1).px)
        have u36 : vk s33 = ((vk_it (s0.1 12 1).toInt (s0.1 0 2).toInt w16.toNatClampNeg (vk s0).1), (vk s0).2) := h32.2.2.1.trans u25
        have q37 := h32.2.2.2
        show Iv s33 ∧ K_X10_clocks s0 s33 ∧ vk s33 = (if (1 ≤ a1.toInt ∧ a1.toInt ≤ 400) then vk_it (s0.1 12 1).toInt (s0.1 0 2).toInt a1.toNatClampNeg (vk s0).1 else (vk s0).1, (vk s0).2) ∧ (((1 ≤ a1.toInt ∧ a1.toInt ≤ 400) ∧ v31.toInt = (s0.1 0 1).toInt + a1.toInt ∧ (s33.1 0 1).toInt = (s0.1 0 1).toInt + a1.toInt) ∨ (¬ (1 ≤ a1.toInt ∧ a1.toInt ≤ 400) ∧ v31.toInt = -1 ∧ (s33.1 0 1).toInt = (s0.1 0 1).toInt))
        exact ⟨i34, k35, (by first | exact vk_l u36 (by rw [if_pos (by omega), vg_eqi (x := a1) (y := w16) (by omega)]) | exact vk_l u36 (by rw [if_neg (by omega)])), (by have h9 := congrArg Int32.toInt (h32.2.1.1 0 1 rfl); omega)⟩
      · have c26 : ¬ (a1.toInt ≤ w16.toInt) := c26
        refine And.intro (Nat.le_of_ble_eq_true rfl) (And.intro ⟨0, rfl, by decide, i23, by omega⟩ ?_)
        intro s39 h38
        have h38 : Iv s39 ∧ K_X10_clocks s22 s39 ∧ vk s39 = (vk_step (s22.1 12 1).toInt (s22.1 0 2).toInt (vk s22).1, (vk s22).2) ∧ ((s39.1 0 1).toInt = (s22.1 0 1).toInt + 1) := h38
        have i40 := h38.1
        have k41 : K_X10_clocks s0 s39 := Kx.tr k24 (h38.2.1)
        have u42 : vk s39 = ((vk_step (s22.1 12 1).toInt (s22.1 0 2).toInt (vk_it (s0.1 12 1).toInt (s0.1 0 2).toInt w16.toNatClampNeg (vk s0).1)), (vk s0).2) := (by rw [h38.2.2.1, u25])
        have q43 := h38.2.2.2
        intro v44 e45
        have b46 := vg_add e45 (by omega) (by omega)
        exact ⟨rfl, ⟨v44, rfl, (by omega), (by omega), (by omega), (by omega), (by omega), i40, k41, (by first | exact vk_l u42 (vk_it_s y0 y1 (by omega) (by omega)) | exact vk_l u42 rfl)⟩, (by show (0 + (400 - v44.toInt) * 1000000000000).toNat < (0 + (400 - w16.toInt) * 1000000000000).toNat; omega)⟩
def o_X10_latest : List vg_I := [(0, .iload_n 2, 1, 0, 0, 0, 0), (1, .ifCond .ge 9, 3, 0, 0, 0, 0), (4, .aload_n 0, 1, 0, 0, 0, 0), (5, .iconst 1, 1, 0, 0, 0, 0), (6, .invokevirtual 90, 3, 0, 10, 1, 484), (9, .ireturn, 1, 0, 0, 0, 0), (10, .iload_n 1, 1, 0, 0, 0, 0), (11, .invokestatic 201, 3, 1, 1, 1, 609), (14, .ifCond .ne 9, 3, 0, 0, 0, 0), (17, .aload_n 0, 1, 0, 0, 0, 0), (18, .iconst 2, 1, 0, 0, 0, 0), (19, .invokevirtual 90, 3, 0, 10, 1, 484), (22, .ireturn, 1, 0, 0, 0, 0), (23, .iload_n 2, 1, 0, 0, 0, 0), (24, .aload_n 0, 1, 0, 0, 0, 0), (25, .getfield 52, 3, 436, 10, 9, 0), (28, .iload_n 1, 1, 0, 0, 0, 0), (29, .aaload, 1, 0, 0, 0, 0), (30, .getfield 210, 3, 415, 4, 2, 0), (33, .if_icmp .lt 9, 3, 0, 0, 0, 0), (36, .aload_n 0, 1, 0, 0, 0, 0), (37, .iconst 5, 1, 0, 0, 0, 0), (38, .invokevirtual 90, 3, 0, 10, 1, 484), (41, .ireturn, 1, 0, 0, 0, 0), (42, .aload_n 0, 1, 0, 0, 0, 0), (43, .aload_n 0, 1, 0, 0, 0, 0), (44, .getfield 52, 3, 436, 10, 9, 0), (47, .iload_n 1, 1, 0, 0, 0, 0), (48, .aaload, 1, 0, 0, 0, 0), (49, .iload_n 2, 1, 0, 0, 0, 0), (50, .invokevirtual 213, 3, 2, 4, 1, 788), (53, .invokevirtual 113, 3, 3, 10, 1, 520), (56, .ireturn, 1, 0, 0, 0, 0)]
set_option maxRecDepth 100000 in
set_option maxHeartbeats 4000000 in
theorem c_X10_latest (l : Launch) (G : vg_G) (hp : vg_Hp G) : vg_Ct l G vg_sh r_X10_latest := by
  refine vg_meth hp vg_sh_ok r_X10_latest k_X10_latest rfl (fun h => by cases h) o_X10_latest [r_X10_refuse, r_X10_isStage, r_X4_get, r_X10_answer] false (by decide +kernel) (by decide +kernel) ⟨_, _, rfl, rfl⟩ (List.forall_mem_cons.mpr ⟨⟨c_X10_refuse l G hp, Nat.le_of_ble_eq_true rfl, Nat.le_of_ble_eq_true rfl⟩, List.forall_mem_cons.mpr ⟨⟨c_X10_isStage l G hp, Nat.le_of_ble_eq_true rfl, Nat.le_of_ble_eq_true rfl⟩, List.forall_mem_cons.mpr ⟨⟨c_X4_get l G hp, Nat.le_of_ble_eq_true rfl, Nat.le_of_ble_eq_true rfl⟩, List.forall_mem_cons.mpr ⟨⟨c_X10_answer l G hp, Nat.le_of_ble_eq_true rfl, Nat.le_of_ble_eq_true rfl⟩, fun _ h => absurd h List.not_mem_nil⟩⟩⟩⟩) (fun h => by cases h) 600 ?_
  intro as s0 hpre
  obtain ⟨r, a1, a2, rfl, hr, i0⟩ := hpre
  simp only [List.mem_cons, List.not_mem_nil, or_false] at hr
  rcases hr with rfl
  ·
    have z1 : (Int32.ofInt 1).toInt = 1 := by decide
    have z2 : (Int32.ofInt 2).toInt = 2 := by decide
    have z5 : (Int32.ofInt 5).toInt = 5 := by decide
    refine ⟨Nat.le_of_ble_eq_true rfl, [], ?_, fun _ h => absurd h List.not_mem_nil⟩
    ·
      refine And.intro (fun c1 => ?_) (fun c1 => ?_)
      · have c1 : 0 ≤ a2.toInt := c1
        refine And.intro (Nat.le_of_ble_eq_true rfl) (And.intro ⟨a1, rfl, trivial⟩ ?_)
        intro v2 s4 h3
        have h3 : s4 = s0 ∧ ((v2.toInt = 1 ∧ 0 ≤ a1.toInt ∧ a1.toInt ≤ 6) ∨ (v2.toInt = 0 ∧ (a1.toInt < 0 ∨ 6 < a1.toInt))) := h3
        have q7 := h3.1.symm
        subst q7
        have q8 := h3.2
        refine And.intro (fun c9 => ?_) (fun c9 => ?_)
        · have c9 : ¬ v2.toInt = 0 := c9
          refine And.intro rfl (And.intro ⟨by omega, by omega⟩ ?_)
          refine And.intro (fun c10 => ?_) ?_
          · have c10 : a1.toInt = (0) := c10
            intro v11 e12
            have g13 : s0.1 41 2 = v11 := by rw [e12]
            have b14 : (0 : Int) ≤ v11.toInt ∧ v11.toInt ≤ 48 := by rw [e12]; exact Iv_41_2 i0
            refine And.intro (fun c15 => ?_) (fun c15 => ?_)
            · have c15 : a2.toInt < v11.toInt := c15
              refine And.intro rfl (And.intro ⟨by omega, by omega⟩ ?_)
              refine And.intro (fun c16 => ?_) ?_
              · have c16 : a1.toInt = (0) := c16
                refine And.intro (Nat.le_of_ble_eq_true rfl) (And.intro ⟨41, a2, rfl, by decide, i0⟩ ?_)
                intro v17 s19 h18
                have h18 : s19 = s0 ∧ (True) := h18
                have q22 := h18.1.symm
                subst q22
                refine And.intro (Nat.le_of_ble_eq_true rfl) (And.intro ⟨0, v17, rfl, by decide, i0⟩ ?_)
                intro v23 s25 h24
                have h24 : Iv s25 ∧ Kp s0 s25 ∧ vk s25 = ((vk s0).1, (vk s0).2) ∧ (v23 = v17 ∧ v23.toInt = v17.toInt) := h24
                have i26 := h24.1
                have k27 : Kp s0 s25 := Kx.tr Kx.rf (h24.2.1)
                have u28 : vk s25 = ((vk s0).1, (vk s0).2) := h24.2.2.1.trans rfl
                have q29 := h24.2.2.2
                show Iv s25 ∧ Kp s0 s25 ∧ vk s25 = ((vk s0).1, (vk s0).2) ∧ (True)
                exact ⟨i26, k27, u28, (trivial)⟩
              refine And.intro (fun c30 => ?_) ?_
              · have c30 : a1.toInt = (1) := c30
                exfalso
                omega
              refine And.intro (fun c31 => ?_) ?_
              · have c31 : a1.toInt = (2) := c31
                exfalso
                omega
              refine And.intro (fun c32 => ?_) ?_
              · have c32 : a1.toInt = (3) := c32
                exfalso
                omega
              refine And.intro (fun c33 => ?_) ?_
              · have c33 : a1.toInt = (4) := c33
                exfalso
                omega
              refine And.intro (fun c34 => ?_) ?_
              · have c34 : a1.toInt = (5) := c34
                exfalso
                omega
              refine And.intro (fun c35 => ?_) ?_
              · have c35 : a1.toInt = (6) := c35
                exfalso
                omega
              exact trivial
            · have c15 : ¬ (a2.toInt < v11.toInt) := c15
              refine And.intro (Nat.le_of_ble_eq_true rfl) (And.intro ⟨0, (Int32.ofInt 5), rfl, by decide, i0⟩ ?_)
              intro v36 s38 h37
              have h37 : Iv s38 ∧ Kp s0 s38 ∧ vk s38 = ((vk s0).1, (vk s0).2) ∧ (v36.toInt = -1) := h37
              have i39 := h37.1
              have k40 : Kp s0 s38 := Kx.tr Kx.rf (h37.2.1)
              have u41 : vk s38 = ((vk s0).1, (vk s0).2) := h37.2.2.1.trans rfl
              have q42 := h37.2.2.2
              show Iv s38 ∧ Kp s0 s38 ∧ vk s38 = ((vk s0).1, (vk s0).2) ∧ (True)
              exact ⟨i39, k40, u41, (trivial)⟩
          refine And.intro (fun c43 => ?_) ?_
          · have c43 : a1.toInt = (1) := c43
            intro v44 e45
            have g46 : s0.1 43 2 = v44 := by rw [e45]
            have b47 : (0 : Int) ≤ v44.toInt ∧ v44.toInt ≤ 48 := by rw [e45]; exact Iv_43_2 i0
            refine And.intro (fun c48 => ?_) (fun c48 => ?_)
            · have c48 : a2.toInt < v44.toInt := c48
              refine And.intro rfl (And.intro ⟨by omega, by omega⟩ ?_)
              refine And.intro (fun c49 => ?_) ?_
              · have c49 : a1.toInt = (0) := c49
                exfalso
                omega
              refine And.intro (fun c50 => ?_) ?_
              · have c50 : a1.toInt = (1) := c50
                refine And.intro (Nat.le_of_ble_eq_true rfl) (And.intro ⟨43, a2, rfl, by decide, i0⟩ ?_)
                intro v51 s53 h52
                have h52 : s53 = s0 ∧ (True) := h52
                have q56 := h52.1.symm
                subst q56
                refine And.intro (Nat.le_of_ble_eq_true rfl) (And.intro ⟨0, v51, rfl, by decide, i0⟩ ?_)
                intro v57 s59 h58
                have h58 : Iv s59 ∧ Kp s0 s59 ∧ vk s59 = ((vk s0).1, (vk s0).2) ∧ (v57 = v51 ∧ v57.toInt = v51.toInt) := h58
                have i60 := h58.1
                have k61 : Kp s0 s59 := Kx.tr Kx.rf (h58.2.1)
                have u62 : vk s59 = ((vk s0).1, (vk s0).2) := h58.2.2.1.trans rfl
                have q63 := h58.2.2.2
                show Iv s59 ∧ Kp s0 s59 ∧ vk s59 = ((vk s0).1, (vk s0).2) ∧ (True)
                exact ⟨i60, k61, u62, (trivial)⟩
              refine And.intro (fun c64 => ?_) ?_
              · have c64 : a1.toInt = (2) := c64
                exfalso
                omega
              refine And.intro (fun c65 => ?_) ?_
              · have c65 : a1.toInt = (3) := c65
                exfalso
                omega
              refine And.intro (fun c66 => ?_) ?_
              · have c66 : a1.toInt = (4) := c66
                exfalso
                omega
              refine And.intro (fun c67 => ?_) ?_
              · have c67 : a1.toInt = (5) := c67
                exfalso
                omega
              refine And.intro (fun c68 => ?_) ?_
              · have c68 : a1.toInt = (6) := c68
                exfalso
                omega
              exact trivial
            · have c48 : ¬ (a2.toInt < v44.toInt) := c48
              refine And.intro (Nat.le_of_ble_eq_true rfl) (And.intro ⟨0, (Int32.ofInt 5), rfl, by decide, i0⟩ ?_)
              intro v69 s71 h70
              have h70 : Iv s71 ∧ Kp s0 s71 ∧ vk s71 = ((vk s0).1, (vk s0).2) ∧ (v69.toInt = -1) := h70
              have i72 := h70.1
              have k73 : Kp s0 s71 := Kx.tr Kx.rf (h70.2.1)
              have u74 : vk s71 = ((vk s0).1, (vk s0).2) := h70.2.2.1.trans rfl
              have q75 := h70.2.2.2
              show Iv s71 ∧ Kp s0 s71 ∧ vk s71 = ((vk s0).1, (vk s0).2) ∧ (True)
              exact ⟨i72, k73, u74, (trivial)⟩
          refine And.intro (fun c76 => ?_) ?_
          · have c76 : a1.toInt = (2) := c76
            intro v77 e78
            have g79 : s0.1 45 2 = v77 := by rw [e78]
            have b80 : (0 : Int) ≤ v77.toInt ∧ v77.toInt ≤ 48 := by rw [e78]; exact Iv_45_2 i0
            refine And.intro (fun c81 => ?_) (fun c81 => ?_)
            · have c81 : a2.toInt < v77.toInt := c81
              refine And.intro rfl (And.intro ⟨by omega, by omega⟩ ?_)
              refine And.intro (fun c82 => ?_) ?_
              · have c82 : a1.toInt = (0) := c82
                exfalso
                omega
              refine And.intro (fun c83 => ?_) ?_
              · have c83 : a1.toInt = (1) := c83
                exfalso
                omega
              refine And.intro (fun c84 => ?_) ?_
              · have c84 : a1.toInt = (2) := c84
                refine And.intro (Nat.le_of_ble_eq_true rfl) (And.intro ⟨45, a2, rfl, by decide, i0⟩ ?_)
                intro v85 s87 h86
                have h86 : s87 = s0 ∧ (True) := h86
                have q90 := h86.1.symm
                subst q90
                refine And.intro (Nat.le_of_ble_eq_true rfl) (And.intro ⟨0, v85, rfl, by decide, i0⟩ ?_)
                intro v91 s93 h92
                have h92 : Iv s93 ∧ Kp s0 s93 ∧ vk s93 = ((vk s0).1, (vk s0).2) ∧ (v91 = v85 ∧ v91.toInt = v85.toInt) := h92
                have i94 := h92.1
                have k95 : Kp s0 s93 := Kx.tr Kx.rf (h92.2.1)
                have u96 : vk s93 = ((vk s0).1, (vk s0).2) := h92.2.2.1.trans rfl
                have q97 := h92.2.2.2
                show Iv s93 ∧ Kp s0 s93 ∧ vk s93 = ((vk s0).1, (vk s0).2) ∧ (True)
                exact ⟨i94, k95, u96, (trivial)⟩
              refine And.intro (fun c98 => ?_) ?_
              · have c98 : a1.toInt = (3) := c98
                exfalso
                omega
              refine And.intro (fun c99 => ?_) ?_
              · have c99 : a1.toInt = (4) := c99
                exfalso
                omega
              refine And.intro (fun c100 => ?_) ?_
              · have c100 : a1.toInt = (5) := c100
                exfalso
                omega
              refine And.intro (fun c101 => ?_) ?_
              · have c101 : a1.toInt = (6) := c101
                exfalso
                omega
              exact trivial
            · have c81 : ¬ (a2.toInt < v77.toInt) := c81
              refine And.intro (Nat.le_of_ble_eq_true rfl) (And.intro ⟨0, (Int32.ofInt 5), rfl, by decide, i0⟩ ?_)
              intro v102 s104 h103
              have h103 : Iv s104 ∧ Kp s0 s104 ∧ vk s104 = ((vk s0).1, (vk s0).2) ∧ (v102.toInt = -1) := h103
              have i105 := h103.1
              have k106 : Kp s0 s104 := Kx.tr Kx.rf (h103.2.1)
              have u107 : vk s104 = ((vk s0).1, (vk s0).2) := h103.2.2.1.trans rfl
              have q108 := h103.2.2.2
              show Iv s104 ∧ Kp s0 s104 ∧ vk s104 = ((vk s0).1, (vk s0).2) ∧ (True)
              exact ⟨i105, k106, u107, (trivial)⟩
          refine And.intro (fun c109 => ?_) ?_
          · have c109 : a1.toInt = (3) := c109
            intro v110 e111
            have g112 : s0.1 47 2 = v110 := by rw [e111]
            have b113 : (0 : Int) ≤ v110.toInt ∧ v110.toInt ≤ 48 := by rw [e111]; exact Iv_47_2 i0
            refine And.intro (fun c114 => ?_) (fun c114 => ?_)
            · have c114 : a2.toInt < v110.toInt := c114
              refine And.intro rfl (And.intro ⟨by omega, by omega⟩ ?_)
              refine And.intro (fun c115 => ?_) ?_
              · have c115 : a1.toInt = (0) := c115
                exfalso
                omega
              refine And.intro (fun c116 => ?_) ?_
              · have c116 : a1.toInt = (1) := c116
                exfalso
                omega
              refine And.intro (fun c117 => ?_) ?_
              · have c117 : a1.toInt = (2) := c117
                exfalso
                omega
              refine And.intro (fun c118 => ?_) ?_
              · have c118 : a1.toInt = (3) := c118
                refine And.intro (Nat.le_of_ble_eq_true rfl) (And.intro ⟨47, a2, rfl, by decide, i0⟩ ?_)
                intro v119 s121 h120
                have h120 : s121 = s0 ∧ (True) := h120
                have q124 := h120.1.symm
                subst q124
                refine And.intro (Nat.le_of_ble_eq_true rfl) (And.intro ⟨0, v119, rfl, by decide, i0⟩ ?_)
                intro v125 s127 h126
                have h126 : Iv s127 ∧ Kp s0 s127 ∧ vk s127 = ((vk s0).1, (vk s0).2) ∧ (v125 = v119 ∧ v125.toInt = v119.toInt) := h126
                have i128 := h126.1
                have k129 : Kp s0 s127 := Kx.tr Kx.rf (h126.2.1)
                have u130 : vk s127 = ((vk s0).1, (vk s0).2) := h126.2.2.1.trans rfl
                have q131 := h126.2.2.2
                show Iv s127 ∧ Kp s0 s127 ∧ vk s127 = ((vk s0).1, (vk s0).2) ∧ (True)
                exact ⟨i128, k129, u130, (trivial)⟩
              refine And.intro (fun c132 => ?_) ?_
              · have c132 : a1.toInt = (4) := c132
                exfalso
                omega
              refine And.intro (fun c133 => ?_) ?_
              · have c133 : a1.toInt = (5) := c133
                exfalso
                omega
              refine And.intro (fun c134 => ?_) ?_
              · have c134 : a1.toInt = (6) := c134
                exfalso
                omega
              exact trivial
            · have c114 : ¬ (a2.toInt < v110.toInt) := c114
              refine And.intro (Nat.le_of_ble_eq_true rfl) (And.intro ⟨0, (Int32.ofInt 5), rfl, by decide, i0⟩ ?_)
              intro v135 s137 h136
              have h136 : Iv s137 ∧ Kp s0 s137 ∧ vk s137 = ((vk s0).1, (vk s0).2) ∧ (v135.toInt = -1) := h136
              have i138 := h136.1
              have k139 : Kp s0 s137 := Kx.tr Kx.rf (h136.2.1)
              have u140 : vk s137 = ((vk s0).1, (vk s0).2) := h136.2.2.1.trans rfl
              have q141 := h136.2.2.2
              show Iv s137 ∧ Kp s0 s137 ∧ vk s137 = ((vk s0).1, (vk s0).2) ∧ (True)
              exact ⟨i138, k139, u140, (trivial)⟩
          refine And.intro (fun c142 => ?_) ?_
          · have c142 : a1.toInt = (4) := c142
            intro v143 e144
            have g145 : s0.1 49 2 = v143 := by rw [e144]
            have b146 : (0 : Int) ≤ v143.toInt ∧ v143.toInt ≤ 48 := by rw [e144]; exact Iv_49_2 i0
            refine And.intro (fun c147 => ?_) (fun c147 => ?_)
            · have c147 : a2.toInt < v143.toInt := c147
              refine And.intro rfl (And.intro ⟨by omega, by omega⟩ ?_)
              refine And.intro (fun c148 => ?_) ?_
              · have c148 : a1.toInt = (0) := c148
                exfalso
                omega
              refine And.intro (fun c149 => ?_) ?_
              · have c149 : a1.toInt = (1) := c149
                exfalso
                omega
              refine And.intro (fun c150 => ?_) ?_
              · have c150 : a1.toInt = (2) := c150
                exfalso
                omega
              refine And.intro (fun c151 => ?_) ?_
              · have c151 : a1.toInt = (3) := c151
                exfalso
                omega
              refine And.intro (fun c152 => ?_) ?_
              · have c152 : a1.toInt = (4) := c152
                refine And.intro (Nat.le_of_ble_eq_true rfl) (And.intro ⟨49, a2, rfl, by decide, i0⟩ ?_)
                intro v153 s155 h154
                have h154 : s155 = s0 ∧ (True) := h154
                have q158 := h154.1.symm
                subst q158
                refine And.intro (Nat.le_of_ble_eq_true rfl) (And.intro ⟨0, v153, rfl, by decide, i0⟩ ?_)
                intro v159 s161 h160
                have h160 : Iv s161 ∧ Kp s0 s161 ∧ vk s161 = ((vk s0).1, (vk s0).2) ∧ (v159 = v153 ∧ v159.toInt = v153.toInt) := h160
                have i162 := h160.1
                have k163 : Kp s0 s161 := Kx.tr Kx.rf (h160.2.1)
                have u164 : vk s161 = ((vk s0).1, (vk s0).2) := h160.2.2.1.trans rfl
                have q165 := h160.2.2.2
                show Iv s161 ∧ Kp s0 s161 ∧ vk s161 = ((vk s0).1, (vk s0).2) ∧ (True)
                exact ⟨i162, k163, u164, (trivial)⟩
              refine And.intro (fun c166 => ?_) ?_
              · have c166 : a1.toInt = (5) := c166
                exfalso
                omega
              refine And.intro (fun c167 => ?_) ?_
              · have c167 : a1.toInt = (6) := c167
                exfalso
                omega
              exact trivial
            · have c147 : ¬ (a2.toInt < v143.toInt) := c147
              refine And.intro (Nat.le_of_ble_eq_true rfl) (And.intro ⟨0, (Int32.ofInt 5), rfl, by decide, i0⟩ ?_)
              intro v168 s170 h169
              have h169 : Iv s170 ∧ Kp s0 s170 ∧ vk s170 = ((vk s0).1, (vk s0).2) ∧ (v168.toInt = -1) := h169
              have i171 := h169.1
              have k172 : Kp s0 s170 := Kx.tr Kx.rf (h169.2.1)
              have u173 : vk s170 = ((vk s0).1, (vk s0).2) := h169.2.2.1.trans rfl
              have q174 := h169.2.2.2
              show Iv s170 ∧ Kp s0 s170 ∧ vk s170 = ((vk s0).1, (vk s0).2) ∧ (True)
              exact ⟨i171, k172, u173, (trivial)⟩
          refine And.intro (fun c175 => ?_) ?_
          · have c175 : a1.toInt = (5) := c175
            intro v176 e177
            have g178 : s0.1 51 2 = v176 := by rw [e177]
            have b179 : (0 : Int) ≤ v176.toInt ∧ v176.toInt ≤ 48 := by rw [e177]; exact Iv_51_2 i0
            refine And.intro (fun c180 => ?_) (fun c180 => ?_)
            · have c180 : a2.toInt < v176.toInt := c180
              refine And.intro rfl (And.intro ⟨by omega, by omega⟩ ?_)
              refine And.intro (fun c181 => ?_) ?_
              · have c181 : a1.toInt = (0) := c181
                exfalso
                omega
              refine And.intro (fun c182 => ?_) ?_
              · have c182 : a1.toInt = (1) := c182
                exfalso
                omega
              refine And.intro (fun c183 => ?_) ?_
              · have c183 : a1.toInt = (2) := c183
                exfalso
                omega
              refine And.intro (fun c184 => ?_) ?_
              · have c184 : a1.toInt = (3) := c184
                exfalso
                omega
              refine And.intro (fun c185 => ?_) ?_
              · have c185 : a1.toInt = (4) := c185
                exfalso
                omega
              refine And.intro (fun c186 => ?_) ?_
              · have c186 : a1.toInt = (5) := c186
                refine And.intro (Nat.le_of_ble_eq_true rfl) (And.intro ⟨51, a2, rfl, by decide, i0⟩ ?_)
                intro v187 s189 h188
                have h188 : s189 = s0 ∧ (True) := h188
                have q192 := h188.1.symm
                subst q192
                refine And.intro (Nat.le_of_ble_eq_true rfl) (And.intro ⟨0, v187, rfl, by decide, i0⟩ ?_)
                intro v193 s195 h194
                have h194 : Iv s195 ∧ Kp s0 s195 ∧ vk s195 = ((vk s0).1, (vk s0).2) ∧ (v193 = v187 ∧ v193.toInt = v187.toInt) := h194
                have i196 := h194.1
                have k197 : Kp s0 s195 := Kx.tr Kx.rf (h194.2.1)
                have u198 : vk s195 = ((vk s0).1, (vk s0).2) := h194.2.2.1.trans rfl
                have q199 := h194.2.2.2
                show Iv s195 ∧ Kp s0 s195 ∧ vk s195 = ((vk s0).1, (vk s0).2) ∧ (True)
                exact ⟨i196, k197, u198, (trivial)⟩
              refine And.intro (fun c200 => ?_) ?_
              · have c200 : a1.toInt = (6) := c200
                exfalso
                omega
              exact trivial
            · have c180 : ¬ (a2.toInt < v176.toInt) := c180
              refine And.intro (Nat.le_of_ble_eq_true rfl) (And.intro ⟨0, (Int32.ofInt 5), rfl, by decide, i0⟩ ?_)
              intro v201 s203 h202
              have h202 : Iv s203 ∧ Kp s0 s203 ∧ vk s203 = ((vk s0).1, (vk s0).2) ∧ (v201.toInt = -1) := h202
              have i204 := h202.1
              have k205 : Kp s0 s203 := Kx.tr Kx.rf (h202.2.1)
              have u206 : vk s203 = ((vk s0).1, (vk s0).2) := h202.2.2.1.trans rfl
              have q207 := h202.2.2.2
              show Iv s203 ∧ Kp s0 s203 ∧ vk s203 = ((vk s0).1, (vk s0).2) ∧ (True)
              exact ⟨i204, k205, u206, (trivial)⟩
          refine And.intro (fun c208 => ?_) ?_
          · have c208 : a1.toInt = (6) := c208
            intro v209 e210
            have g211 : s0.1 53 2 = v209 := by rw [e210]
            have b212 : (0 : Int) ≤ v209.toInt ∧ v209.toInt ≤ 48 := by rw [e210]; exact Iv_53_2 i0
            refine And.intro (fun c213 => ?_) (fun c213 => ?_)
            · have c213 : a2.toInt < v209.toInt := c213
              refine And.intro rfl (And.intro ⟨by omega, by omega⟩ ?_)
              refine And.intro (fun c214 => ?_) ?_
              · have c214 : a1.toInt = (0) := c214
                exfalso
                omega
              refine And.intro (fun c215 => ?_) ?_
              · have c215 : a1.toInt = (1) := c215
                exfalso
                omega
              refine And.intro (fun c216 => ?_) ?_
              · have c216 : a1.toInt = (2) := c216
                exfalso
                omega
              refine And.intro (fun c217 => ?_) ?_
              · have c217 : a1.toInt = (3) := c217
                exfalso
                omega
              refine And.intro (fun c218 => ?_) ?_
              · have c218 : a1.toInt = (4) := c218
                exfalso
                omega
              refine And.intro (fun c219 => ?_) ?_
              · have c219 : a1.toInt = (5) := c219
                exfalso
                omega
              refine And.intro (fun c220 => ?_) ?_
              · have c220 : a1.toInt = (6) := c220
                refine And.intro (Nat.le_of_ble_eq_true rfl) (And.intro ⟨53, a2, rfl, by decide, i0⟩ ?_)
                intro v221 s223 h222
                have h222 : s223 = s0 ∧ (True) := h222
                have q226 := h222.1.symm
                subst q226
                refine And.intro (Nat.le_of_ble_eq_true rfl) (And.intro ⟨0, v221, rfl, by decide, i0⟩ ?_)
                intro v227 s229 h228
                have h228 : Iv s229 ∧ Kp s0 s229 ∧ vk s229 = ((vk s0).1, (vk s0).2) ∧ (v227 = v221 ∧ v227.toInt = v221.toInt) := h228
                have i230 := h228.1
                have k231 : Kp s0 s229 := Kx.tr Kx.rf (h228.2.1)
                have u232 : vk s229 = ((vk s0).1, (vk s0).2) := h228.2.2.1.trans rfl
                have q233 := h228.2.2.2
                show Iv s229 ∧ Kp s0 s229 ∧ vk s229 = ((vk s0).1, (vk s0).2) ∧ (True)
                exact ⟨i230, k231, u232, (trivial)⟩
              exact trivial
            · have c213 : ¬ (a2.toInt < v209.toInt) := c213
              refine And.intro (Nat.le_of_ble_eq_true rfl) (And.intro ⟨0, (Int32.ofInt 5), rfl, by decide, i0⟩ ?_)
              intro v234 s236 h235
              have h235 : Iv s236 ∧ Kp s0 s236 ∧ vk s236 = ((vk s0).1, (vk s0).2) ∧ (v234.toInt = -1) := h235
              have i237 := h235.1
              have k238 : Kp s0 s236 := Kx.tr Kx.rf (h235.2.1)
              have u239 : vk s236 = ((vk s0).1, (vk s0).2) := h235.2.2.1.trans rfl
              have q240 := h235.2.2.2
              show Iv s236 ∧ Kp s0 s236 ∧ vk s236 = ((vk s0).1, (vk s0).2) ∧ (True)
              exact ⟨i237, k238, u239, (trivial)⟩
          exact trivial
        · have c9 : ¬ (¬ v2.toInt = 0) := c9
          refine And.intro (Nat.le_of_ble_eq_true rfl) (And.intro ⟨0, (Int32.ofInt 2), rfl, by decide, i0⟩ ?_)
          intro v241 s243 h242
          have h242 : Iv s243 ∧ Kp s0 s243 ∧ vk s243 = ((vk s0).1, (vk s0).2) ∧ (v241.toInt = -1) := h242
          have i244 := h242.1
          have k245 : Kp s0 s243 := Kx.tr Kx.rf (h242.2.1)
          have u246 : vk s243 = ((vk s0).1, (vk s0).2) := h242.2.2.1.trans rfl
          have q247 := h242.2.2.2
          show Iv s243 ∧ Kp s0 s243 ∧ vk s243 = ((vk s0).1, (vk s0).2) ∧ (True)
          exact ⟨i244, k245, u246, (trivial)⟩
      · have c1 : ¬ (0 ≤ a2.toInt) := c1
        refine And.intro (Nat.le_of_ble_eq_true rfl) (And.intro ⟨0, (Int32.ofInt 1), rfl, by decide, i0⟩ ?_)
        intro v248 s250 h249
        have h249 : Iv s250 ∧ Kp s0 s250 ∧ vk s250 = ((vk s0).1, (vk s0).2) ∧ (v248.toInt = -1) := h249
        have i251 := h249.1
        have k252 : Kp s0 s250 := Kx.tr Kx.rf (h249.2.1)
        have u253 : vk s250 = ((vk s0).1, (vk s0).2) := h249.2.2.1.trans rfl
        have q254 := h249.2.2.2
        show Iv s250 ∧ Kp s0 s250 ∧ vk s250 = ((vk s0).1, (vk s0).2) ∧ (True)
        exact ⟨i251, k252, u253, (trivial)⟩
def o_X10_state : List vg_I := [(0, .iload_n 1, 1, 0, 0, 0, 0), (1, .iconst 0, 1, 0, 0, 0, 0), (2, .bipush 13, 2, 0, 0, 0, 0), (4, .invokestatic 82, 3, 0, 1, 3, 478), (7, .ifCond .ne 9, 3, 0, 0, 0, 0), (10, .aload_n 0, 1, 0, 0, 0, 0), (11, .iconst 1, 1, 0, 0, 0, 0), (12, .invokevirtual 90, 3, 1, 10, 1, 484), (15, .ireturn, 1, 0, 0, 0, 0), (16, .iload_n 1, 1, 0, 0, 0, 0), (17, .iconst 4, 1, 0, 0, 0, 0), (18, .if_icmp .ge 17, 3, 0, 0, 0, 0), (21, .aload_n 0, 1, 0, 0, 0, 0), (22, .aload_n 0, 1, 0, 0, 0, 0), (23, .getfield 19, 3, 431, 10, 4, 0), (26, .getfield 216, 3, 181, 5, 1, 0), (29, .iload_n 1, 1, 0, 0, 0, 0), (30, .iaload, 1, 0, 0, 0, 0), (31, .invokevirtual 113, 3, 2, 10, 1, 520), (34, .ireturn, 1, 0, 0, 0, 0), (35, .iload_n 1, 1, 0, 0, 0, 0), (36, .tableswitch 154 4 12 #[52, 64, 76, 88, 100, 112, 124, 136, 145], 52, 0, 0, 0, 0), (88, .aload_n 0, 1, 0, 0, 0, 0), (89, .aload_n 0, 1, 0, 0, 0, 0), (90, .getfield 19, 3, 431, 10, 4, 0), (93, .getfield 219, 3, 184, 5, 3, 0), (96, .invokevirtual 113, 3, 2, 10, 1, 520), (99, .ireturn, 1, 0, 0, 0, 0), (100, .aload_n 0, 1, 0, 0, 0, 0), (101, .aload_n 0, 1, 0, 0, 0, 0), (102, .getfield 19, 3, 431, 10, 4, 0), (105, .getfield 222, 3, 186, 5, 4, 0), (108, .invokevirtual 113, 3, 2, 10, 1, 520), (111, .ireturn, 1, 0, 0, 0, 0), (112, .aload_n 0, 1, 0, 0, 0, 0), (113, .aload_n 0, 1, 0, 0, 0, 0), (114, .getfield 26, 3, 432, 10, 5, 0), (117, .getfield 225, 3, 244, 2, 2, 0), (120, .invokevirtual 113, 3, 2, 10, 1, 520), (123, .ireturn, 1, 0, 0, 0, 0), (124, .aload_n 0, 1, 0, 0, 0, 0), (125, .aload_n 0, 1, 0, 0, 0, 0), (126, .getfield 19, 3, 431, 10, 4, 0), (129, .getfield 228, 3, 188, 5, 5, 0), (132, .invokevirtual 113, 3, 2, 10, 1, 520), (135, .ireturn, 1, 0, 0, 0, 0), (136, .aload_n 0, 1, 0, 0, 0, 0), (137, .aload_n 0, 1, 0, 0, 0, 0), (138, .getfield 19, 3, 431, 10, 4, 0), (141, .getfield 231, 3, 190, 5, 6, 0), (144, .invokevirtual 113, 3, 2, 10, 1, 520), (147, .ireturn, 1, 0, 0, 0, 0), (148, .aload_n 0, 1, 0, 0, 0, 0), (149, .aload_n 0, 1, 0, 0, 0, 0), (150, .getfield 26, 3, 432, 10, 5, 0), (153, .getfield 148, 3, 240, 2, 0, 0), (156, .invokevirtual 113, 3, 2, 10, 1, 520), (159, .ireturn, 1, 0, 0, 0, 0), (160, .aload_n 0, 1, 0, 0, 0, 0), (161, .aload_n 0, 1, 0, 0, 0, 0), (162, .getfield 26, 3, 432, 10, 5, 0), (165, .getfield 160, 3, 242, 2, 1, 0), (168, .invokevirtual 113, 3, 2, 10, 1, 520), (171, .ireturn, 1, 0, 0, 0, 0), (172, .aload_n 0, 1, 0, 0, 0, 0), (173, .aload_n 0, 1, 0, 0, 0, 0), (174, .getfield 110, 3, 428, 10, 1, 0), (177, .invokevirtual 113, 3, 2, 10, 1, 520), (180, .ireturn, 1, 0, 0, 0, 0), (181, .aload_n 0, 1, 0, 0, 0, 0), (182, .aload_n 0, 1, 0, 0, 0, 0), (183, .getfield 196, 3, 429, 10, 2, 0), (186, .invokevirtual 113, 3, 2, 10, 1, 520), (189, .ireturn, 1, 0, 0, 0, 0), (190, .aload_n 0, 1, 0, 0, 0, 0), (191, .aload_n 0, 1, 0, 0, 0, 0), (192, .getfield 59, 3, 437, 10, 10, 0), (195, .getfield 234, 3, 354, 0, 1, 0), (198, .invokevirtual 113, 3, 2, 10, 1, 520), (201, .ireturn, 1, 0, 0, 0, 0)]
set_option maxRecDepth 100000 in
set_option maxHeartbeats 4000000 in
theorem c_X10_state (l : Launch) (G : vg_G) (hp : vg_Hp G) : vg_Ct l G vg_sh r_X10_state := by
  refine vg_meth hp vg_sh_ok r_X10_state k_X10_state rfl (fun h => by cases h) o_X10_state [r_X10_within, r_X10_refuse, r_X10_answer] false (by decide +kernel) (by decide +kernel) ⟨_, _, rfl, rfl⟩ (List.forall_mem_cons.mpr ⟨⟨c_X10_within l G hp, Nat.le_of_ble_eq_true rfl, Nat.le_of_ble_eq_true rfl⟩, List.forall_mem_cons.mpr ⟨⟨c_X10_refuse l G hp, Nat.le_of_ble_eq_true rfl, Nat.le_of_ble_eq_true rfl⟩, List.forall_mem_cons.mpr ⟨⟨c_X10_answer l G hp, Nat.le_of_ble_eq_true rfl, Nat.le_of_ble_eq_true rfl⟩, fun _ h => absurd h List.not_mem_nil⟩⟩⟩) (fun h => by cases h) 600 ?_
  intro as s0 hpre
  obtain ⟨r, a1, rfl, hr, i0⟩ := hpre
  simp only [List.mem_cons, List.not_mem_nil, or_false] at hr
  rcases hr with rfl
  ·
    have z0 : (Int32.ofInt 0).toInt = 0 := by decide
    have z1 : (Int32.ofInt 1).toInt = 1 := by decide
    have z4 : (Int32.ofInt 4).toInt = 4 := by decide
    have z13 : (Int32.ofInt 13).toInt = 13 := by decide
    refine ⟨Nat.le_of_ble_eq_true rfl, [], ?_, fun _ h => absurd h List.not_mem_nil⟩
    ·
      refine And.intro (Nat.le_of_ble_eq_true rfl) (And.intro ⟨a1, (Int32.ofInt 0), (Int32.ofInt 13), rfl, trivial⟩ ?_)
      intro v1 s3 h2
      have h2 : s3 = s0 ∧ ((v1.toInt = 1 ∧ (Int32.ofInt 0).toInt ≤ a1.toInt ∧ a1.toInt ≤ (Int32.ofInt 13).toInt) ∨ (v1.toInt = 0 ∧ (a1.toInt < (Int32.ofInt 0).toInt ∨ (Int32.ofInt 13).toInt < a1.toInt))) := h2
      have q6 := h2.1.symm
      subst q6
      have q7 := h2.2
      refine And.intro (fun c8 => ?_) (fun c8 => ?_)
      · have c8 : ¬ v1.toInt = 0 := c8
        refine And.intro (fun c9 => ?_) (fun c9 => ?_)
        · have c9 : (Int32.ofInt 4).toInt ≤ a1.toInt := c9
          refine And.intro (fun c10 => ?_) ?_
          · have c10 : a1.toInt < (4) ∨ (12) < a1.toInt := c10
            intro v11 e12
            have g13 : s0.1 20 1 = v11 := by rw [e12]
            have b14 : (0 : Int) ≤ v11.toInt ∧ v11.toInt ≤ 12 := by rw [e12]; exact Iv_20_1 i0
            refine And.intro (Nat.le_of_ble_eq_true rfl) (And.intro ⟨0, v11, rfl, by decide, i0⟩ ?_)
            intro v15 s17 h16
            have h16 : Iv s17 ∧ Kp s0 s17 ∧ vk s17 = ((vk s0).1, (vk s0).2) ∧ (v15 = v11 ∧ v15.toInt = v11.toInt) := h16
            have i18 := h16.1
            have k19 : Kp s0 s17 := Kx.tr Kx.rf (h16.2.1)
            have u20 : vk s17 = ((vk s0).1, (vk s0).2) := h16.2.2.1.trans rfl
            have q21 := h16.2.2.2
            show Iv s17 ∧ Kp s0 s17 ∧ vk s17 = ((vk s0).1, (vk s0).2) ∧ (True)
            exact ⟨i18, k19, u20, (trivial)⟩
          refine And.intro (fun c22 => ?_) ?_
          · have c22 : a1.toInt = (4) := c22
            intro v23 e24
            have g25 : s0.1 3 3 = v23 := by rw [e24]
            refine And.intro (Nat.le_of_ble_eq_true rfl) (And.intro ⟨0, v23, rfl, by decide, i0⟩ ?_)
            intro v26 s28 h27
            have h27 : Iv s28 ∧ Kp s0 s28 ∧ vk s28 = ((vk s0).1, (vk s0).2) ∧ (v26 = v23 ∧ v26.toInt = v23.toInt) := h27
            have i29 := h27.1
            have k30 : Kp s0 s28 := Kx.tr Kx.rf (h27.2.1)
            have u31 : vk s28 = ((vk s0).1, (vk s0).2) := h27.2.2.1.trans rfl
            have q32 := h27.2.2.2
            show Iv s28 ∧ Kp s0 s28 ∧ vk s28 = ((vk s0).1, (vk s0).2) ∧ (True)
            exact ⟨i29, k30, u31, (trivial)⟩
          refine And.intro (fun c33 => ?_) ?_
          · have c33 : a1.toInt = (5) := c33
            intro v34 e35
            have g36 : s0.1 3 4 = v34 := by rw [e35]
            refine And.intro (Nat.le_of_ble_eq_true rfl) (And.intro ⟨0, v34, rfl, by decide, i0⟩ ?_)
            intro v37 s39 h38
            have h38 : Iv s39 ∧ Kp s0 s39 ∧ vk s39 = ((vk s0).1, (vk s0).2) ∧ (v37 = v34 ∧ v37.toInt = v34.toInt) := h38
            have i40 := h38.1
            have k41 : Kp s0 s39 := Kx.tr Kx.rf (h38.2.1)
            have u42 : vk s39 = ((vk s0).1, (vk s0).2) := h38.2.2.1.trans rfl
            have q43 := h38.2.2.2
            show Iv s39 ∧ Kp s0 s39 ∧ vk s39 = ((vk s0).1, (vk s0).2) ∧ (True)
            exact ⟨i40, k41, u42, (trivial)⟩
          refine And.intro (fun c44 => ?_) ?_
          · have c44 : a1.toInt = (6) := c44
            intro v45 e46
            have g47 : s0.1 7 2 = v45 := by rw [e46]
            refine And.intro (Nat.le_of_ble_eq_true rfl) (And.intro ⟨0, v45, rfl, by decide, i0⟩ ?_)
            intro v48 s50 h49
            have h49 : Iv s50 ∧ Kp s0 s50 ∧ vk s50 = ((vk s0).1, (vk s0).2) ∧ (v48 = v45 ∧ v48.toInt = v45.toInt) := h49
            have i51 := h49.1
            have k52 : Kp s0 s50 := Kx.tr Kx.rf (h49.2.1)
            have u53 : vk s50 = ((vk s0).1, (vk s0).2) := h49.2.2.1.trans rfl
            have q54 := h49.2.2.2
            show Iv s50 ∧ Kp s0 s50 ∧ vk s50 = ((vk s0).1, (vk s0).2) ∧ (True)
            exact ⟨i51, k52, u53, (trivial)⟩
          refine And.intro (fun c55 => ?_) ?_
          · have c55 : a1.toInt = (7) := c55
            intro v56 e57
            have g58 : s0.1 3 5 = v56 := by rw [e57]
            refine And.intro (Nat.le_of_ble_eq_true rfl) (And.intro ⟨0, v56, rfl, by decide, i0⟩ ?_)
            intro v59 s61 h60
            have h60 : Iv s61 ∧ Kp s0 s61 ∧ vk s61 = ((vk s0).1, (vk s0).2) ∧ (v59 = v56 ∧ v59.toInt = v56.toInt) := h60
            have i62 := h60.1
            have k63 : Kp s0 s61 := Kx.tr Kx.rf (h60.2.1)
            have u64 : vk s61 = ((vk s0).1, (vk s0).2) := h60.2.2.1.trans rfl
            have q65 := h60.2.2.2
            show Iv s61 ∧ Kp s0 s61 ∧ vk s61 = ((vk s0).1, (vk s0).2) ∧ (True)
            exact ⟨i62, k63, u64, (trivial)⟩
          refine And.intro (fun c66 => ?_) ?_
          · have c66 : a1.toInt = (8) := c66
            intro v67 e68
            have g69 : s0.1 3 6 = v67 := by rw [e68]
            refine And.intro (Nat.le_of_ble_eq_true rfl) (And.intro ⟨0, v67, rfl, by decide, i0⟩ ?_)
            intro v70 s72 h71
            have h71 : Iv s72 ∧ Kp s0 s72 ∧ vk s72 = ((vk s0).1, (vk s0).2) ∧ (v70 = v67 ∧ v70.toInt = v67.toInt) := h71
            have i73 := h71.1
            have k74 : Kp s0 s72 := Kx.tr Kx.rf (h71.2.1)
            have u75 : vk s72 = ((vk s0).1, (vk s0).2) := h71.2.2.1.trans rfl
            have q76 := h71.2.2.2
            show Iv s72 ∧ Kp s0 s72 ∧ vk s72 = ((vk s0).1, (vk s0).2) ∧ (True)
            exact ⟨i73, k74, u75, (trivial)⟩
          refine And.intro (fun c77 => ?_) ?_
          · have c77 : a1.toInt = (9) := c77
            intro v78 e79
            have g80 : s0.1 7 0 = v78 := by rw [e79]
            have b81 : (1 : Int) ≤ v78.toInt ∧ v78.toInt ≤ 16 := by rw [e79]; exact Iv_7_0 i0
            refine And.intro (Nat.le_of_ble_eq_true rfl) (And.intro ⟨0, v78, rfl, by decide, i0⟩ ?_)
            intro v82 s84 h83
            have h83 : Iv s84 ∧ Kp s0 s84 ∧ vk s84 = ((vk s0).1, (vk s0).2) ∧ (v82 = v78 ∧ v82.toInt = v78.toInt) := h83
            have i85 := h83.1
            have k86 : Kp s0 s84 := Kx.tr Kx.rf (h83.2.1)
            have u87 : vk s84 = ((vk s0).1, (vk s0).2) := h83.2.2.1.trans rfl
            have q88 := h83.2.2.2
            show Iv s84 ∧ Kp s0 s84 ∧ vk s84 = ((vk s0).1, (vk s0).2) ∧ (True)
            exact ⟨i85, k86, u87, (trivial)⟩
          refine And.intro (fun c89 => ?_) ?_
          · have c89 : a1.toInt = (10) := c89
            intro v90 e91
            have g92 : s0.1 7 1 = v90 := by rw [e91]
            refine And.intro (Nat.le_of_ble_eq_true rfl) (And.intro ⟨0, v90, rfl, by decide, i0⟩ ?_)
            intro v93 s95 h94
            have h94 : Iv s95 ∧ Kp s0 s95 ∧ vk s95 = ((vk s0).1, (vk s0).2) ∧ (v93 = v90 ∧ v93.toInt = v90.toInt) := h94
            have i96 := h94.1
            have k97 : Kp s0 s95 := Kx.tr Kx.rf (h94.2.1)
            have u98 : vk s95 = ((vk s0).1, (vk s0).2) := h94.2.2.1.trans rfl
            have q99 := h94.2.2.2
            show Iv s95 ∧ Kp s0 s95 ∧ vk s95 = ((vk s0).1, (vk s0).2) ∧ (True)
            exact ⟨i96, k97, u98, (trivial)⟩
          refine And.intro (fun c100 => ?_) ?_
          · have c100 : a1.toInt = (11) := c100
            intro v101 e102
            have g103 : s0.1 0 1 = v101 := by rw [e102]
            refine And.intro (Nat.le_of_ble_eq_true rfl) (And.intro ⟨0, v101, rfl, by decide, i0⟩ ?_)
            intro v104 s106 h105
            have h105 : Iv s106 ∧ Kp s0 s106 ∧ vk s106 = ((vk s0).1, (vk s0).2) ∧ (v104 = v101 ∧ v104.toInt = v101.toInt) := h105
            have i107 := h105.1
            have k108 : Kp s0 s106 := Kx.tr Kx.rf (h105.2.1)
            have u109 : vk s106 = ((vk s0).1, (vk s0).2) := h105.2.2.1.trans rfl
            have q110 := h105.2.2.2
            show Iv s106 ∧ Kp s0 s106 ∧ vk s106 = ((vk s0).1, (vk s0).2) ∧ (True)
            exact ⟨i107, k108, u109, (trivial)⟩
          refine And.intro (fun c111 => ?_) ?_
          · have c111 : a1.toInt = (12) := c111
            intro v112 e113
            have g114 : s0.1 0 2 = v112 := by rw [e113]
            have b115 : (0 : Int) ≤ v112.toInt ∧ v112.toInt ≤ 3 := by rw [e113]; exact Iv_0_2 i0
            refine And.intro (Nat.le_of_ble_eq_true rfl) (And.intro ⟨0, v112, rfl, by decide, i0⟩ ?_)
            intro v116 s118 h117
            have h117 : Iv s118 ∧ Kp s0 s118 ∧ vk s118 = ((vk s0).1, (vk s0).2) ∧ (v116 = v112 ∧ v116.toInt = v112.toInt) := h117
            have i119 := h117.1
            have k120 : Kp s0 s118 := Kx.tr Kx.rf (h117.2.1)
            have u121 : vk s118 = ((vk s0).1, (vk s0).2) := h117.2.2.1.trans rfl
            have q122 := h117.2.2.2
            show Iv s118 ∧ Kp s0 s118 ∧ vk s118 = ((vk s0).1, (vk s0).2) ∧ (True)
            exact ⟨i119, k120, u121, (trivial)⟩
          exact trivial
        · have c9 : ¬ ((Int32.ofInt 4).toInt ≤ a1.toInt) := c9
          refine And.intro ⟨by omega, by omega⟩ ?_
          intro v123 e124
          refine And.intro (Nat.le_of_ble_eq_true rfl) (And.intro ⟨0, v123, rfl, by decide, i0⟩ ?_)
          intro v125 s127 h126
          have h126 : Iv s127 ∧ Kp s0 s127 ∧ vk s127 = ((vk s0).1, (vk s0).2) ∧ (v125 = v123 ∧ v125.toInt = v123.toInt) := h126
          have i128 := h126.1
          have k129 : Kp s0 s127 := Kx.tr Kx.rf (h126.2.1)
          have u130 : vk s127 = ((vk s0).1, (vk s0).2) := h126.2.2.1.trans rfl
          have q131 := h126.2.2.2
          show Iv s127 ∧ Kp s0 s127 ∧ vk s127 = ((vk s0).1, (vk s0).2) ∧ (True)
          exact ⟨i128, k129, u130, (trivial)⟩
      · have c8 : ¬ (¬ v1.toInt = 0) := c8
        refine And.intro (Nat.le_of_ble_eq_true rfl) (And.intro ⟨0, (Int32.ofInt 1), rfl, by decide, i0⟩ ?_)
        intro v132 s134 h133
        have h133 : Iv s134 ∧ Kp s0 s134 ∧ vk s134 = ((vk s0).1, (vk s0).2) ∧ (v132.toInt = -1) := h133
        have i135 := h133.1
        have k136 : Kp s0 s134 := Kx.tr Kx.rf (h133.2.1)
        have u137 : vk s134 = ((vk s0).1, (vk s0).2) := h133.2.2.1.trans rfl
        have q138 := h133.2.2.2
        show Iv s134 ∧ Kp s0 s134 ∧ vk s134 = ((vk s0).1, (vk s0).2) ∧ (True)
        exact ⟨i135, k136, u137, (trivial)⟩
def o_X10_sum : List vg_I := [(0, .iload_n 1, 1, 0, 0, 0, 0), (1, .tableswitch 111 0 5 #[39, 51, 63, 75, 87, 99], 39, 0, 0, 0, 0), (40, .aload_n 0, 1, 0, 0, 0, 0), (41, .aload_n 0, 1, 0, 0, 0, 0), (42, .getfield 19, 3, 431, 10, 4, 0), (45, .getfield 235, 3, 195, 5, 9, 0), (48, .invokevirtual 239, 3, 0, 10, 1, 800), (51, .lreturn, 1, 0, 0, 0, 0), (52, .aload_n 0, 1, 0, 0, 0, 0), (53, .aload_n 0, 1, 0, 0, 0, 0), (54, .getfield 19, 3, 431, 10, 4, 0), (57, .getfield 243, 3, 197, 5, 10, 0), (60, .invokevirtual 239, 3, 0, 10, 1, 800), (63, .lreturn, 1, 0, 0, 0, 0), (64, .aload_n 0, 1, 0, 0, 0, 0), (65, .aload_n 0, 1, 0, 0, 0, 0), (66, .getfield 19, 3, 431, 10, 4, 0), (69, .getfield 246, 3, 199, 5, 11, 0), (72, .invokevirtual 239, 3, 0, 10, 1, 800), (75, .lreturn, 1, 0, 0, 0, 0), (76, .aload_n 0, 1, 0, 0, 0, 0), (77, .aload_n 0, 1, 0, 0, 0, 0), (78, .getfield 19, 3, 431, 10, 4, 0), (81, .getfield 249, 3, 201, 5, 12, 0), (84, .invokevirtual 239, 3, 0, 10, 1, 800), (87, .lreturn, 1, 0, 0, 0, 0), (88, .aload_n 0, 1, 0, 0, 0, 0), (89, .aload_n 0, 1, 0, 0, 0, 0), (90, .getfield 26, 3, 432, 10, 5, 0), (93, .getfield 252, 3, 256, 2, 8, 0), (96, .invokevirtual 239, 3, 0, 10, 1, 800), (99, .lreturn, 1, 0, 0, 0, 0), (100, .aload_n 0, 1, 0, 0, 0, 0), (101, .aload_n 0, 1, 0, 0, 0, 0), (102, .getfield 26, 3, 432, 10, 5, 0), (105, .getfield 255, 3, 260, 2, 10, 0), (108, .invokevirtual 239, 3, 0, 10, 1, 800), (111, .lreturn, 1, 0, 0, 0, 0), (112, .aload_n 0, 1, 0, 0, 0, 0), (113, .iconst 1, 1, 0, 0, 0, 0), (114, .invokevirtual 90, 3, 1, 10, 1, 484), (117, .i2l, 1, 0, 0, 0, 0), (118, .lreturn, 1, 0, 0, 0, 0)]
set_option maxRecDepth 100000 in
set_option maxHeartbeats 4000000 in
theorem c_X10_sum (l : Launch) (G : vg_G) (hp : vg_Hp G) : vg_Ct l G vg_sh r_X10_sum := by
  refine vg_meth hp vg_sh_ok r_X10_sum k_X10_sum rfl (fun h => by cases h) o_X10_sum [r_X10_answerLong, r_X10_refuse] false (by decide +kernel) (by decide +kernel) ⟨_, _, rfl, rfl⟩ (List.forall_mem_cons.mpr ⟨⟨c_X10_answerLong l G hp, Nat.le_of_ble_eq_true rfl, Nat.le_of_ble_eq_true rfl⟩, List.forall_mem_cons.mpr ⟨⟨c_X10_refuse l G hp, Nat.le_of_ble_eq_true rfl, Nat.le_of_ble_eq_true rfl⟩, fun _ h => absurd h List.not_mem_nil⟩⟩) (fun h => by cases h) 600 ?_
  intro as s0 hpre
  obtain ⟨r, a1, rfl, hr, i0⟩ := hpre
  simp only [List.mem_cons, List.not_mem_nil, or_false] at hr
  rcases hr with rfl
  ·
    have z1 : (Int32.ofInt 1).toInt = 1 := by decide
    refine ⟨Nat.le_of_ble_eq_true rfl, [], ?_, fun _ h => absurd h List.not_mem_nil⟩
    ·
      refine And.intro (fun c1 => ?_) ?_
      · have c1 : a1.toInt < (0) ∨ (5) < a1.toInt := c1
        refine And.intro (Nat.le_of_ble_eq_true rfl) (And.intro ⟨0, (Int32.ofInt 1), rfl, by decide, i0⟩ ?_)
        intro v2 s4 h3
        have h3 : Iv s4 ∧ Kp s0 s4 ∧ vk s4 = ((vk s0).1, (vk s0).2) ∧ (v2.toInt = -1) := h3
        have i5 := h3.1
        have k6 : Kp s0 s4 := Kx.tr Kx.rf (h3.2.1)
        have u7 : vk s4 = ((vk s0).1, (vk s0).2) := h3.2.2.1.trans rfl
        have q8 := h3.2.2.2
        intro v9 e10
        show Iv s4 ∧ Kp s0 s4 ∧ vk s4 = ((vk s0).1, (vk s0).2) ∧ (True)
        exact ⟨i5, k6, u7, (trivial)⟩
      refine And.intro (fun c11 => ?_) ?_
      · have c11 : a1.toInt = (0) := c11
        intro v12 e13
        refine And.intro (Nat.le_of_ble_eq_true rfl) (And.intro ⟨0, v12, rfl, by decide, i0⟩ ?_)
        intro v14 s16 h15
        have h15 : Iv s16 ∧ Kp s0 s16 ∧ vk s16 = ((vk s0).1, (vk s0).2) ∧ (v14 = v12) := h15
        have i17 := h15.1
        have k18 : Kp s0 s16 := Kx.tr Kx.rf (h15.2.1)
        have u19 : vk s16 = ((vk s0).1, (vk s0).2) := h15.2.2.1.trans rfl
        have q20 := h15.2.2.2
        show Iv s16 ∧ Kp s0 s16 ∧ vk s16 = ((vk s0).1, (vk s0).2) ∧ (True)
        exact ⟨i17, k18, u19, (trivial)⟩
      refine And.intro (fun c21 => ?_) ?_
      · have c21 : a1.toInt = (1) := c21
        intro v22 e23
        refine And.intro (Nat.le_of_ble_eq_true rfl) (And.intro ⟨0, v22, rfl, by decide, i0⟩ ?_)
        intro v24 s26 h25
        have h25 : Iv s26 ∧ Kp s0 s26 ∧ vk s26 = ((vk s0).1, (vk s0).2) ∧ (v24 = v22) := h25
        have i27 := h25.1
        have k28 : Kp s0 s26 := Kx.tr Kx.rf (h25.2.1)
        have u29 : vk s26 = ((vk s0).1, (vk s0).2) := h25.2.2.1.trans rfl
        have q30 := h25.2.2.2
        show Iv s26 ∧ Kp s0 s26 ∧ vk s26 = ((vk s0).1, (vk s0).2) ∧ (True)
        exact ⟨i27, k28, u29, (trivial)⟩
      refine And.intro (fun c31 => ?_) ?_
      · have c31 : a1.toInt = (2) := c31
        intro v32 e33
        refine And.intro (Nat.le_of_ble_eq_true rfl) (And.intro ⟨0, v32, rfl, by decide, i0⟩ ?_)
        intro v34 s36 h35
        have h35 : Iv s36 ∧ Kp s0 s36 ∧ vk s36 = ((vk s0).1, (vk s0).2) ∧ (v34 = v32) := h35
        have i37 := h35.1
        have k38 : Kp s0 s36 := Kx.tr Kx.rf (h35.2.1)
        have u39 : vk s36 = ((vk s0).1, (vk s0).2) := h35.2.2.1.trans rfl
        have q40 := h35.2.2.2
        show Iv s36 ∧ Kp s0 s36 ∧ vk s36 = ((vk s0).1, (vk s0).2) ∧ (True)
        exact ⟨i37, k38, u39, (trivial)⟩
      refine And.intro (fun c41 => ?_) ?_
      · have c41 : a1.toInt = (3) := c41
        intro v42 e43
        refine And.intro (Nat.le_of_ble_eq_true rfl) (And.intro ⟨0, v42, rfl, by decide, i0⟩ ?_)
        intro v44 s46 h45
        have h45 : Iv s46 ∧ Kp s0 s46 ∧ vk s46 = ((vk s0).1, (vk s0).2) ∧ (v44 = v42) := h45
        have i47 := h45.1
        have k48 : Kp s0 s46 := Kx.tr Kx.rf (h45.2.1)
        have u49 : vk s46 = ((vk s0).1, (vk s0).2) := h45.2.2.1.trans rfl
        have q50 := h45.2.2.2
        show Iv s46 ∧ Kp s0 s46 ∧ vk s46 = ((vk s0).1, (vk s0).2) ∧ (True)
        exact ⟨i47, k48, u49, (trivial)⟩
      refine And.intro (fun c51 => ?_) ?_
      · have c51 : a1.toInt = (4) := c51
        intro v52 e53
        refine And.intro (Nat.le_of_ble_eq_true rfl) (And.intro ⟨0, v52, rfl, by decide, i0⟩ ?_)
        intro v54 s56 h55
        have h55 : Iv s56 ∧ Kp s0 s56 ∧ vk s56 = ((vk s0).1, (vk s0).2) ∧ (v54 = v52) := h55
        have i57 := h55.1
        have k58 : Kp s0 s56 := Kx.tr Kx.rf (h55.2.1)
        have u59 : vk s56 = ((vk s0).1, (vk s0).2) := h55.2.2.1.trans rfl
        have q60 := h55.2.2.2
        show Iv s56 ∧ Kp s0 s56 ∧ vk s56 = ((vk s0).1, (vk s0).2) ∧ (True)
        exact ⟨i57, k58, u59, (trivial)⟩
      refine And.intro (fun c61 => ?_) ?_
      · have c61 : a1.toInt = (5) := c61
        intro v62 e63
        refine And.intro (Nat.le_of_ble_eq_true rfl) (And.intro ⟨0, v62, rfl, by decide, i0⟩ ?_)
        intro v64 s66 h65
        have h65 : Iv s66 ∧ Kp s0 s66 ∧ vk s66 = ((vk s0).1, (vk s0).2) ∧ (v64 = v62) := h65
        have i67 := h65.1
        have k68 : Kp s0 s66 := Kx.tr Kx.rf (h65.2.1)
        have u69 : vk s66 = ((vk s0).1, (vk s0).2) := h65.2.2.1.trans rfl
        have q70 := h65.2.2.2
        show Iv s66 ∧ Kp s0 s66 ∧ vk s66 = ((vk s0).1, (vk s0).2) ∧ (True)
        exact ⟨i67, k68, u69, (trivial)⟩
      exact trivial
def o_X10_keptByLoop : List vg_I := [(0, .aload_n 0, 1, 0, 0, 0, 0), (1, .getfield 52, 3, 436, 10, 9, 0), (4, .iconst 0, 1, 0, 0, 0, 0), (5, .aaload, 1, 0, 0, 0, 0), (6, .getfield 210, 3, 415, 4, 2, 0), (9, .aload_n 0, 1, 0, 0, 0, 0), (10, .getfield 52, 3, 436, 10, 9, 0), (13, .iconst 1, 1, 0, 0, 0, 0), (14, .aaload, 1, 0, 0, 0, 0), (15, .getfield 210, 3, 415, 4, 2, 0), (18, .invokestatic 434, 3, 0, 1, 2, 813), (21, .ireturn, 1, 0, 0, 0, 0)]
set_option maxRecDepth 100000 in
set_option maxHeartbeats 4000000 in
theorem c_X10_keptByLoop (l : Launch) (G : vg_G) (hp : vg_Hp G) : vg_Ct l G vg_sh r_X10_keptByLoop := by
  refine vg_meth hp vg_sh_ok r_X10_keptByLoop k_X10_keptByLoop rfl (fun h => by cases h) o_X10_keptByLoop [r_J9_min_7cf53] false (by decide +kernel) (by decide +kernel) ⟨_, _, rfl, rfl⟩ (List.forall_mem_cons.mpr ⟨⟨c_J9_min_7cf53 l G hp, Nat.le_of_ble_eq_true rfl, Nat.le_of_ble_eq_true rfl⟩, fun _ h => absurd h List.not_mem_nil⟩) (fun h => by cases h) 600 ?_
  intro as s0 hpre
  obtain ⟨r, rfl, hr, i0⟩ := hpre
  simp only [List.mem_cons, List.not_mem_nil, or_false] at hr
  rcases hr with rfl
  ·
    have z0 : (Int32.ofInt 0).toInt = 0 := by decide
    have z1 : (Int32.ofInt 1).toInt = 1 := by decide
    refine ⟨Nat.le_of_ble_eq_true rfl, [], ?_, fun _ h => absurd h List.not_mem_nil⟩
    ·
      refine And.intro rfl (And.intro ⟨by omega, by omega⟩ ?_)
      refine And.intro (fun c1 => ?_) ?_
      · have c1 : (Int32.ofInt 0).toInt = (0) := c1
        intro v2 e3
        have g4 : s0.1 41 2 = v2 := by rw [e3]
        have b5 : (0 : Int) ≤ v2.toInt ∧ v2.toInt ≤ 48 := by rw [e3]; exact Iv_41_2 i0
        refine And.intro rfl (And.intro ⟨by omega, by omega⟩ ?_)
        refine And.intro (fun c6 => ?_) ?_
        · have c6 : (Int32.ofInt 1).toInt = (0) := c6
          exfalso
          omega
        refine And.intro (fun c7 => ?_) ?_
        · have c7 : (Int32.ofInt 1).toInt = (1) := c7
          intro v8 e9
          have g10 : s0.1 43 2 = v8 := by rw [e9]
          have b11 : (0 : Int) ≤ v8.toInt ∧ v8.toInt ≤ 48 := by rw [e9]; exact Iv_43_2 i0
          refine And.intro (Nat.le_of_ble_eq_true rfl) (And.intro ⟨v2, v8, rfl, trivial⟩ ?_)
          intro v12 s14 h13
          have h13 : s14 = s0 ∧ (v12.toInt ≤ v2.toInt ∧ v12.toInt ≤ v8.toInt ∧ (v12.toInt = v2.toInt ∨ v12.toInt = v8.toInt)) := h13
          have q17 := h13.1.symm
          subst q17
          have q18 := h13.2
          show s0 = s0 ∧ (0 ≤ v12.toInt ∧ v12.toInt ≤ 48)
          exact ⟨rfl, (by first | trivial | omega | assumption)⟩
        refine And.intro (fun c19 => ?_) ?_
        · have c19 : (Int32.ofInt 1).toInt = (2) := c19
          exfalso
          omega
        refine And.intro (fun c20 => ?_) ?_
        · have c20 : (Int32.ofInt 1).toInt = (3) := c20
          exfalso
          omega
        refine And.intro (fun c21 => ?_) ?_
        · have c21 : (Int32.ofInt 1).toInt = (4) := c21
          exfalso
          omega
        refine And.intro (fun c22 => ?_) ?_
        · have c22 : (Int32.ofInt 1).toInt = (5) := c22
          exfalso
          omega
        refine And.intro (fun c23 => ?_) ?_
        · have c23 : (Int32.ofInt 1).toInt = (6) := c23
          exfalso
          omega
        exact trivial
      refine And.intro (fun c24 => ?_) ?_
      · have c24 : (Int32.ofInt 0).toInt = (1) := c24
        exfalso
        omega
      refine And.intro (fun c25 => ?_) ?_
      · have c25 : (Int32.ofInt 0).toInt = (2) := c25
        exfalso
        omega
      refine And.intro (fun c26 => ?_) ?_
      · have c26 : (Int32.ofInt 0).toInt = (3) := c26
        exfalso
        omega
      refine And.intro (fun c27 => ?_) ?_
      · have c27 : (Int32.ofInt 0).toInt = (4) := c27
        exfalso
        omega
      refine And.intro (fun c28 => ?_) ?_
      · have c28 : (Int32.ofInt 0).toInt = (5) := c28
        exfalso
        omega
      refine And.intro (fun c29 => ?_) ?_
      · have c29 : (Int32.ofInt 0).toInt = (6) := c29
        exfalso
        omega
      exact trivial
def o_X10_greatestGapOf : List vg_I := [(0, .lconst 0, 1, 0, 0, 0, 0), (1, .lstore_n 2, 1, 0, 0, 0, 0), (2, .iconst 0, 1, 0, 0, 0, 0), (3, .istore 4, 2, 0, 0, 0, 0), (5, .iload 4, 2, 0, 0, 0, 0), (7, .iload_n 1, 1, 0, 0, 0, 0), (8, .iadd, 1, 0, 0, 0, 0), (9, .aload_n 0, 1, 0, 0, 0, 0), (10, .invokevirtual 265, 3, 0, 10, 0, 809), (13, .if_icmp .gt 80, 3, 0, 0, 0, 0), (16, .lconst 0, 1, 0, 0, 0, 0), (17, .lstore 5, 2, 0, 0, 0, 0), (19, .iload 4, 2, 0, 0, 0, 0), (21, .istore 7, 2, 0, 0, 0, 0), (23, .iload 7, 2, 0, 0, 0, 0), (25, .iload 4, 2, 0, 0, 0, 0), (27, .iload_n 1, 1, 0, 0, 0, 0), (28, .iadd, 1, 0, 0, 0, 0), (29, .if_icmp .ge 48, 3, 0, 0, 0, 0), (32, .lload 5, 2, 0, 0, 0, 0), (34, .aload_n 0, 1, 0, 0, 0, 0), (35, .getfield 19, 3, 431, 10, 4, 0), (38, .getfield 127, 3, 179, 5, 0, 0), (41, .aload_n 0, 1, 0, 0, 0, 0), (42, .getfield 52, 3, 436, 10, 9, 0), (45, .iconst 1, 1, 0, 0, 0, 0), (46, .aaload, 1, 0, 0, 0, 0), (47, .iload 7, 2, 0, 0, 0, 0), (49, .invokevirtual 213, 3, 1, 4, 1, 788), (52, .invokevirtual 437, 3, 2, 6, 1, 818), (55, .aload_n 0, 1, 0, 0, 0, 0), (56, .getfield 52, 3, 436, 10, 9, 0), (59, .iconst 0, 1, 0, 0, 0, 0), (60, .aaload, 1, 0, 0, 0, 0), (61, .iload 7, 2, 0, 0, 0, 0), (63, .invokevirtual 213, 3, 1, 4, 1, 788), (66, .isub, 1, 0, 0, 0, 0), (67, .i2l, 1, 0, 0, 0, 0), (68, .ladd, 1, 0, 0, 0, 0), (69, .lstore 5, 2, 0, 0, 0, 0), (71, .iinc 7 1, 3, 0, 0, 0, 0), (74, .goto (-51), 3, 0, 0, 0, 0), (77, .lload_n 2, 1, 0, 0, 0, 0), (78, .lload 5, 2, 0, 0, 0, 0), (80, .invokestatic 440, 3, 3, 1, 1, 819), (83, .invokestatic 443, 3, 4, 1, 2, 820), (86, .lstore_n 2, 1, 0, 0, 0, 0), (87, .iinc 4 1, 3, 0, 0, 0, 0), (90, .goto (-85), 3, 0, 0, 0, 0), (93, .lload_n 2, 1, 0, 0, 0, 0), (94, .lreturn, 1, 0, 0, 0, 0)]
set_option maxRecDepth 100000 in
set_option maxHeartbeats 4000000 in
theorem c_X10_greatestGapOf (l : Launch) (G : vg_G) (hp : vg_Hp G) : vg_Ct l G vg_sh r_X10_greatestGapOf := by
  refine vg_meth hp vg_sh_ok r_X10_greatestGapOf k_X10_greatestGapOf rfl (fun h => by cases h) o_X10_greatestGapOf [r_X10_keptByLoop, r_X4_get, r_X6_valueOf, r_J9_abs_067f4, r_J9_max_f86c9] false (by decide +kernel) (by decide +kernel) ⟨_, _, rfl, rfl⟩ (List.forall_mem_cons.mpr ⟨⟨c_X10_keptByLoop l G hp, Nat.le_of_ble_eq_true rfl, Nat.le_of_ble_eq_true rfl⟩, List.forall_mem_cons.mpr ⟨⟨c_X4_get l G hp, Nat.le_of_ble_eq_true rfl, Nat.le_of_ble_eq_true rfl⟩, List.forall_mem_cons.mpr ⟨⟨c_X6_valueOf l G hp, Nat.le_of_ble_eq_true rfl, Nat.le_of_ble_eq_true rfl⟩, List.forall_mem_cons.mpr ⟨⟨c_J9_abs_067f4 l G hp, Nat.le_of_ble_eq_true rfl, Nat.le_of_ble_eq_true rfl⟩, List.forall_mem_cons.mpr ⟨⟨c_J9_max_f86c9 l G hp, Nat.le_of_ble_eq_true rfl, Nat.le_of_ble_eq_true rfl⟩, fun _ h => absurd h List.not_mem_nil⟩⟩⟩⟩⟩) (fun h => by cases h) 600 ?_
  intro as s0 hpre
  obtain ⟨r, a1, rfl, hr, i0, p0⟩ := hpre
  simp only [List.mem_cons, List.not_mem_nil, or_false] at hr
  rcases hr with rfl
  ·
    have z0 : (Int32.ofInt 0).toInt = 0 := by decide
    have z1 : (Int32.ofInt 1).toInt = 1 := by decide
    refine ⟨Nat.le_of_ble_eq_true rfl, [(5, [true, true, true, false, true, false, false, false], (fun L t => ∃ (x2 : Int64) (x4 : Int32), L = [some (.ref 0), some (.int a1), some (.long x2), none, some (.int x4), none, none, none] ∧ (0 : Int) ≤ x4.toInt ∧ x4.toInt ≤ (49 : Int) ∧ t = s0), (fun L _ => ((49 - (vg_li L 4).toInt) * 1000).toNat)), (23, [true, true, true, false, true, true, false, true], (fun L t => ∃ (x2 : Int64) (x4 : Int32) (x5 : Int64) (x7 : Int32), L = [some (.ref 0), some (.int a1), some (.long x2), none, some (.int x4), some (.long x5), none, some (.int x7)] ∧ (0 : Int) ≤ x4.toInt ∧ x4.toInt ≤ (47 : Int) ∧ (0 : Int) ≤ x7.toInt ∧ x7.toInt ≤ (100 : Int) ∧ t = s0), (fun L _ => ((49 - (vg_li L 4).toInt) * 1000 - 1000 + (100 - (vg_li L 7).toInt) + 1).toNat))], ?_, List.forall_mem_cons.mpr ⟨?_, List.forall_mem_cons.mpr ⟨?_, fun _ h => absurd h List.not_mem_nil⟩⟩⟩
    ·
      exact ⟨rfl, ⟨(Int64.ofNat 0), (Int32.ofInt 0), rfl, (by omega), (by omega), rfl⟩, trivial⟩
    ·
      intro L s5 hL
      obtain ⟨w1, w2, rfl, b3, b4, q8⟩ := hL
      have q8 := q8.symm
      subst q8
      intro v9 e10
      have b11 := vg_add e10 (by omega) (by omega)
      refine And.intro (Nat.le_of_ble_eq_true rfl) (And.intro ⟨0, rfl, by decide, i0⟩ ?_)
      intro v12 s14 h13
      have h13 : s14 = s0 ∧ (0 ≤ v12.toInt ∧ v12.toInt ≤ 48) := h13
      have q17 := h13.1.symm
      subst q17
      have q18 := h13.2
      refine And.intro (fun c19 => ?_) (fun c19 => ?_)
      · have c19 : v12.toInt < v9.toInt := c19
        show s0 = s0 ∧ (True)
        exact ⟨rfl, (trivial)⟩
      · have c19 : ¬ (v12.toInt < v9.toInt) := c19
        exact ⟨rfl, ⟨w1, w2, (Int64.ofNat 0), w2, rfl, (by omega), (by omega), (by omega), (by omega), rfl⟩, (by show ((49 - w2.toInt) * 1000 - 1000 + (100 - w2.toInt) + 1).toNat < ((49 - w2.toInt) * 1000).toNat; omega)⟩
    ·
      intro L s28 hL
      obtain ⟨w20, w21, w24, w25, rfl, b22, b23, b26, b27, q31⟩ := hL
      have q31 := q31.symm
      subst q31
      intro v32 e33
      have b34 := vg_add e33 (by omega) (by omega)
      refine And.intro (fun c35 => ?_) (fun c35 => ?_)
      · have c35 : v32.toInt ≤ w25.toInt := c35
        refine And.intro (Nat.le_of_ble_eq_true rfl) (And.intro ⟨w24, rfl, trivial⟩ ?_)
        intro v36 s38 h37
        have h37 : s38 = s0 ∧ (True) := h37
        have q41 := h37.1.symm
        subst q41
        refine And.intro (Nat.le_of_ble_eq_true rfl) (And.intro ⟨w20, v36, rfl, trivial⟩ ?_)
        intro v42 s44 h43
        have h43 : s44 = s0 ∧ (True) := h43
        have q47 := h43.1.symm
        subst q47
        intro v48 e49
        have b50 := vg_add e49 (by omega) (by omega)
        exact ⟨rfl, ⟨v42, v48, rfl, (by omega), (by omega), rfl⟩, (by show ((49 - v48.toInt) * 1000).toNat < ((49 - w21.toInt) * 1000 - 1000 + (100 - w25.toInt) + 1).toNat; omega)⟩
      · have c35 : ¬ (v32.toInt ≤ w25.toInt) := c35
        refine And.intro rfl (And.intro ⟨by omega, by omega⟩ ?_)
        refine And.intro (fun c51 => ?_) ?_
        · have c51 : (Int32.ofInt 1).toInt = (0) := c51
          exfalso
          omega
        refine And.intro (fun c52 => ?_) ?_
        · have c52 : (Int32.ofInt 1).toInt = (1) := c52
          refine And.intro (Nat.le_of_ble_eq_true rfl) (And.intro ⟨43, w25, rfl, by decide, i0⟩ ?_)
          intro v53 s55 h54
          have h54 : s55 = s0 ∧ (True) := h54
          have q58 := h54.1.symm
          subst q58
          refine And.intro (Nat.le_of_ble_eq_true rfl) (And.intro ⟨4, v53, rfl, by decide, i0⟩ ?_)
          intro v59 s61 h60
          have h60 : s61 = s0 ∧ (True) := h60
          have q64 := h60.1.symm
          subst q64
          refine And.intro rfl (And.intro ⟨by omega, by omega⟩ ?_)
          refine And.intro (fun c65 => ?_) ?_
          · have c65 : (Int32.ofInt 0).toInt = (0) := c65
            refine And.intro (Nat.le_of_ble_eq_true rfl) (And.intro ⟨41, w25, rfl, by decide, i0⟩ ?_)
            intro v66 s68 h67
            have h67 : s68 = s0 ∧ (True) := h67
            have q71 := h67.1.symm
            subst q71
            intro v72 e73
            intro v74 e75
            intro v76 e77
            intro v78 e79
            have b80 := vg_add e79 (by omega) (by omega)
            exact ⟨rfl, ⟨w20, w21, v76, v78, rfl, (by omega), (by omega), (by omega), (by omega), rfl⟩, (by show ((49 - w21.toInt) * 1000 - 1000 + (100 - v78.toInt) + 1).toNat < ((49 - w21.toInt) * 1000 - 1000 + (100 - w25.toInt) + 1).toNat; omega)⟩
          refine And.intro (fun c81 => ?_) ?_
          · have c81 : (Int32.ofInt 0).toInt = (1) := c81
            exfalso
            omega
          refine And.intro (fun c82 => ?_) ?_
          · have c82 : (Int32.ofInt 0).toInt = (2) := c82
            exfalso
            omega
          refine And.intro (fun c83 => ?_) ?_
          · have c83 : (Int32.ofInt 0).toInt = (3) := c83
            exfalso
            omega
          refine And.intro (fun c84 => ?_) ?_
          · have c84 : (Int32.ofInt 0).toInt = (4) := c84
            exfalso
            omega
          refine And.intro (fun c85 => ?_) ?_
          · have c85 : (Int32.ofInt 0).toInt = (5) := c85
            exfalso
            omega
          refine And.intro (fun c86 => ?_) ?_
          · have c86 : (Int32.ofInt 0).toInt = (6) := c86
            exfalso
            omega
          exact trivial
        refine And.intro (fun c87 => ?_) ?_
        · have c87 : (Int32.ofInt 1).toInt = (2) := c87
          exfalso
          omega
        refine And.intro (fun c88 => ?_) ?_
        · have c88 : (Int32.ofInt 1).toInt = (3) := c88
          exfalso
          omega
        refine And.intro (fun c89 => ?_) ?_
        · have c89 : (Int32.ofInt 1).toInt = (4) := c89
          exfalso
          omega
        refine And.intro (fun c90 => ?_) ?_
        · have c90 : (Int32.ofInt 1).toInt = (5) := c90
          exfalso
          omega
        refine And.intro (fun c91 => ?_) ?_
        · have c91 : (Int32.ofInt 1).toInt = (6) := c91
          exfalso
          omega
        exact trivial
