def o_X2_begin : List vg_I := [(0, .aload_n 0, 1, 0, 0, 0, 0), (1, .iconst 0, 1, 0, 0, 0, 0), (2, .putfield 28, 3, 243, 2, 2, 0), (5, .aload_n 0, 1, 0, 0, 0, 0), (6, .iconst 0, 1, 0, 0, 0, 0), (7, .putfield 31, 3, 245, 2, 3, 0), (10, .aload_n 0, 1, 0, 0, 0, 0), (11, .getfield 19, 3, 249, 2, 5, 0), (14, .iconst 0, 1, 0, 0, 0, 0), (15, .invokestatic 34, 3, 0, 1, 2, 507), (18, .aload_n 0, 1, 0, 0, 0, 0), (19, .getfield 22, 3, 251, 2, 6, 0), (22, .iconst 0, 1, 0, 0, 0, 0), (23, .invokestatic 34, 3, 0, 1, 2, 507), (26, .aload_n 0, 1, 0, 0, 0, 0), (27, .getfield 25, 3, 253, 2, 7, 0), (30, .iconst 0, 1, 0, 0, 0, 0), (31, .invokestatic 34, 3, 0, 1, 2, 507), (34, .aload_n 0, 1, 0, 0, 0, 0), (35, .lconst 0, 1, 0, 0, 0, 0), (36, .putfield 40, 3, 255, 2, 8, 2), (39, .aload_n 0, 1, 0, 0, 0, 0), (40, .lconst 0, 1, 0, 0, 0, 0), (41, .putfield 44, 3, 257, 2, 9, 2), (44, .aload_n 0, 1, 0, 0, 0, 0), (45, .lconst 0, 1, 0, 0, 0, 0), (46, .putfield 47, 3, 259, 2, 10, 2), (49, .return_, 1, 0, 0, 0, 0)]
set_option maxRecDepth 100000 in
set_option maxHeartbeats 4000000 in
theorem c_X2_begin (l : Launch) (G : vg_G) (hp : vg_Hp G) : vg_Ct l G vg_sh r_X2_begin := by
  refine vg_meth hp vg_sh_ok r_X2_begin k_X2_begin rfl (fun h => by cases h) o_X2_begin [r_J7_fill_53178] false (by decide +kernel) (by decide +kernel) ⟨_, _, rfl, rfl⟩ (List.forall_mem_cons.mpr ⟨⟨c_J7_fill_53178 l G hp, Nat.le_of_ble_eq_true rfl, Nat.le_of_ble_eq_true rfl⟩, fun _ h => absurd h List.not_mem_nil⟩) (fun h => by cases h) 600 ?_
  intro as s0 hpre
  obtain ⟨r, rfl, hr, i0⟩ := hpre
  simp only [List.mem_cons, List.not_mem_nil, or_false] at hr
  rcases hr with rfl | rfl
  ·
    have z0 : (Int32.ofInt 0).toInt = 0 := by decide
    refine ⟨Nat.le_of_ble_eq_true rfl, [], ?_, fun _ h => absurd h List.not_mem_nil⟩
    ·
      intro s1 e2
      have i3 : Iv s1 := Iv.u1 i0 e2 rfl
      have k4 : Kp s0 s1 := Kx.u1 Kx.rf e2 rfl
      intro s5 e6
      have i7 : Iv s5 := Iv.u1 i3 e6 rfl
      have k8 : Kp s0 s5 := Kx.u1 k4 e6 rfl
      refine And.intro (Nat.le_of_ble_eq_true rfl) (And.intro ⟨9, (Int32.ofInt 0), rfl, by decide, i7⟩ ?_)
      intro s10 h9
      have h9 : Iv s10 ∧ Kp s5 s10 ∧ (True) := h9
      have i11 := h9.1
      have k12 : Kp s0 s10 := Kx.tr k8 (h9.2.1)
      refine And.intro (Nat.le_of_ble_eq_true rfl) (And.intro ⟨10, (Int32.ofInt 0), rfl, by decide, i11⟩ ?_)
      intro s14 h13
      have h13 : Iv s14 ∧ Kp s10 s14 ∧ (True) := h13
      have i15 := h13.1
      have k16 : Kp s0 s14 := Kx.tr k12 (h13.2.1)
      refine And.intro (Nat.le_of_ble_eq_true rfl) (And.intro ⟨11, (Int32.ofInt 0), rfl, by decide, i15⟩ ?_)
      intro s18 h17
      have h17 : Iv s18 ∧ Kp s14 s18 ∧ (True) := h17
      have i19 := h17.1
      have k20 : Kp s0 s18 := Kx.tr k16 (h17.2.1)
      intro s21 e22
      have i23 : Iv s21 := Iv.u2 i19 e22
      have k24 : Kp s0 s21 := Kx.u2 k20 e22 (vg_kq_no ⟨rfl, rfl, rfl⟩).1
      intro s25 e26
      have i27 : Iv s25 := Iv.u2 i23 e26
      have k28 : Kp s0 s25 := Kx.u2 k24 e26 (vg_kq_no ⟨rfl, rfl, rfl⟩).1
      intro s29 e30
      have i31 : Iv s29 := Iv.u2 i27 e30
      have k32 : Kp s0 s29 := Kx.u2 k28 e30 (vg_kq_no ⟨rfl, rfl, rfl⟩).1
      show Iv s29 ∧ Kp s0 s29 ∧ (True)
      exact ⟨i31, k32, (trivial)⟩
  ·
    have z0 : (Int32.ofInt 0).toInt = 0 := by decide
    refine ⟨Nat.le_of_ble_eq_true rfl, [], ?_, fun _ h => absurd h List.not_mem_nil⟩
    ·
      intro s1 e2
      have i3 : Iv s1 := Iv.u1 i0 e2 rfl
      have k4 : Kp s0 s1 := Kx.u1 Kx.rf e2 rfl
      intro s5 e6
      have i7 : Iv s5 := Iv.u1 i3 e6 rfl
      have k8 : Kp s0 s5 := Kx.u1 k4 e6 rfl
      refine And.intro (Nat.le_of_ble_eq_true rfl) (And.intro ⟨28, (Int32.ofInt 0), rfl, by decide, i7⟩ ?_)
      intro s10 h9
      have h9 : Iv s10 ∧ Kp s5 s10 ∧ (True) := h9
      have i11 := h9.1
      have k12 : Kp s0 s10 := Kx.tr k8 (h9.2.1)
      refine And.intro (Nat.le_of_ble_eq_true rfl) (And.intro ⟨29, (Int32.ofInt 0), rfl, by decide, i11⟩ ?_)
      intro s14 h13
      have h13 : Iv s14 ∧ Kp s10 s14 ∧ (True) := h13
      have i15 := h13.1
      have k16 : Kp s0 s14 := Kx.tr k12 (h13.2.1)
      refine And.intro (Nat.le_of_ble_eq_true rfl) (And.intro ⟨30, (Int32.ofInt 0), rfl, by decide, i15⟩ ?_)
      intro s18 h17
      have h17 : Iv s18 ∧ Kp s14 s18 ∧ (True) := h17
      have i19 := h17.1
      have k20 : Kp s0 s18 := Kx.tr k16 (h17.2.1)
      intro s21 e22
      have i23 : Iv s21 := Iv.u2 i19 e22
      have k24 : Kp s0 s21 := Kx.u2 k20 e22 (vg_kq_no ⟨rfl, rfl, rfl⟩).1
      intro s25 e26
      have i27 : Iv s25 := Iv.u2 i23 e26
      have k28 : Kp s0 s25 := Kx.u2 k24 e26 (vg_kq_no ⟨rfl, rfl, rfl⟩).1
      intro s29 e30
      have i31 : Iv s29 := Iv.u2 i27 e30
      have k32 : Kp s0 s29 := Kx.u2 k28 e30 (vg_kq_no ⟨rfl, rfl, rfl⟩).1
      show Iv s29 ∧ Kp s0 s29 ∧ (True)
      exact ⟨i31, k32, (trivial)⟩
def o_X2_beginLike : List vg_I := [(0, .aload_n 0, 1, 0, 0, 0, 0), (1, .aload_n 1, 1, 0, 0, 0, 0), (2, .getfield 9, 3, 239, 2, 0, 0), (5, .putfield 9, 3, 239, 2, 0, 0), (8, .aload_n 0, 1, 0, 0, 0, 0), (9, .iload_n 2, 1, 0, 0, 0, 0), (10, .putfield 50, 3, 241, 2, 1, 0), (13, .aload_n 1, 1, 0, 0, 0, 0), (14, .getfield 15, 3, 247, 2, 4, 0), (17, .iconst 0, 1, 0, 0, 0, 0), (18, .aload_n 0, 1, 0, 0, 0, 0), (19, .getfield 15, 3, 247, 2, 4, 0), (22, .iconst 0, 1, 0, 0, 0, 0), (23, .bipush 16, 2, 0, 0, 0, 0), (25, .invokestatic 53, 3, 0, 3, 0, 1039), (28, .aload_n 0, 1, 0, 0, 0, 0), (29, .invokevirtual 59, 3, 0, 2, 0, 1040), (32, .return_, 1, 0, 0, 0, 0)]
set_option maxRecDepth 100000 in
set_option maxHeartbeats 4000000 in
theorem c_X2_beginLike (l : Launch) (G : vg_G) (hp : vg_Hp G) : vg_Ct l G vg_sh r_X2_beginLike := by
  refine vg_meth hp vg_sh_ok r_X2_beginLike k_X2_beginLike rfl (fun h => by cases h) o_X2_beginLike [r_X2_begin] true (by decide +kernel) (by decide +kernel) ⟨_, _, rfl, rfl⟩ (List.forall_mem_cons.mpr ⟨⟨c_X2_begin l G hp, Nat.le_of_ble_eq_true rfl, Nat.le_of_ble_eq_true rfl⟩, fun _ h => absurd h List.not_mem_nil⟩) (fun _ => ⟨⟨Nat.le_of_ble_eq_true rfl, Nat.le_of_ble_eq_true rfl⟩, vg_cpw_in⟩) 600 ?_
  intro as s0 hpre
  obtain ⟨r, a1, a2, rfl, hr, ha1, i0⟩ := hpre
  simp only [List.mem_cons, List.not_mem_nil, or_false] at hr
  rcases hr with rfl
  ·
    simp only [List.mem_cons, List.not_mem_nil, or_false] at ha1
    rcases ha1 with rfl
    ·
      have z0 : (Int32.ofInt 0).toInt = 0 := by decide
      have z16 : (Int32.ofInt 16).toInt = 16 := by decide
      refine ⟨Nat.le_of_ble_eq_true rfl, [], ?_, fun _ h => absurd h List.not_mem_nil⟩
      ·
        intro v1 e2
        have g3 : s0.1 7 0 = v1 := by rw [e2]
        have b4 : (1 : Int) ≤ v1.toInt ∧ v1.toInt ≤ 16 := by rw [e2]; exact Iv_7_0 i0
        intro s5 e6
        have i7 : Iv s5 := Iv.c1 (lo := 1) (hi := 16) i0 e6 rfl (by omega) (by omega)
        have k8 : Kp s0 s5 := Kx.u1 Kx.rf e6 rfl
        intro s9 e10
        have i11 : Iv s9 := Iv.u1 i7 e10 rfl
        have k12 : Kp s0 s9 := Kx.u1 k8 e10 rfl
        refine And.intro (Nat.le_of_ble_eq_true rfl) (And.intro (by omega) (And.intro (by omega) (And.intro (by omega) (And.intro (by omega) (And.intro (by omega) ?_)))))
        intro s13 e14
        have i15 : Iv s13 := Iv.w1 i11 e14 rfl
        have k16 : Kp s0 s13 := Kx.w1 k12 e14 (fun _ => rfl)
        refine And.intro (Nat.le_of_ble_eq_true rfl) (And.intro ⟨26, rfl, by decide, i15⟩ ?_)
        intro s18 h17
        have h17 : Iv s18 ∧ Kp s13 s18 ∧ (True) := h17
        have i19 := h17.1
        have k20 : Kp s0 s18 := Kx.tr k16 (h17.2.1)
        show Iv s18 ∧ Kp s0 s18 ∧ (True)
        exact ⟨i19, k20, (trivial)⟩
def o_X2_weight : List vg_I := [(0, .sipush 1000, 3, 0, 0, 0, 0), (3, .aload_n 0, 1, 0, 0, 0, 0), (4, .getfield 15, 3, 247, 2, 4, 0), (7, .iload_n 1, 1, 0, 0, 0, 0), (8, .iaload, 1, 0, 0, 0, 0), (9, .iadd, 1, 0, 0, 0, 0), (10, .ireturn, 1, 0, 0, 0, 0)]
set_option maxRecDepth 100000 in
set_option maxHeartbeats 4000000 in
theorem c_X2_weight (l : Launch) (G : vg_G) (hp : vg_Hp G) : vg_Ct l G vg_sh r_X2_weight := by
  refine vg_meth hp vg_sh_ok r_X2_weight k_X2_weight rfl (fun h => by cases h) o_X2_weight [] false (by decide +kernel) (by decide +kernel) ⟨_, _, rfl, rfl⟩ (fun _ h => absurd h List.not_mem_nil) (fun h => by cases h) 600 ?_
  intro as s0 hpre
  obtain ⟨r, a1, rfl, hr, i0, p0⟩ := hpre
  simp only [List.mem_cons, List.not_mem_nil, or_false] at hr
  rcases hr with rfl | rfl
  ·
    have z1000 : (Int32.ofInt 1000).toInt = 1000 := by decide
    refine ⟨Nat.le_of_ble_eq_true rfl, [], ?_, fun _ h => absurd h List.not_mem_nil⟩
    ·
      refine And.intro ⟨by omega, by omega⟩ ?_
      intro v1 e2
      intro v3 e4
      show s0 = s0 ∧ (v3 = Int32.ofInt 1000 + s0.1 8 a1.toNatClampNeg)
      exact ⟨rfl, (by rw [e4, e2])⟩
  ·
    have z1000 : (Int32.ofInt 1000).toInt = 1000 := by decide
    refine ⟨Nat.le_of_ble_eq_true rfl, [], ?_, fun _ h => absurd h List.not_mem_nil⟩
    ·
      refine And.intro ⟨by omega, by omega⟩ ?_
      intro v1 e2
      intro v3 e4
      show s0 = s0 ∧ (v3 = Int32.ofInt 1000 + s0.1 27 a1.toNatClampNeg)
      exact ⟨rfl, (by rw [e4, e2])⟩
def o_X2_weightsOf : List vg_I := [(0, .iconst 0, 1, 0, 0, 0, 0), (1, .istore_n 2, 1, 0, 0, 0, 0), (2, .iconst 0, 1, 0, 0, 0, 0), (3, .istore_n 3, 1, 0, 0, 0, 0), (4, .iload_n 3, 1, 0, 0, 0, 0), (5, .aload_n 0, 1, 0, 0, 0, 0), (6, .getfield 9, 3, 239, 2, 0, 0), (9, .if_icmp .ge 26, 3, 0, 0, 0, 0), (12, .iload_n 1, 1, 0, 0, 0, 0), (13, .iload_n 3, 1, 0, 0, 0, 0), (14, .ishr, 1, 0, 0, 0, 0), (15, .iconst 1, 1, 0, 0, 0, 0), (16, .iand, 1, 0, 0, 0, 0), (17, .iconst 1, 1, 0, 0, 0, 0), (18, .if_icmp .ne 11, 3, 0, 0, 0, 0), (21, .iload_n 2, 1, 0, 0, 0, 0), (22, .aload_n 0, 1, 0, 0, 0, 0), (23, .iload_n 3, 1, 0, 0, 0, 0), (24, .invokevirtual 106, 3, 0, 2, 1, 564), (27, .iadd, 1, 0, 0, 0, 0), (28, .istore_n 2, 1, 0, 0, 0, 0), (29, .iinc 3 1, 3, 0, 0, 0, 0), (32, .goto (-28), 3, 0, 0, 0, 0), (35, .iload_n 2, 1, 0, 0, 0, 0), (36, .ireturn, 1, 0, 0, 0, 0)]
set_option maxRecDepth 100000 in
set_option maxHeartbeats 4000000 in
theorem c_X2_weightsOf (l : Launch) (G : vg_G) (hp : vg_Hp G) : vg_Ct l G vg_sh r_X2_weightsOf := by
  refine vg_meth hp vg_sh_ok r_X2_weightsOf k_X2_weightsOf rfl (fun h => by cases h) o_X2_weightsOf [r_X2_weight] false (by decide +kernel) (by decide +kernel) ⟨_, _, rfl, rfl⟩ (List.forall_mem_cons.mpr ⟨⟨c_X2_weight l G hp, Nat.le_of_ble_eq_true rfl, Nat.le_of_ble_eq_true rfl⟩, fun _ h => absurd h List.not_mem_nil⟩) (fun h => by cases h) 600 ?_
  intro as s0 hpre
  obtain ⟨r, a1, rfl, hr, i0⟩ := hpre
  simp only [List.mem_cons, List.not_mem_nil, or_false] at hr
  rcases hr with rfl | rfl
  ·
    have z0 : (Int32.ofInt 0).toInt = 0 := by decide
    have z1 : (Int32.ofInt 1).toInt = 1 := by decide
    refine ⟨Nat.le_of_ble_eq_true rfl, [(4, [true, true, true, true], (fun L t => ∃ (x2 : Int32) (x3 : Int32), L = [some (.ref 7), some (.int a1), some (.int x2), some (.int x3)] ∧ (0 : Int) ≤ x3.toInt ∧ x3.toInt ≤ (16 : Int) ∧ (x3.toInt ≤ (s0.1 7 0).toInt ∧ ((∀ i : Int32, 0 ≤ i.toInt → i.toInt < (s0.1 7 0).toInt → ((a1 >>> (i &&& (31 : Int32))) &&& Int32.ofInt 1).toInt = (Int32.ofInt 1).toInt) → x2 = vg_ws (s0.1 8) x3.toNatClampNeg)) ∧ t = s0), (fun L _ => (0 + (16 - (vg_li L 3).toInt) * 1000000000000).toNat))], ?_, List.forall_mem_cons.mpr ⟨?_, fun _ h => absurd h List.not_mem_nil⟩⟩
    ·
      exact ⟨rfl, ⟨(Int32.ofInt 0), (Int32.ofInt 0), rfl, (by omega), (by omega), (by first | exact ⟨by have h9 := Iv_7_0 i0; omega, fun _ => rfl⟩ | exact ⟨by omega, fun hb => vg_ws_step (None.2 hb) None None (by omega) (by omega)⟩ | exact ⟨by omega, fun hb => (vg_nobit None None None (hb _ (by omega) (by omega))).elim⟩), rfl⟩, trivial⟩
    ·
      intro L s6 hL
      obtain ⟨w1, w2, rfl, b3, b4, x5, q9⟩ := hL
      have q9 := q9.symm
      subst q9
      intro v10 e11
      have g12 : s0.1 7 0 = v10 := by rw [e11]
      have b13 : v10.toInt = (s0.1 7 0).toInt := congrArg Int32.toInt e11
      have b14 : (1 : Int) ≤ v10.toInt ∧ v10.toInt ≤ 16 := by rw [e11]; exact Iv_7_0 i0
      refine And.intro (fun c15 => ?_) (fun c15 => ?_)
      · have c15 : v10.toInt ≤ w2.toInt := c15
        show s0 = s0 ∧ ((∀ i : Int32, 0 ≤ i.toInt → i.toInt < (s0.1 7 0).toInt → ((a1 >>> (i &&& (31 : Int32))) &&& Int32.ofInt 1).toInt = (Int32.ofInt 1).toInt) → w1 = vg_ws (s0.1 8) (s0.1 7 0).toNatClampNeg)
        exact ⟨rfl, (fun hb => vg_ws_at (x5.2 hb) (by omega))⟩
      · have c15 : ¬ (v10.toInt ≤ w2.toInt) := c15
        intro v16 e17
        intro v18 e19
        have b20 := vg_and e19 (by omega)
        refine And.intro (fun c21 => ?_) (fun c21 => ?_)
        · have c21 : ¬ v18.toInt = (Int32.ofInt 1).toInt := c21
          intro v22 e23
          have b24 := vg_add e23 (by omega) (by omega)
          exact ⟨rfl, ⟨w1, v22, rfl, (by omega), (by omega), (by first | exact ⟨by have h9 := Iv_7_0 i0; omega, fun _ => rfl⟩ | exact ⟨by omega, fun hb => vg_ws_step (x5.2 hb) None None (by omega) (by omega)⟩ | exact ⟨by omega, fun hb => (vg_nobit e17 e19 c21 (hb _ (by omega) (by omega))).elim⟩), rfl⟩, (by show (0 + (16 - v22.toInt) * 1000000000000).toNat < (0 + (16 - w2.toInt) * 1000000000000).toNat; omega)⟩
        · have c21 : ¬ (¬ v18.toInt = (Int32.ofInt 1).toInt) := c21
          refine And.intro (Nat.le_of_ble_eq_true rfl) (And.intro ⟨7, w2, rfl, by decide, i0, by omega⟩ ?_)
          intro v25 s27 h26
          have h26 : s27 = s0 ∧ (v25 = Int32.ofInt 1000 + s0.1 8 w2.toNatClampNeg) := h26
          have q30 := h26.1.symm
          subst q30
          have q31 := h26.2
          intro v32 e33
          intro v34 e35
          have b36 := vg_add e35 (by omega) (by omega)
          exact ⟨rfl, ⟨v32, v34, rfl, (by omega), (by omega), (by first | exact ⟨by have h9 := Iv_7_0 i0; omega, fun _ => rfl⟩ | exact ⟨by omega, fun hb => vg_ws_step (x5.2 hb) q31 e33 (by omega) (by omega)⟩ | exact ⟨by omega, fun hb => (vg_nobit e17 e19 c21 (hb _ (by omega) (by omega))).elim⟩), rfl⟩, (by show (0 + (16 - v34.toInt) * 1000000000000).toNat < (0 + (16 - w2.toInt) * 1000000000000).toNat; omega)⟩
  ·
    have z0 : (Int32.ofInt 0).toInt = 0 := by decide
    have z1 : (Int32.ofInt 1).toInt = 1 := by decide
    refine ⟨Nat.le_of_ble_eq_true rfl, [(4, [true, true, true, true], (fun L t => ∃ (x2 : Int32) (x3 : Int32), L = [some (.ref 26), some (.int a1), some (.int x2), some (.int x3)] ∧ (0 : Int) ≤ x3.toInt ∧ x3.toInt ≤ (16 : Int) ∧ (x3.toInt ≤ (s0.1 26 0).toInt ∧ ((∀ i : Int32, 0 ≤ i.toInt → i.toInt < (s0.1 26 0).toInt → ((a1 >>> (i &&& (31 : Int32))) &&& Int32.ofInt 1).toInt = (Int32.ofInt 1).toInt) → x2 = vg_ws (s0.1 27) x3.toNatClampNeg)) ∧ t = s0), (fun L _ => (0 + (16 - (vg_li L 3).toInt) * 1000000000000).toNat))], ?_, List.forall_mem_cons.mpr ⟨?_, fun _ h => absurd h List.not_mem_nil⟩⟩
    ·
      exact ⟨rfl, ⟨(Int32.ofInt 0), (Int32.ofInt 0), rfl, (by omega), (by omega), (by first | exact ⟨by have h9 := Iv_26_0 i0; omega, fun _ => rfl⟩ | exact ⟨by omega, fun hb => vg_ws_step (None.2 hb) None None (by omega) (by omega)⟩ | exact ⟨by omega, fun hb => (vg_nobit None None None (hb _ (by omega) (by omega))).elim⟩), rfl⟩, trivial⟩
    ·
      intro L s6 hL
      obtain ⟨w1, w2, rfl, b3, b4, x5, q9⟩ := hL
      have q9 := q9.symm
      subst q9
      intro v10 e11
      have g12 : s0.1 26 0 = v10 := by rw [e11]
      have b13 : v10.toInt = (s0.1 26 0).toInt := congrArg Int32.toInt e11
      have b14 : (1 : Int) ≤ v10.toInt ∧ v10.toInt ≤ 16 := by rw [e11]; exact Iv_26_0 i0
      refine And.intro (fun c15 => ?_) (fun c15 => ?_)
      · have c15 : v10.toInt ≤ w2.toInt := c15
        show s0 = s0 ∧ ((∀ i : Int32, 0 ≤ i.toInt → i.toInt < (s0.1 26 0).toInt → ((a1 >>> (i &&& (31 : Int32))) &&& Int32.ofInt 1).toInt = (Int32.ofInt 1).toInt) → w1 = vg_ws (s0.1 27) (s0.1 26 0).toNatClampNeg)
        exact ⟨rfl, (fun hb => vg_ws_at (x5.2 hb) (by omega))⟩
      · have c15 : ¬ (v10.toInt ≤ w2.toInt) := c15
        intro v16 e17
        intro v18 e19
        have b20 := vg_and e19 (by omega)
        refine And.intro (fun c21 => ?_) (fun c21 => ?_)
        · have c21 : ¬ v18.toInt = (Int32.ofInt 1).toInt := c21
          intro v22 e23
          have b24 := vg_add e23 (by omega) (by omega)
          exact ⟨rfl, ⟨w1, v22, rfl, (by omega), (by omega), (by first | exact ⟨by have h9 := Iv_26_0 i0; omega, fun _ => rfl⟩ | exact ⟨by omega, fun hb => vg_ws_step (x5.2 hb) None None (by omega) (by omega)⟩ | exact ⟨by omega, fun hb => (vg_nobit e17 e19 c21 (hb _ (by omega) (by omega))).elim⟩), rfl⟩, (by show (0 + (16 - v22.toInt) * 1000000000000).toNat < (0 + (16 - w2.toInt) * 1000000000000).toNat; omega)⟩
        · have c21 : ¬ (¬ v18.toInt = (Int32.ofInt 1).toInt) := c21
          refine And.intro (Nat.le_of_ble_eq_true rfl) (And.intro ⟨26, w2, rfl, by decide, i0, by omega⟩ ?_)
          intro v25 s27 h26
          have h26 : s27 = s0 ∧ (v25 = Int32.ofInt 1000 + s0.1 27 w2.toNatClampNeg) := h26
          have q30 := h26.1.symm
          subst q30
          have q31 := h26.2
          intro v32 e33
          intro v34 e35
          have b36 := vg_add e35 (by omega) (by omega)
          exact ⟨rfl, ⟨v32, v34, rfl, (by omega), (by omega), (by first | exact ⟨by have h9 := Iv_26_0 i0; omega, fun _ => rfl⟩ | exact ⟨by omega, fun hb => vg_ws_step (x5.2 hb) q31 e33 (by omega) (by omega)⟩ | exact ⟨by omega, fun hb => (vg_nobit e17 e19 c21 (hb _ (by omega) (by omega))).elim⟩), rfl⟩, (by show (0 + (16 - v34.toInt) * 1000000000000).toNat < (0 + (16 - w2.toInt) * 1000000000000).toNat; omega)⟩
def o_X2_allWeights : List vg_I := [(0, .aload_n 0, 1, 0, 0, 0, 0), (1, .iconst 1, 1, 0, 0, 0, 0), (2, .aload_n 0, 1, 0, 0, 0, 0), (3, .getfield 9, 3, 239, 2, 0, 0), (6, .ishl, 1, 0, 0, 0, 0), (7, .iconst 1, 1, 0, 0, 0, 0), (8, .isub, 1, 0, 0, 0, 0), (9, .invokevirtual 62, 3, 0, 2, 1, 560), (12, .ireturn, 1, 0, 0, 0, 0)]
set_option maxRecDepth 100000 in
set_option maxHeartbeats 4000000 in
theorem c_X2_allWeights (l : Launch) (G : vg_G) (hp : vg_Hp G) : vg_Ct l G vg_sh r_X2_allWeights := by
  refine vg_meth hp vg_sh_ok r_X2_allWeights k_X2_allWeights rfl (fun h => by cases h) o_X2_allWeights [r_X2_weightsOf] false (by decide +kernel) (by decide +kernel) ⟨_, _, rfl, rfl⟩ (List.forall_mem_cons.mpr ⟨⟨c_X2_weightsOf l G hp, Nat.le_of_ble_eq_true rfl, Nat.le_of_ble_eq_true rfl⟩, fun _ h => absurd h List.not_mem_nil⟩) (fun h => by cases h) 600 ?_
  intro as s0 hpre
  obtain ⟨r, rfl, hr, i0⟩ := hpre
  simp only [List.mem_cons, List.not_mem_nil, or_false] at hr
  rcases hr with rfl | rfl
  ·
    have z1 : (Int32.ofInt 1).toInt = 1 := by decide
    refine ⟨Nat.le_of_ble_eq_true rfl, [], ?_, fun _ h => absurd h List.not_mem_nil⟩
    ·
      intro v1 e2
      have g3 : s0.1 7 0 = v1 := by rw [e2]
      have b4 : v1.toInt = (s0.1 7 0).toInt := congrArg Int32.toInt e2
      have b5 : (1 : Int) ≤ v1.toInt ∧ v1.toInt ≤ 16 := by rw [e2]; exact Iv_7_0 i0
      intro v6 e7
      intro v8 e9
      refine And.intro (Nat.le_of_ble_eq_true rfl) (And.intro ⟨7, v8, rfl, by decide, i0⟩ ?_)
      intro v10 s12 h11
      have h11 : s12 = s0 ∧ ((∀ i : Int32, 0 ≤ i.toInt → i.toInt < (s0.1 7 0).toInt → ((v8 >>> (i &&& (31 : Int32))) &&& Int32.ofInt 1).toInt = (Int32.ofInt 1).toInt) → v10 = vg_ws (s0.1 8) (s0.1 7 0).toNatClampNeg) := h11
      have q15 := h11.1.symm
      subst q15
      have q16 := h11.2
      show s0 = s0 ∧ (v10 = vg_ws (s0.1 8) (s0.1 7 0).toNatClampNeg)
      exact ⟨rfl, (q16 (fun i h1 h2 => vg_ones e7 e9 (by omega) (by omega) h1 (by omega)))⟩
  ·
    have z1 : (Int32.ofInt 1).toInt = 1 := by decide
    refine ⟨Nat.le_of_ble_eq_true rfl, [], ?_, fun _ h => absurd h List.not_mem_nil⟩
    ·
      intro v1 e2
      have g3 : s0.1 26 0 = v1 := by rw [e2]
      have b4 : v1.toInt = (s0.1 26 0).toInt := congrArg Int32.toInt e2
      have b5 : (1 : Int) ≤ v1.toInt ∧ v1.toInt ≤ 16 := by rw [e2]; exact Iv_26_0 i0
      intro v6 e7
      intro v8 e9
      refine And.intro (Nat.le_of_ble_eq_true rfl) (And.intro ⟨26, v8, rfl, by decide, i0⟩ ?_)
      intro v10 s12 h11
      have h11 : s12 = s0 ∧ ((∀ i : Int32, 0 ≤ i.toInt → i.toInt < (s0.1 26 0).toInt → ((v8 >>> (i &&& (31 : Int32))) &&& Int32.ofInt 1).toInt = (Int32.ofInt 1).toInt) → v10 = vg_ws (s0.1 27) (s0.1 26 0).toNatClampNeg) := h11
      have q15 := h11.1.symm
      subst q15
      have q16 := h11.2
      show s0 = s0 ∧ (v10 = vg_ws (s0.1 27) (s0.1 26 0).toNatClampNeg)
      exact ⟨rfl, (q16 (fun i h1 h2 => vg_ones e7 e9 (by omega) (by omega) h1 (by omega)))⟩
def o_X2_unevenness : List vg_I := [(0, .aload_n 0, 1, 0, 0, 0, 0), (1, .getfield 19, 3, 249, 2, 5, 0), (4, .iconst 0, 1, 0, 0, 0, 0), (5, .iaload, 1, 0, 0, 0, 0), (6, .istore_n 1, 1, 0, 0, 0, 0), (7, .aload_n 0, 1, 0, 0, 0, 0), (8, .getfield 19, 3, 249, 2, 5, 0), (11, .iconst 0, 1, 0, 0, 0, 0), (12, .iaload, 1, 0, 0, 0, 0), (13, .istore_n 2, 1, 0, 0, 0, 0), (14, .iconst 1, 1, 0, 0, 0, 0), (15, .istore_n 3, 1, 0, 0, 0, 0), (16, .iload_n 3, 1, 0, 0, 0, 0), (17, .aload_n 0, 1, 0, 0, 0, 0), (18, .getfield 9, 3, 239, 2, 0, 0), (21, .if_icmp .ge 31, 3, 0, 0, 0, 0), (24, .iload_n 1, 1, 0, 0, 0, 0), (25, .aload_n 0, 1, 0, 0, 0, 0), (26, .getfield 19, 3, 249, 2, 5, 0), (29, .iload_n 3, 1, 0, 0, 0, 0), (30, .iaload, 1, 0, 0, 0, 0), (31, .invokestatic 66, 3, 0, 1, 2, 861), (34, .istore_n 1, 1, 0, 0, 0, 0), (35, .iload_n 2, 1, 0, 0, 0, 0), (36, .aload_n 0, 1, 0, 0, 0, 0), (37, .getfield 19, 3, 249, 2, 5, 0), (40, .iload_n 3, 1, 0, 0, 0, 0), (41, .iaload, 1, 0, 0, 0, 0), (42, .invokestatic 72, 3, 1, 1, 2, 862), (45, .istore_n 2, 1, 0, 0, 0, 0), (46, .iinc 3 1, 3, 0, 0, 0, 0), (49, .goto (-33), 3, 0, 0, 0, 0), (52, .iload_n 1, 1, 0, 0, 0, 0), (53, .iload_n 2, 1, 0, 0, 0, 0), (54, .isub, 1, 0, 0, 0, 0), (55, .ireturn, 1, 0, 0, 0, 0)]
set_option maxRecDepth 100000 in
set_option maxHeartbeats 4000000 in
theorem c_X2_unevenness (l : Launch) (G : vg_G) (hp : vg_Hp G) : vg_Ct l G vg_sh r_X2_unevenness := by
  refine vg_meth hp vg_sh_ok r_X2_unevenness k_X2_unevenness rfl (fun h => by cases h) o_X2_unevenness [r_J9_max_7cf53, r_J9_min_7cf53] false (by decide +kernel) (by decide +kernel) ⟨_, _, rfl, rfl⟩ (List.forall_mem_cons.mpr ⟨⟨c_J9_max_7cf53 l G hp, Nat.le_of_ble_eq_true rfl, Nat.le_of_ble_eq_true rfl⟩, List.forall_mem_cons.mpr ⟨⟨c_J9_min_7cf53 l G hp, Nat.le_of_ble_eq_true rfl, Nat.le_of_ble_eq_true rfl⟩, fun _ h => absurd h List.not_mem_nil⟩⟩) (fun h => by cases h) 600 ?_
  intro as s0 hpre
  obtain ⟨r, rfl, hr, i0⟩ := hpre
  simp only [List.mem_cons, List.not_mem_nil, or_false] at hr
  rcases hr with rfl | rfl
  ·
    have z0 : (Int32.ofInt 0).toInt = 0 := by decide
    have z1 : (Int32.ofInt 1).toInt = 1 := by decide
    refine ⟨Nat.le_of_ble_eq_true rfl, [(16, [true, true, true, true], (fun L t => ∃ (x1 : Int32) (x2 : Int32) (x3 : Int32), L = [some (.ref 7), some (.int x1), some (.int x2), some (.int x3)] ∧ (1 : Int) ≤ x3.toInt ∧ x3.toInt ≤ (16 : Int) ∧ t = s0), (fun L _ => (0 + (16 - (vg_li L 3).toInt) * 1000000000000).toNat))], ?_, List.forall_mem_cons.mpr ⟨?_, fun _ h => absurd h List.not_mem_nil⟩⟩
    ·
      refine And.intro ⟨by omega, by omega⟩ ?_
      intro v1 e2
      refine And.intro ⟨by omega, by omega⟩ ?_
      intro v3 e4
      have w5 : v1 = v3 := by rw [e4, e2]
      subst w5
      exact ⟨rfl, ⟨v1, v1, (Int32.ofInt 1), rfl, (by omega), (by omega), rfl⟩, trivial⟩
    ·
      intro L s11 hL
      obtain ⟨w6, w7, w8, rfl, b9, b10, q14⟩ := hL
      have q14 := q14.symm
      subst q14
      intro v15 e16
      have g17 : s0.1 7 0 = v15 := by rw [e16]
      have b18 : (1 : Int) ≤ v15.toInt ∧ v15.toInt ≤ 16 := by rw [e16]; exact Iv_7_0 i0
      refine And.intro (fun c19 => ?_) (fun c19 => ?_)
      · have c19 : v15.toInt ≤ w8.toInt := c19
        intro v20 e21
        show s0 = s0 ∧ (True)
        exact ⟨rfl, (trivial)⟩
      · have c19 : ¬ (v15.toInt ≤ w8.toInt) := c19
        refine And.intro ⟨by omega, by omega⟩ ?_
        intro v22 e23
        refine And.intro (Nat.le_of_ble_eq_true rfl) (And.intro ⟨w6, v22, rfl, trivial⟩ ?_)
        intro v24 s26 h25
        have h25 : s26 = s0 ∧ (w6.toInt ≤ v24.toInt ∧ v22.toInt ≤ v24.toInt ∧ (v24.toInt = w6.toInt ∨ v24.toInt = v22.toInt)) := h25
        have q29 := h25.1.symm
        subst q29
        have q30 := h25.2
        refine And.intro ⟨by omega, by omega⟩ ?_
        intro v31 e32
        have w33 : v22 = v31 := by rw [e32, e23]
        subst w33
        refine And.intro (Nat.le_of_ble_eq_true rfl) (And.intro ⟨w7, v22, rfl, trivial⟩ ?_)
        intro v34 s36 h35
        have h35 : s36 = s0 ∧ (v34.toInt ≤ w7.toInt ∧ v34.toInt ≤ v22.toInt ∧ (v34.toInt = w7.toInt ∨ v34.toInt = v22.toInt)) := h35
        have q39 := h35.1.symm
        subst q39
        have q40 := h35.2
        intro v41 e42
        have b43 := vg_add e42 (by omega) (by omega)
        exact ⟨rfl, ⟨v24, v34, v41, rfl, (by omega), (by omega), rfl⟩, (by show (0 + (16 - v41.toInt) * 1000000000000).toNat < (0 + (16 - w8.toInt) * 1000000000000).toNat; omega)⟩
  ·
    have z0 : (Int32.ofInt 0).toInt = 0 := by decide
    have z1 : (Int32.ofInt 1).toInt = 1 := by decide
    refine ⟨Nat.le_of_ble_eq_true rfl, [(16, [true, true, true, true], (fun L t => ∃ (x1 : Int32) (x2 : Int32) (x3 : Int32), L = [some (.ref 26), some (.int x1), some (.int x2), some (.int x3)] ∧ (1 : Int) ≤ x3.toInt ∧ x3.toInt ≤ (16 : Int) ∧ t = s0), (fun L _ => (0 + (16 - (vg_li L 3).toInt) * 1000000000000).toNat))], ?_, List.forall_mem_cons.mpr ⟨?_, fun _ h => absurd h List.not_mem_nil⟩⟩
    ·
      refine And.intro ⟨by omega, by omega⟩ ?_
      intro v1 e2
      refine And.intro ⟨by omega, by omega⟩ ?_
      intro v3 e4
      have w5 : v1 = v3 := by rw [e4, e2]
      subst w5
      exact ⟨rfl, ⟨v1, v1, (Int32.ofInt 1), rfl, (by omega), (by omega), rfl⟩, trivial⟩
    ·
      intro L s11 hL
      obtain ⟨w6, w7, w8, rfl, b9, b10, q14⟩ := hL
      have q14 := q14.symm
      subst q14
      intro v15 e16
      have g17 : s0.1 26 0 = v15 := by rw [e16]
      have b18 : (1 : Int) ≤ v15.toInt ∧ v15.toInt ≤ 16 := by rw [e16]; exact Iv_26_0 i0
      refine And.intro (fun c19 => ?_) (fun c19 => ?_)
      · have c19 : v15.toInt ≤ w8.toInt := c19
        intro v20 e21
        show s0 = s0 ∧ (True)
        exact ⟨rfl, (trivial)⟩
      · have c19 : ¬ (v15.toInt ≤ w8.toInt) := c19
        refine And.intro ⟨by omega, by omega⟩ ?_
        intro v22 e23
        refine And.intro (Nat.le_of_ble_eq_true rfl) (And.intro ⟨w6, v22, rfl, trivial⟩ ?_)
        intro v24 s26 h25
        have h25 : s26 = s0 ∧ (w6.toInt ≤ v24.toInt ∧ v22.toInt ≤ v24.toInt ∧ (v24.toInt = w6.toInt ∨ v24.toInt = v22.toInt)) := h25
        have q29 := h25.1.symm
        subst q29
        have q30 := h25.2
        refine And.intro ⟨by omega, by omega⟩ ?_
        intro v31 e32
        have w33 : v22 = v31 := by rw [e32, e23]
        subst w33
        refine And.intro (Nat.le_of_ble_eq_true rfl) (And.intro ⟨w7, v22, rfl, trivial⟩ ?_)
        intro v34 s36 h35
        have h35 : s36 = s0 ∧ (v34.toInt ≤ w7.toInt ∧ v34.toInt ≤ v22.toInt ∧ (v34.toInt = w7.toInt ∨ v34.toInt = v22.toInt)) := h35
        have q39 := h35.1.symm
        subst q39
        have q40 := h35.2
        intro v41 e42
        have b43 := vg_add e42 (by omega) (by omega)
        exact ⟨rfl, ⟨v24, v34, v41, rfl, (by omega), (by omega), rfl⟩, (by show (0 + (16 - v41.toInt) * 1000000000000).toNat < (0 + (16 - w8.toInt) * 1000000000000).toNat; omega)⟩
def o_X2_chooseRotated : List vg_I := [(0, .iconst 0, 1, 0, 0, 0, 0), (1, .istore_n 2, 1, 0, 0, 0, 0), (2, .iconst 0, 1, 0, 0, 0, 0), (3, .istore_n 3, 1, 0, 0, 0, 0), (4, .iload_n 3, 1, 0, 0, 0, 0), (5, .iload_n 1, 1, 0, 0, 0, 0), (6, .if_icmp .ge 25, 3, 0, 0, 0, 0), (9, .iload_n 2, 1, 0, 0, 0, 0), (10, .iconst 1, 1, 0, 0, 0, 0), (11, .aload_n 0, 1, 0, 0, 0, 0), (12, .getfield 28, 3, 243, 2, 2, 0), (15, .iload_n 3, 1, 0, 0, 0, 0), (16, .iadd, 1, 0, 0, 0, 0), (17, .aload_n 0, 1, 0, 0, 0, 0), (18, .getfield 9, 3, 239, 2, 0, 0), (21, .irem, 1, 0, 0, 0, 0), (22, .ishl, 1, 0, 0, 0, 0), (23, .ior, 1, 0, 0, 0, 0), (24, .istore_n 2, 1, 0, 0, 0, 0), (25, .iinc 3 1, 3, 0, 0, 0, 0), (28, .goto (-24), 3, 0, 0, 0, 0), (31, .iload_n 2, 1, 0, 0, 0, 0), (32, .ireturn, 1, 0, 0, 0, 0)]
set_option maxRecDepth 100000 in
set_option maxHeartbeats 4000000 in
theorem c_X2_chooseRotated (l : Launch) (G : vg_G) (hp : vg_Hp G) : vg_Ct l G vg_sh r_X2_chooseRotated := by
  refine vg_meth hp vg_sh_ok r_X2_chooseRotated k_X2_chooseRotated rfl (fun h => by cases h) o_X2_chooseRotated [] false (by decide +kernel) (by decide +kernel) ⟨_, _, rfl, rfl⟩ (fun _ h => absurd h List.not_mem_nil) (fun h => by cases h) 600 ?_
  intro as s0 hpre
  obtain ⟨r, a1, rfl, hr, i0⟩ := hpre
  have ra1 := vg_rng a1
  simp only [List.mem_cons, List.not_mem_nil, or_false] at hr
  rcases hr with rfl | rfl
  ·
    have z0 : (Int32.ofInt 0).toInt = 0 := by decide
    have z1 : (Int32.ofInt 1).toInt = 1 := by decide
    refine ⟨Nat.le_of_ble_eq_true rfl, [(4, [true, true, true, true], (fun L t => ∃ (x2 : Int32) (x3 : Int32), L = [some (.ref 7), some (.int a1), some (.int x2), some (.int x3)] ∧ (0 : Int) ≤ x3.toInt ∧ t = s0), (fun L _ => (a1.toInt - (vg_li L 3).toInt).toNat))], ?_, List.forall_mem_cons.mpr ⟨?_, fun _ h => absurd h List.not_mem_nil⟩⟩
    ·
      exact ⟨rfl, ⟨(Int32.ofInt 0), (Int32.ofInt 0), rfl, (by omega), rfl⟩, trivial⟩
    ·
      intro L s4 hL
      obtain ⟨w1, w2, rfl, b3, q7⟩ := hL
      have q7 := q7.symm
      subst q7
      refine And.intro (fun c8 => ?_) (fun c8 => ?_)
      · have c8 : a1.toInt ≤ w2.toInt := c8
        show s0 = s0 ∧ (True)
        exact ⟨rfl, (trivial)⟩
      · have c8 : ¬ (a1.toInt ≤ w2.toInt) := c8
        intro v9 e10
        have g11 : s0.1 7 2 = v9 := by rw [e10]
        intro v12 e13
        intro v14 e15
        have g16 : s0.1 7 0 = v14 := by rw [e15]
        have b17 : (1 : Int) ≤ v14.toInt ∧ v14.toInt ≤ 16 := by rw [e15]; exact Iv_7_0 i0
        refine And.intro (by omega) ?_
        intro v18 e19
        have b20 := vg_remx e19 (by omega)
        intro v21 e22
        intro v23 e24
        intro v25 e26
        have b27 := vg_add e26 (by omega) (by omega)
        exact ⟨rfl, ⟨v23, v25, rfl, (by omega), rfl⟩, (by show (a1.toInt - v25.toInt).toNat < (a1.toInt - w2.toInt).toNat; omega)⟩
  ·
    have z0 : (Int32.ofInt 0).toInt = 0 := by decide
    have z1 : (Int32.ofInt 1).toInt = 1 := by decide
    refine ⟨Nat.le_of_ble_eq_true rfl, [(4, [true, true, true, true], (fun L t => ∃ (x2 : Int32) (x3 : Int32), L = [some (.ref 26), some (.int a1), some (.int x2), some (.int x3)] ∧ (0 : Int) ≤ x3.toInt ∧ t = s0), (fun L _ => (a1.toInt - (vg_li L 3).toInt).toNat))], ?_, List.forall_mem_cons.mpr ⟨?_, fun _ h => absurd h List.not_mem_nil⟩⟩
    ·
      exact ⟨rfl, ⟨(Int32.ofInt 0), (Int32.ofInt 0), rfl, (by omega), rfl⟩, trivial⟩
    ·
      intro L s4 hL
      obtain ⟨w1, w2, rfl, b3, q7⟩ := hL
      have q7 := q7.symm
      subst q7
      refine And.intro (fun c8 => ?_) (fun c8 => ?_)
      · have c8 : a1.toInt ≤ w2.toInt := c8
        show s0 = s0 ∧ (True)
        exact ⟨rfl, (trivial)⟩
      · have c8 : ¬ (a1.toInt ≤ w2.toInt) := c8
        intro v9 e10
        have g11 : s0.1 26 2 = v9 := by rw [e10]
        intro v12 e13
        intro v14 e15
        have g16 : s0.1 26 0 = v14 := by rw [e15]
        have b17 : (1 : Int) ≤ v14.toInt ∧ v14.toInt ≤ 16 := by rw [e15]; exact Iv_26_0 i0
        refine And.intro (by omega) ?_
        intro v18 e19
        have b20 := vg_remx e19 (by omega)
        intro v21 e22
        intro v23 e24
        intro v25 e26
        have b27 := vg_add e26 (by omega) (by omega)
        exact ⟨rfl, ⟨v23, v25, rfl, (by omega), rfl⟩, (by show (a1.toInt - v25.toInt).toNat < (a1.toInt - w2.toInt).toNat; omega)⟩
def o_X2_mostDue : List vg_I := [(0, .iconst (-1), 1, 0, 0, 0, 0), (1, .istore_n 2, 1, 0, 0, 0, 0), (2, .iconst 0, 1, 0, 0, 0, 0), (3, .istore_n 3, 1, 0, 0, 0, 0), (4, .iconst 0, 1, 0, 0, 0, 0), (5, .istore 4, 2, 0, 0, 0, 0), (7, .iload 4, 2, 0, 0, 0, 0), (9, .aload_n 0, 1, 0, 0, 0, 0), (10, .getfield 9, 3, 239, 2, 0, 0), (13, .if_icmp .ge 54, 3, 0, 0, 0, 0), (16, .iconst 2, 1, 0, 0, 0, 0), (17, .aload_n 0, 1, 0, 0, 0, 0), (18, .getfield 22, 3, 251, 2, 6, 0), (21, .iload 4, 2, 0, 0, 0, 0), (23, .iaload, 1, 0, 0, 0, 0), (24, .imul, 1, 0, 0, 0, 0), (25, .aload_n 0, 1, 0, 0, 0, 0), (26, .getfield 25, 3, 253, 2, 7, 0), (29, .iload 4, 2, 0, 0, 0, 0), (31, .iaload, 1, 0, 0, 0, 0), (32, .iadd, 1, 0, 0, 0, 0), (33, .istore 5, 2, 0, 0, 0, 0), (35, .iload_n 1, 1, 0, 0, 0, 0), (36, .iload 4, 2, 0, 0, 0, 0), (38, .ishr, 1, 0, 0, 0, 0), (39, .iconst 1, 1, 0, 0, 0, 0), (40, .iand, 1, 0, 0, 0, 0), (41, .ifCond .ne 20, 3, 0, 0, 0, 0), (44, .iload_n 2, 1, 0, 0, 0, 0), (45, .iconst (-1), 1, 0, 0, 0, 0), (46, .if_icmp .eq 9, 3, 0, 0, 0, 0), (49, .iload 5, 2, 0, 0, 0, 0), (51, .iload_n 3, 1, 0, 0, 0, 0), (52, .if_icmp .le 9, 3, 0, 0, 0, 0), (55, .iload 5, 2, 0, 0, 0, 0), (57, .istore_n 3, 1, 0, 0, 0, 0), (58, .iload 4, 2, 0, 0, 0, 0), (60, .istore_n 2, 1, 0, 0, 0, 0), (61, .iinc 4 1, 3, 0, 0, 0, 0), (64, .goto (-57), 3, 0, 0, 0, 0), (67, .iload_n 2, 1, 0, 0, 0, 0), (68, .ireturn, 1, 0, 0, 0, 0)]
set_option maxRecDepth 100000 in
set_option maxHeartbeats 4000000 in
theorem c_X2_mostDue (l : Launch) (G : vg_G) (hp : vg_Hp G) : vg_Ct l G vg_sh r_X2_mostDue := by
  refine vg_meth hp vg_sh_ok r_X2_mostDue k_X2_mostDue rfl (fun h => by cases h) o_X2_mostDue [] false (by decide +kernel) (by decide +kernel) ⟨_, _, rfl, rfl⟩ (fun _ h => absurd h List.not_mem_nil) (fun h => by cases h) 600 ?_
  intro as s0 hpre
  obtain ⟨r, a1, rfl, hr, i0⟩ := hpre
  simp only [List.mem_cons, List.not_mem_nil, or_false] at hr
  rcases hr with rfl | rfl
  ·
    have zm1 : (Int32.ofInt (-1)).toInt = -1 := by decide
    have z0 : (Int32.ofInt 0).toInt = 0 := by decide
    have z1 : (Int32.ofInt 1).toInt = 1 := by decide
    have z2 : (Int32.ofInt 2).toInt = 2 := by decide
    refine ⟨Nat.le_of_ble_eq_true rfl, [(7, [true, true, true, true, true, false], (fun L t => ∃ (x2 : Int32) (x3 : Int32) (x4 : Int32), L = [some (.ref 7), some (.int a1), some (.int x2), some (.int x3), some (.int x4), none] ∧ (0 : Int) ≤ x4.toInt ∧ x4.toInt ≤ (16 : Int) ∧ t = s0), (fun L _ => (0 + (16 - (vg_li L 4).toInt) * 1000000000000).toNat))], ?_, List.forall_mem_cons.mpr ⟨?_, fun _ h => absurd h List.not_mem_nil⟩⟩
    ·
      exact ⟨rfl, ⟨(Int32.ofInt (-1)), (Int32.ofInt 0), (Int32.ofInt 0), rfl, (by omega), (by omega), rfl⟩, trivial⟩
    ·
      intro L s6 hL
      obtain ⟨w1, w2, w3, rfl, b4, b5, q9⟩ := hL
      have q9 := q9.symm
      subst q9
      intro v10 e11
      have g12 : s0.1 7 0 = v10 := by rw [e11]
      have b13 : (1 : Int) ≤ v10.toInt ∧ v10.toInt ≤ 16 := by rw [e11]; exact Iv_7_0 i0
      refine And.intro (fun c14 => ?_) (fun c14 => ?_)
      · have c14 : v10.toInt ≤ w3.toInt := c14
        show s0 = s0 ∧ (True)
        exact ⟨rfl, (trivial)⟩
      · have c14 : ¬ (v10.toInt ≤ w3.toInt) := c14
        refine And.intro ⟨by omega, by omega⟩ ?_
        intro v15 e16
        intro v17 e18
        refine And.intro ⟨by omega, by omega⟩ ?_
        intro v19 e20
        intro v21 e22
        intro v23 e24
        intro v25 e26
        have b27 := vg_and e26 (by omega)
        refine And.intro (fun c28 => ?_) (fun c28 => ?_)
        · have c28 : ¬ v25.toInt = 0 := c28
          intro v29 e30
          have b31 := vg_add e30 (by omega) (by omega)
          exact ⟨rfl, ⟨w1, w2, v29, rfl, (by omega), (by omega), rfl⟩, (by show (0 + (16 - v29.toInt) * 1000000000000).toNat < (0 + (16 - w3.toInt) * 1000000000000).toNat; omega)⟩
        · have c28 : ¬ (¬ v25.toInt = 0) := c28
          refine And.intro (fun c32 => ?_) (fun c32 => ?_)
          · have c32 : w1.toInt = (Int32.ofInt (-1)).toInt := c32
            intro v33 e34
            have b35 := vg_add e34 (by omega) (by omega)
            exact ⟨rfl, ⟨w3, v21, v33, rfl, (by omega), (by omega), rfl⟩, (by show (0 + (16 - v33.toInt) * 1000000000000).toNat < (0 + (16 - w3.toInt) * 1000000000000).toNat; omega)⟩
          · have c32 : ¬ (w1.toInt = (Int32.ofInt (-1)).toInt) := c32
            refine And.intro (fun c36 => ?_) (fun c36 => ?_)
            · have c36 : v21.toInt ≤ w2.toInt := c36
              intro v37 e38
              have b39 := vg_add e38 (by omega) (by omega)
              exact ⟨rfl, ⟨w1, w2, v37, rfl, (by omega), (by omega), rfl⟩, (by show (0 + (16 - v37.toInt) * 1000000000000).toNat < (0 + (16 - w3.toInt) * 1000000000000).toNat; omega)⟩
            · have c36 : ¬ (v21.toInt ≤ w2.toInt) := c36
              intro v40 e41
              have b42 := vg_add e41 (by omega) (by omega)
              exact ⟨rfl, ⟨w3, v21, v40, rfl, (by omega), (by omega), rfl⟩, (by show (0 + (16 - v40.toInt) * 1000000000000).toNat < (0 + (16 - w3.toInt) * 1000000000000).toNat; omega)⟩
  ·
    have zm1 : (Int32.ofInt (-1)).toInt = -1 := by decide
    have z0 : (Int32.ofInt 0).toInt = 0 := by decide
    have z1 : (Int32.ofInt 1).toInt = 1 := by decide
    have z2 : (Int32.ofInt 2).toInt = 2 := by decide
    refine ⟨Nat.le_of_ble_eq_true rfl, [(7, [true, true, true, true, true, false], (fun L t => ∃ (x2 : Int32) (x3 : Int32) (x4 : Int32), L = [some (.ref 26), some (.int a1), some (.int x2), some (.int x3), some (.int x4), none] ∧ (0 : Int) ≤ x4.toInt ∧ x4.toInt ≤ (16 : Int) ∧ t = s0), (fun L _ => (0 + (16 - (vg_li L 4).toInt) * 1000000000000).toNat))], ?_, List.forall_mem_cons.mpr ⟨?_, fun _ h => absurd h List.not_mem_nil⟩⟩
    ·
      exact ⟨rfl, ⟨(Int32.ofInt (-1)), (Int32.ofInt 0), (Int32.ofInt 0), rfl, (by omega), (by omega), rfl⟩, trivial⟩
    ·
      intro L s6 hL
      obtain ⟨w1, w2, w3, rfl, b4, b5, q9⟩ := hL
      have q9 := q9.symm
      subst q9
      intro v10 e11
      have g12 : s0.1 26 0 = v10 := by rw [e11]
      have b13 : (1 : Int) ≤ v10.toInt ∧ v10.toInt ≤ 16 := by rw [e11]; exact Iv_26_0 i0
      refine And.intro (fun c14 => ?_) (fun c14 => ?_)
      · have c14 : v10.toInt ≤ w3.toInt := c14
        show s0 = s0 ∧ (True)
        exact ⟨rfl, (trivial)⟩
      · have c14 : ¬ (v10.toInt ≤ w3.toInt) := c14
        refine And.intro ⟨by omega, by omega⟩ ?_
        intro v15 e16
        intro v17 e18
        refine And.intro ⟨by omega, by omega⟩ ?_
        intro v19 e20
        intro v21 e22
        intro v23 e24
        intro v25 e26
        have b27 := vg_and e26 (by omega)
        refine And.intro (fun c28 => ?_) (fun c28 => ?_)
        · have c28 : ¬ v25.toInt = 0 := c28
          intro v29 e30
          have b31 := vg_add e30 (by omega) (by omega)
          exact ⟨rfl, ⟨w1, w2, v29, rfl, (by omega), (by omega), rfl⟩, (by show (0 + (16 - v29.toInt) * 1000000000000).toNat < (0 + (16 - w3.toInt) * 1000000000000).toNat; omega)⟩
        · have c28 : ¬ (¬ v25.toInt = 0) := c28
          refine And.intro (fun c32 => ?_) (fun c32 => ?_)
          · have c32 : w1.toInt = (Int32.ofInt (-1)).toInt := c32
            intro v33 e34
            have b35 := vg_add e34 (by omega) (by omega)
            exact ⟨rfl, ⟨w3, v21, v33, rfl, (by omega), (by omega), rfl⟩, (by show (0 + (16 - v33.toInt) * 1000000000000).toNat < (0 + (16 - w3.toInt) * 1000000000000).toNat; omega)⟩
          · have c32 : ¬ (w1.toInt = (Int32.ofInt (-1)).toInt) := c32
            refine And.intro (fun c36 => ?_) (fun c36 => ?_)
            · have c36 : v21.toInt ≤ w2.toInt := c36
              intro v37 e38
              have b39 := vg_add e38 (by omega) (by omega)
              exact ⟨rfl, ⟨w1, w2, v37, rfl, (by omega), (by omega), rfl⟩, (by show (0 + (16 - v37.toInt) * 1000000000000).toNat < (0 + (16 - w3.toInt) * 1000000000000).toNat; omega)⟩
            · have c36 : ¬ (v21.toInt ≤ w2.toInt) := c36
              intro v40 e41
              have b42 := vg_add e41 (by omega) (by omega)
              exact ⟨rfl, ⟨w3, v21, v40, rfl, (by omega), (by omega), rfl⟩, (by show (0 + (16 - v40.toInt) * 1000000000000).toNat < (0 + (16 - w3.toInt) * 1000000000000).toNat; omega)⟩
def o_X2_chooseTwice : List vg_I := [(0, .iconst 0, 1, 0, 0, 0, 0), (1, .istore_n 2, 1, 0, 0, 0, 0), (2, .iconst 0, 1, 0, 0, 0, 0), (3, .istore_n 3, 1, 0, 0, 0, 0), (4, .iload_n 3, 1, 0, 0, 0, 0), (5, .iload_n 1, 1, 0, 0, 0, 0), (6, .if_icmp .ge 19, 3, 0, 0, 0, 0), (9, .iload_n 2, 1, 0, 0, 0, 0), (10, .iconst 1, 1, 0, 0, 0, 0), (11, .aload_n 0, 1, 0, 0, 0, 0), (12, .iload_n 2, 1, 0, 0, 0, 0), (13, .invokevirtual 99, 3, 0, 2, 1, 737), (16, .ishl, 1, 0, 0, 0, 0), (17, .ior, 1, 0, 0, 0, 0), (18, .istore_n 2, 1, 0, 0, 0, 0), (19, .iinc 3 1, 3, 0, 0, 0, 0), (22, .goto (-18), 3, 0, 0, 0, 0), (25, .iload_n 2, 1, 0, 0, 0, 0), (26, .ireturn, 1, 0, 0, 0, 0)]
set_option maxRecDepth 100000 in
set_option maxHeartbeats 4000000 in
theorem c_X2_chooseTwice (l : Launch) (G : vg_G) (hp : vg_Hp G) : vg_Ct l G vg_sh r_X2_chooseTwice := by
  refine vg_meth hp vg_sh_ok r_X2_chooseTwice k_X2_chooseTwice rfl (fun h => by cases h) o_X2_chooseTwice [r_X2_mostDue] false (by decide +kernel) (by decide +kernel) ⟨_, _, rfl, rfl⟩ (List.forall_mem_cons.mpr ⟨⟨c_X2_mostDue l G hp, Nat.le_of_ble_eq_true rfl, Nat.le_of_ble_eq_true rfl⟩, fun _ h => absurd h List.not_mem_nil⟩) (fun h => by cases h) 600 ?_
  intro as s0 hpre
  obtain ⟨r, a1, rfl, hr, i0⟩ := hpre
  have ra1 := vg_rng a1
  simp only [List.mem_cons, List.not_mem_nil, or_false] at hr
  rcases hr with rfl | rfl
  ·
    have z0 : (Int32.ofInt 0).toInt = 0 := by decide
    have z1 : (Int32.ofInt 1).toInt = 1 := by decide
    refine ⟨Nat.le_of_ble_eq_true rfl, [(4, [true, true, true, true], (fun L t => ∃ (x2 : Int32) (x3 : Int32), L = [some (.ref 7), some (.int a1), some (.int x2), some (.int x3)] ∧ (0 : Int) ≤ x3.toInt ∧ t = s0), (fun L _ => (a1.toInt - (vg_li L 3).toInt).toNat))], ?_, List.forall_mem_cons.mpr ⟨?_, fun _ h => absurd h List.not_mem_nil⟩⟩
    ·
      exact ⟨rfl, ⟨(Int32.ofInt 0), (Int32.ofInt 0), rfl, (by omega), rfl⟩, trivial⟩
    ·
      intro L s4 hL
      obtain ⟨w1, w2, rfl, b3, q7⟩ := hL
      have q7 := q7.symm
      subst q7
      refine And.intro (fun c8 => ?_) (fun c8 => ?_)
      · have c8 : a1.toInt ≤ w2.toInt := c8
        show s0 = s0 ∧ (True)
        exact ⟨rfl, (trivial)⟩
      · have c8 : ¬ (a1.toInt ≤ w2.toInt) := c8
        refine And.intro (Nat.le_of_ble_eq_true rfl) (And.intro ⟨7, w1, rfl, by decide, i0⟩ ?_)
        intro v9 s11 h10
        have h10 : s11 = s0 ∧ (True) := h10
        have q14 := h10.1.symm
        subst q14
        intro v15 e16
        intro v17 e18
        intro v19 e20
        have b21 := vg_add e20 (by omega) (by omega)
        exact ⟨rfl, ⟨v17, v19, rfl, (by omega), rfl⟩, (by show (a1.toInt - v19.toInt).toNat < (a1.toInt - w2.toInt).toNat; omega)⟩
  ·
    have z0 : (Int32.ofInt 0).toInt = 0 := by decide
    have z1 : (Int32.ofInt 1).toInt = 1 := by decide
    refine ⟨Nat.le_of_ble_eq_true rfl, [(4, [true, true, true, true], (fun L t => ∃ (x2 : Int32) (x3 : Int32), L = [some (.ref 26), some (.int a1), some (.int x2), some (.int x3)] ∧ (0 : Int) ≤ x3.toInt ∧ t = s0), (fun L _ => (a1.toInt - (vg_li L 3).toInt).toNat))], ?_, List.forall_mem_cons.mpr ⟨?_, fun _ h => absurd h List.not_mem_nil⟩⟩
    ·
      exact ⟨rfl, ⟨(Int32.ofInt 0), (Int32.ofInt 0), rfl, (by omega), rfl⟩, trivial⟩
    ·
      intro L s4 hL
      obtain ⟨w1, w2, rfl, b3, q7⟩ := hL
      have q7 := q7.symm
      subst q7
      refine And.intro (fun c8 => ?_) (fun c8 => ?_)
      · have c8 : a1.toInt ≤ w2.toInt := c8
        show s0 = s0 ∧ (True)
        exact ⟨rfl, (trivial)⟩
      · have c8 : ¬ (a1.toInt ≤ w2.toInt) := c8
        refine And.intro (Nat.le_of_ble_eq_true rfl) (And.intro ⟨26, w1, rfl, by decide, i0⟩ ?_)
        intro v9 s11 h10
        have h10 : s11 = s0 ∧ (True) := h10
        have q14 := h10.1.symm
        subst q14
        intro v15 e16
        intro v17 e18
        intro v19 e20
        have b21 := vg_add e20 (by omega) (by omega)
        exact ⟨rfl, ⟨v17, v19, rfl, (by omega), rfl⟩, (by show (a1.toInt - v19.toInt).toNat < (a1.toInt - w2.toInt).toNat; omega)⟩
def o_X2_choose : List vg_I := [(0, .aload_n 0, 1, 0, 0, 0, 0), (1, .getfield 50, 3, 241, 2, 1, 0), (4, .lookupswitch 40 #[(1, 28), (2, 34)], 28, 0, 0, 0, 0), (32, .aload_n 0, 1, 0, 0, 0, 0), (33, .iload_n 1, 1, 0, 0, 0, 0), (34, .invokevirtual 93, 3, 0, 2, 1, 729), (37, .ireturn, 1, 0, 0, 0, 0), (38, .aload_n 0, 1, 0, 0, 0, 0), (39, .iload_n 1, 1, 0, 0, 0, 0), (40, .invokevirtual 96, 3, 1, 2, 1, 733), (43, .ireturn, 1, 0, 0, 0, 0), (44, .iconst 1, 1, 0, 0, 0, 0), (45, .iload_n 1, 1, 0, 0, 0, 0), (46, .ishl, 1, 0, 0, 0, 0), (47, .iconst 1, 1, 0, 0, 0, 0), (48, .isub, 1, 0, 0, 0, 0), (49, .ireturn, 1, 0, 0, 0, 0)]
set_option maxRecDepth 100000 in
set_option maxHeartbeats 4000000 in
theorem c_X2_choose (l : Launch) (G : vg_G) (hp : vg_Hp G) : vg_Ct l G vg_sh r_X2_choose := by
  refine vg_meth hp vg_sh_ok r_X2_choose k_X2_choose rfl (fun h => by cases h) o_X2_choose [r_X2_chooseRotated, r_X2_chooseTwice] false (by decide +kernel) (by decide +kernel) ⟨_, _, rfl, rfl⟩ (List.forall_mem_cons.mpr ⟨⟨c_X2_chooseRotated l G hp, Nat.le_of_ble_eq_true rfl, Nat.le_of_ble_eq_true rfl⟩, List.forall_mem_cons.mpr ⟨⟨c_X2_chooseTwice l G hp, Nat.le_of_ble_eq_true rfl, Nat.le_of_ble_eq_true rfl⟩, fun _ h => absurd h List.not_mem_nil⟩⟩) (fun h => by cases h) 600 ?_
  intro as s0 hpre
  obtain ⟨r, a1, rfl, hr, i0⟩ := hpre
  simp only [List.mem_cons, List.not_mem_nil, or_false] at hr
  rcases hr with rfl | rfl
  ·
    have z1 : (Int32.ofInt 1).toInt = 1 := by decide
    refine ⟨Nat.le_of_ble_eq_true rfl, [], ?_, fun _ h => absurd h List.not_mem_nil⟩
    ·
      intro v1 e2
      have g3 : s0.1 7 1 = v1 := by rw [e2]
      refine And.intro (fun c4 => ?_) (fun c4 => ?_)
      · have c4 : v1.toInt = (1) := c4
        refine And.intro (Nat.le_of_ble_eq_true rfl) (And.intro ⟨7, a1, rfl, by decide, i0⟩ ?_)
        intro v5 s7 h6
        have h6 : s7 = s0 ∧ (True) := h6
        have q10 := h6.1.symm
        subst q10
        show s0 = s0 ∧ (True)
        exact ⟨rfl, (trivial)⟩
      have c4 : ¬ (v1.toInt = (1)) := c4
      refine And.intro (fun c11 => ?_) (fun c11 => ?_)
      · have c11 : v1.toInt = (2) := c11
        refine And.intro (Nat.le_of_ble_eq_true rfl) (And.intro ⟨7, a1, rfl, by decide, i0⟩ ?_)
        intro v12 s14 h13
        have h13 : s14 = s0 ∧ (True) := h13
        have q17 := h13.1.symm
        subst q17
        show s0 = s0 ∧ (True)
        exact ⟨rfl, (trivial)⟩
      have c11 : ¬ (v1.toInt = (2)) := c11
      intro v18 e19
      intro v20 e21
      show s0 = s0 ∧ (True)
      exact ⟨rfl, (trivial)⟩
  ·
    have z1 : (Int32.ofInt 1).toInt = 1 := by decide
    refine ⟨Nat.le_of_ble_eq_true rfl, [], ?_, fun _ h => absurd h List.not_mem_nil⟩
    ·
      intro v1 e2
      have g3 : s0.1 26 1 = v1 := by rw [e2]
      refine And.intro (fun c4 => ?_) (fun c4 => ?_)
      · have c4 : v1.toInt = (1) := c4
        refine And.intro (Nat.le_of_ble_eq_true rfl) (And.intro ⟨26, a1, rfl, by decide, i0⟩ ?_)
        intro v5 s7 h6
        have h6 : s7 = s0 ∧ (True) := h6
        have q10 := h6.1.symm
        subst q10
        show s0 = s0 ∧ (True)
        exact ⟨rfl, (trivial)⟩
      have c4 : ¬ (v1.toInt = (1)) := c4
      refine And.intro (fun c11 => ?_) (fun c11 => ?_)
      · have c11 : v1.toInt = (2) := c11
        refine And.intro (Nat.le_of_ble_eq_true rfl) (And.intro ⟨26, a1, rfl, by decide, i0⟩ ?_)
        intro v12 s14 h13
        have h13 : s14 = s0 ∧ (True) := h13
        have q17 := h13.1.symm
        subst q17
        show s0 = s0 ∧ (True)
        exact ⟨rfl, (trivial)⟩
      have c11 : ¬ (v1.toInt = (2)) := c11
      intro v18 e19
      intro v20 e21
      show s0 = s0 ∧ (True)
      exact ⟨rfl, (trivial)⟩
def o_X2_runUpDebts : List vg_I := [(0, .iconst 0, 1, 0, 0, 0, 0), (1, .istore_n 2, 1, 0, 0, 0, 0), (2, .iload_n 2, 1, 0, 0, 0, 0), (3, .aload_n 0, 1, 0, 0, 0, 0), (4, .getfield 9, 3, 239, 2, 0, 0), (7, .if_icmp .ge 75, 3, 0, 0, 0, 0), (10, .aload_n 0, 1, 0, 0, 0, 0), (11, .getfield 31, 3, 245, 2, 3, 0), (14, .iload_n 2, 1, 0, 0, 0, 0), (15, .ishr, 1, 0, 0, 0, 0), (16, .iconst 1, 1, 0, 0, 0, 0), (17, .iand, 1, 0, 0, 0, 0), (18, .iconst 1, 1, 0, 0, 0, 0), (19, .if_icmp .ne 10, 3, 0, 0, 0, 0), (22, .aload_n 0, 1, 0, 0, 0, 0), (23, .getfield 9, 3, 239, 2, 0, 0), (26, .goto 4, 3, 0, 0, 0, 0), (29, .iconst 0, 1, 0, 0, 0, 0), (30, .istore_n 3, 1, 0, 0, 0, 0), (31, .aload_n 0, 1, 0, 0, 0, 0), (32, .getfield 22, 3, 251, 2, 6, 0), (35, .iload_n 2, 1, 0, 0, 0, 0), (36, .aload_n 0, 1, 0, 0, 0, 0), (37, .getfield 22, 3, 251, 2, 6, 0), (40, .iload_n 2, 1, 0, 0, 0, 0), (41, .iaload, 1, 0, 0, 0, 0), (42, .iload_n 1, 1, 0, 0, 0, 0), (43, .iadd, 1, 0, 0, 0, 0), (44, .iload_n 3, 1, 0, 0, 0, 0), (45, .isub, 1, 0, 0, 0, 0), (46, .ldc 102, 2, 745, 0, 0, 1000000), (48, .invokestatic 103, 3, 0, 2, 2, 3), (51, .iastore, 1, 0, 0, 0, 0), (52, .aload_n 0, 1, 0, 0, 0, 0), (53, .getfield 25, 3, 253, 2, 7, 0), (56, .iload_n 2, 1, 0, 0, 0, 0), (57, .aload_n 0, 1, 0, 0, 0, 0), (58, .getfield 25, 3, 253, 2, 7, 0), (61, .iload_n 2, 1, 0, 0, 0, 0), (62, .iaload, 1, 0, 0, 0, 0), (63, .aload_n 0, 1, 0, 0, 0, 0), (64, .getfield 22, 3, 251, 2, 6, 0), (67, .iload_n 2, 1, 0, 0, 0, 0), (68, .iaload, 1, 0, 0, 0, 0), (69, .iadd, 1, 0, 0, 0, 0), (70, .ldc 102, 2, 745, 0, 0, 1000000), (72, .invokestatic 103, 3, 0, 2, 2, 3), (75, .iastore, 1, 0, 0, 0, 0), (76, .iinc 2 1, 3, 0, 0, 0, 0), (79, .goto (-77), 3, 0, 0, 0, 0), (82, .return_, 1, 0, 0, 0, 0)]
set_option maxRecDepth 100000 in
set_option maxHeartbeats 4000000 in
theorem c_X2_runUpDebts (l : Launch) (G : vg_G) (hp : vg_Hp G) : vg_Ct l G vg_sh r_X2_runUpDebts := by
  refine vg_meth hp vg_sh_ok r_X2_runUpDebts k_X2_runUpDebts rfl (fun h => by cases h) o_X2_runUpDebts [r_X10_putTo] false (by decide +kernel) (by decide +kernel) ⟨_, _, rfl, rfl⟩ (List.forall_mem_cons.mpr ⟨⟨c_X10_putTo l G hp, Nat.le_of_ble_eq_true rfl, Nat.le_of_ble_eq_true rfl⟩, fun _ h => absurd h List.not_mem_nil⟩) (fun h => by cases h) 600 ?_
  intro as s0 hpre
  obtain ⟨r, a1, rfl, hr, i0⟩ := hpre
  simp only [List.mem_cons, List.not_mem_nil, or_false] at hr
  rcases hr with rfl | rfl
  ·
    have z0 : (Int32.ofInt 0).toInt = 0 := by decide
    have z1 : (Int32.ofInt 1).toInt = 1 := by decide
    have z1000000 : (Int32.ofInt 1000000).toInt = 1000000 := by decide
    refine ⟨Nat.le_of_ble_eq_true rfl, [(2, [true, true, true, false], (fun L t => ∃ (x2 : Int32), L = [some (.ref 7), some (.int a1), some (.int x2), none] ∧ (0 : Int) ≤ x2.toInt ∧ x2.toInt ≤ (16 : Int) ∧ Iv t ∧ Kp s0 t), (fun L _ => (0 + (16 - (vg_li L 2).toInt) * 1000000000000).toNat))], ?_, List.forall_mem_cons.mpr ⟨?_, fun _ h => absurd h List.not_mem_nil⟩⟩
    ·
      exact ⟨rfl, ⟨(Int32.ofInt 0), rfl, (by omega), (by omega), i0, Kx.rf⟩, trivial⟩
    ·
      intro L s4 hL
      obtain ⟨w1, rfl, b2, b3, i5, k6⟩ := hL
      intro v7 e8
      have g9 : s4.1 7 0 = v7 := by rw [e8]
      have b10 : (1 : Int) ≤ v7.toInt ∧ v7.toInt ≤ 16 := by rw [e8]; exact Iv_7_0 i5
      refine And.intro (fun c11 => ?_) (fun c11 => ?_)
      · have c11 : v7.toInt ≤ w1.toInt := c11
        show Iv s4 ∧ Kp s0 s4 ∧ (True)
        exact ⟨i5, k6, (trivial)⟩
      · have c11 : ¬ (v7.toInt ≤ w1.toInt) := c11
        intro v12 e13
        have g14 : s4.1 7 3 = v12 := by rw [e13]
        intro v15 e16
        intro v17 e18
        have b19 := vg_and e18 (by omega)
        refine And.intro (fun c20 => ?_) (fun c20 => ?_)
        · have c20 : ¬ v17.toInt = (Int32.ofInt 1).toInt := c20
          refine And.intro ⟨by omega, by omega⟩ ?_
          intro v21 e22
          intro v23 e24
          intro v25 e26
          refine And.intro (Nat.le_of_ble_eq_true rfl) (And.intro ⟨v25, (Int32.ofInt 1000000), rfl, trivial⟩ ?_)
          intro v27 s29 h28
          have h28 : s29 = s4 ∧ (True) := h28
          have q32 := h28.1.symm
          subst q32
          refine And.intro ⟨by omega, by omega⟩ ?_
          intro s33 e34
          have i35 : Iv s33 := Iv.a1 i5 e34 rfl
          have k36 : Kp s0 s33 := Kx.u1 k6 e34 rfl
          refine And.intro ⟨by omega, by omega⟩ ?_
          intro v37 e38
          refine And.intro ⟨by omega, by omega⟩ ?_
          intro v39 e40
          intro v41 e42
          refine And.intro (Nat.le_of_ble_eq_true rfl) (And.intro ⟨v41, (Int32.ofInt 1000000), rfl, trivial⟩ ?_)
          intro v43 s45 h44
          have h44 : s45 = s33 ∧ (True) := h44
          have q48 := h44.1.symm
          subst q48
          refine And.intro ⟨by omega, by omega⟩ ?_
          intro s49 e50
          have i51 : Iv s49 := Iv.a1 i35 e50 rfl
          have k52 : Kp s0 s49 := Kx.u1 k36 e50 rfl
          intro v53 e54
          have b55 := vg_add e54 (by omega) (by omega)
          exact ⟨rfl, ⟨v53, rfl, (by omega), (by omega), i51, k52⟩, (by show (0 + (16 - v53.toInt) * 1000000000000).toNat < (0 + (16 - w1.toInt) * 1000000000000).toNat; omega)⟩
        · have c20 : ¬ (¬ v17.toInt = (Int32.ofInt 1).toInt) := c20
          intro v56 e57
          have w58 : v7 = v56 := by rw [e57, g9]
          subst w58
          refine And.intro ⟨by omega, by omega⟩ ?_
          intro v59 e60
          intro v61 e62
          intro v63 e64
          refine And.intro (Nat.le_of_ble_eq_true rfl) (And.intro ⟨v63, (Int32.ofInt 1000000), rfl, trivial⟩ ?_)
          intro v65 s67 h66
          have h66 : s67 = s4 ∧ (True) := h66
          have q70 := h66.1.symm
          subst q70
          refine And.intro ⟨by omega, by omega⟩ ?_
          intro s71 e72
          have i73 : Iv s71 := Iv.a1 i5 e72 rfl
          have k74 : Kp s0 s71 := Kx.u1 k6 e72 rfl
          refine And.intro ⟨by omega, by omega⟩ ?_
          intro v75 e76
          refine And.intro ⟨by omega, by omega⟩ ?_
          intro v77 e78
          intro v79 e80
          refine And.intro (Nat.le_of_ble_eq_true rfl) (And.intro ⟨v79, (Int32.ofInt 1000000), rfl, trivial⟩ ?_)
          intro v81 s83 h82
          have h82 : s83 = s71 ∧ (True) := h82
          have q86 := h82.1.symm
          subst q86
          refine And.intro ⟨by omega, by omega⟩ ?_
          intro s87 e88
          have i89 : Iv s87 := Iv.a1 i73 e88 rfl
          have k90 : Kp s0 s87 := Kx.u1 k74 e88 rfl
          intro v91 e92
          have b93 := vg_add e92 (by omega) (by omega)
          exact ⟨rfl, ⟨v91, rfl, (by omega), (by omega), i89, k90⟩, (by show (0 + (16 - v91.toInt) * 1000000000000).toNat < (0 + (16 - w1.toInt) * 1000000000000).toNat; omega)⟩
  ·
    have z0 : (Int32.ofInt 0).toInt = 0 := by decide
    have z1 : (Int32.ofInt 1).toInt = 1 := by decide
    have z1000000 : (Int32.ofInt 1000000).toInt = 1000000 := by decide
    refine ⟨Nat.le_of_ble_eq_true rfl, [(2, [true, true, true, false], (fun L t => ∃ (x2 : Int32), L = [some (.ref 26), some (.int a1), some (.int x2), none] ∧ (0 : Int) ≤ x2.toInt ∧ x2.toInt ≤ (16 : Int) ∧ Iv t ∧ Kp s0 t), (fun L _ => (0 + (16 - (vg_li L 2).toInt) * 1000000000000).toNat))], ?_, List.forall_mem_cons.mpr ⟨?_, fun _ h => absurd h List.not_mem_nil⟩⟩
    ·
      exact ⟨rfl, ⟨(Int32.ofInt 0), rfl, (by omega), (by omega), i0, Kx.rf⟩, trivial⟩
    ·
      intro L s4 hL
      obtain ⟨w1, rfl, b2, b3, i5, k6⟩ := hL
      intro v7 e8
      have g9 : s4.1 26 0 = v7 := by rw [e8]
      have b10 : (1 : Int) ≤ v7.toInt ∧ v7.toInt ≤ 16 := by rw [e8]; exact Iv_26_0 i5
      refine And.intro (fun c11 => ?_) (fun c11 => ?_)
      · have c11 : v7.toInt ≤ w1.toInt := c11
        show Iv s4 ∧ Kp s0 s4 ∧ (True)
        exact ⟨i5, k6, (trivial)⟩
      · have c11 : ¬ (v7.toInt ≤ w1.toInt) := c11
        intro v12 e13
        have g14 : s4.1 26 3 = v12 := by rw [e13]
        intro v15 e16
        intro v17 e18
        have b19 := vg_and e18 (by omega)
        refine And.intro (fun c20 => ?_) (fun c20 => ?_)
        · have c20 : ¬ v17.toInt = (Int32.ofInt 1).toInt := c20
          refine And.intro ⟨by omega, by omega⟩ ?_
          intro v21 e22
          intro v23 e24
          intro v25 e26
          refine And.intro (Nat.le_of_ble_eq_true rfl) (And.intro ⟨v25, (Int32.ofInt 1000000), rfl, trivial⟩ ?_)
          intro v27 s29 h28
          have h28 : s29 = s4 ∧ (True) := h28
          have q32 := h28.1.symm
          subst q32
          refine And.intro ⟨by omega, by omega⟩ ?_
          intro s33 e34
          have i35 : Iv s33 := Iv.a1 i5 e34 rfl
          have k36 : Kp s0 s33 := Kx.u1 k6 e34 rfl
          refine And.intro ⟨by omega, by omega⟩ ?_
          intro v37 e38
          refine And.intro ⟨by omega, by omega⟩ ?_
          intro v39 e40
          intro v41 e42
          refine And.intro (Nat.le_of_ble_eq_true rfl) (And.intro ⟨v41, (Int32.ofInt 1000000), rfl, trivial⟩ ?_)
          intro v43 s45 h44
          have h44 : s45 = s33 ∧ (True) := h44
          have q48 := h44.1.symm
          subst q48
          refine And.intro ⟨by omega, by omega⟩ ?_
          intro s49 e50
          have i51 : Iv s49 := Iv.a1 i35 e50 rfl
          have k52 : Kp s0 s49 := Kx.u1 k36 e50 rfl
          intro v53 e54
          have b55 := vg_add e54 (by omega) (by omega)
          exact ⟨rfl, ⟨v53, rfl, (by omega), (by omega), i51, k52⟩, (by show (0 + (16 - v53.toInt) * 1000000000000).toNat < (0 + (16 - w1.toInt) * 1000000000000).toNat; omega)⟩
        · have c20 : ¬ (¬ v17.toInt = (Int32.ofInt 1).toInt) := c20
          intro v56 e57
          have w58 : v7 = v56 := by rw [e57, g9]
          subst w58
          refine And.intro ⟨by omega, by omega⟩ ?_
          intro v59 e60
          intro v61 e62
          intro v63 e64
          refine And.intro (Nat.le_of_ble_eq_true rfl) (And.intro ⟨v63, (Int32.ofInt 1000000), rfl, trivial⟩ ?_)
          intro v65 s67 h66
          have h66 : s67 = s4 ∧ (True) := h66
          have q70 := h66.1.symm
          subst q70
          refine And.intro ⟨by omega, by omega⟩ ?_
          intro s71 e72
          have i73 : Iv s71 := Iv.a1 i5 e72 rfl
          have k74 : Kp s0 s71 := Kx.u1 k6 e72 rfl
          refine And.intro ⟨by omega, by omega⟩ ?_
          intro v75 e76
          refine And.intro ⟨by omega, by omega⟩ ?_
          intro v77 e78
          intro v79 e80
          refine And.intro (Nat.le_of_ble_eq_true rfl) (And.intro ⟨v79, (Int32.ofInt 1000000), rfl, trivial⟩ ?_)
          intro v81 s83 h82
          have h82 : s83 = s71 ∧ (True) := h82
          have q86 := h82.1.symm
          subst q86
          refine And.intro ⟨by omega, by omega⟩ ?_
          intro s87 e88
          have i89 : Iv s87 := Iv.a1 i73 e88 rfl
          have k90 : Kp s0 s87 := Kx.u1 k74 e88 rfl
          intro v91 e92
          have b93 := vg_add e92 (by omega) (by omega)
          exact ⟨rfl, ⟨v91, rfl, (by omega), (by omega), i89, k90⟩, (by show (0 + (16 - v91.toInt) * 1000000000000).toNat < (0 + (16 - w1.toInt) * 1000000000000).toNat; omega)⟩
def o_X2_take : List vg_I := [(0, .aload_n 0, 1, 0, 0, 0, 0), (1, .aload_n 0, 1, 0, 0, 0, 0), (2, .iload_n 1, 1, 0, 0, 0, 0), (3, .invokevirtual 75, 3, 0, 2, 1, 725), (6, .putfield 31, 3, 245, 2, 3, 0), (9, .iconst 0, 1, 0, 0, 0, 0), (10, .istore_n 2, 1, 0, 0, 0, 0), (11, .iload_n 2, 1, 0, 0, 0, 0), (12, .aload_n 0, 1, 0, 0, 0, 0), (13, .getfield 9, 3, 239, 2, 0, 0), (16, .if_icmp .ge 26, 3, 0, 0, 0, 0), (19, .aload_n 0, 1, 0, 0, 0, 0), (20, .getfield 19, 3, 249, 2, 5, 0), (23, .iload_n 2, 1, 0, 0, 0, 0), (24, .dup2, 1, 0, 0, 0, 0), (25, .iaload, 1, 0, 0, 0, 0), (26, .aload_n 0, 1, 0, 0, 0, 0), (27, .getfield 31, 3, 245, 2, 3, 0), (30, .iload_n 2, 1, 0, 0, 0, 0), (31, .ishr, 1, 0, 0, 0, 0), (32, .iconst 1, 1, 0, 0, 0, 0), (33, .iand, 1, 0, 0, 0, 0), (34, .iadd, 1, 0, 0, 0, 0), (35, .iastore, 1, 0, 0, 0, 0), (36, .iinc 2 1, 3, 0, 0, 0, 0), (39, .goto (-28), 3, 0, 0, 0, 0), (42, .aload_n 0, 1, 0, 0, 0, 0), (43, .getfield 50, 3, 241, 2, 1, 0), (46, .iconst 1, 1, 0, 0, 0, 0), (47, .if_icmp .ne 18, 3, 0, 0, 0, 0), (50, .aload_n 0, 1, 0, 0, 0, 0), (51, .aload_n 0, 1, 0, 0, 0, 0), (52, .getfield 28, 3, 243, 2, 2, 0), (55, .iload_n 1, 1, 0, 0, 0, 0), (56, .iadd, 1, 0, 0, 0, 0), (57, .aload_n 0, 1, 0, 0, 0, 0), (58, .getfield 9, 3, 239, 2, 0, 0), (61, .irem, 1, 0, 0, 0, 0), (62, .putfield 28, 3, 243, 2, 2, 0), (65, .aload_n 0, 1, 0, 0, 0, 0), (66, .getfield 50, 3, 241, 2, 1, 0), (69, .iconst 2, 1, 0, 0, 0, 0), (70, .if_icmp .ne 8, 3, 0, 0, 0, 0), (73, .aload_n 0, 1, 0, 0, 0, 0), (74, .iload_n 1, 1, 0, 0, 0, 0), (75, .invokevirtual 78, 3, 1, 2, 1, 741), (78, .aload_n 0, 1, 0, 0, 0, 0), (79, .aload_n 0, 1, 0, 0, 0, 0), (80, .getfield 31, 3, 245, 2, 3, 0), (83, .invokevirtual 62, 3, 2, 2, 1, 560), (86, .istore_n 2, 1, 0, 0, 0, 0), (87, .aload_n 0, 1, 0, 0, 0, 0), (88, .dup, 1, 0, 0, 0, 0), (89, .getfield 47, 3, 259, 2, 10, 0), (92, .iload_n 2, 1, 0, 0, 0, 0), (93, .i2l, 1, 0, 0, 0, 0), (94, .ladd, 1, 0, 0, 0, 0), (95, .putfield 47, 3, 259, 2, 10, 2), (98, .aload_n 0, 1, 0, 0, 0, 0), (99, .dup, 1, 0, 0, 0, 0), (100, .getfield 40, 3, 255, 2, 8, 0), (103, .aload_n 0, 1, 0, 0, 0, 0), (104, .getfield 9, 3, 239, 2, 0, 0), (107, .i2l, 1, 0, 0, 0, 0), (108, .iload_n 2, 1, 0, 0, 0, 0), (109, .i2l, 1, 0, 0, 0, 0), (110, .lmul, 1, 0, 0, 0, 0), (111, .iload_n 1, 1, 0, 0, 0, 0), (112, .i2l, 1, 0, 0, 0, 0), (113, .aload_n 0, 1, 0, 0, 0, 0), (114, .invokevirtual 82, 3, 3, 2, 0, 747), (117, .i2l, 1, 0, 0, 0, 0), (118, .lmul, 1, 0, 0, 0, 0), (119, .lsub, 1, 0, 0, 0, 0), (120, .ladd, 1, 0, 0, 0, 0), (121, .putfield 40, 3, 255, 2, 8, 2), (124, .aload_n 0, 1, 0, 0, 0, 0), (125, .aload_n 0, 1, 0, 0, 0, 0), (126, .getfield 44, 3, 257, 2, 9, 0), (129, .aload_n 0, 1, 0, 0, 0, 0), (130, .getfield 40, 3, 255, 2, 8, 0), (133, .invokestatic 86, 3, 4, 1, 1, 748), (136, .invokestatic 90, 3, 5, 1, 2, 749), (139, .putfield 44, 3, 257, 2, 9, 2), (142, .iload_n 2, 1, 0, 0, 0, 0), (143, .ireturn, 1, 0, 0, 0, 0)]
set_option maxRecDepth 100000 in
set_option maxHeartbeats 4000000 in
theorem c_X2_take (l : Launch) (G : vg_G) (hp : vg_Hp G) : vg_Ct l G vg_sh r_X2_take := by
  refine vg_meth hp vg_sh_ok r_X2_take k_X2_take rfl (fun h => by cases h) o_X2_take [r_X2_choose, r_X2_runUpDebts, r_X2_weightsOf, r_X2_allWeights, r_J9_abs_067f4, r_J9_max_f86c9] false (by decide +kernel) (by decide +kernel) ⟨_, _, rfl, rfl⟩ (List.forall_mem_cons.mpr ⟨⟨c_X2_choose l G hp, Nat.le_of_ble_eq_true rfl, Nat.le_of_ble_eq_true rfl⟩, List.forall_mem_cons.mpr ⟨⟨c_X2_runUpDebts l G hp, Nat.le_of_ble_eq_true rfl, Nat.le_of_ble_eq_true rfl⟩, List.forall_mem_cons.mpr ⟨⟨c_X2_weightsOf l G hp, Nat.le_of_ble_eq_true rfl, Nat.le_of_ble_eq_true rfl⟩, List.forall_mem_cons.mpr ⟨⟨c_X2_allWeights l G hp, Nat.le_of_ble_eq_true rfl, Nat.le_of_ble_eq_true rfl⟩, List.forall_mem_cons.mpr ⟨⟨c_J9_abs_067f4 l G hp, Nat.le_of_ble_eq_true rfl, Nat.le_of_ble_eq_true rfl⟩, List.forall_mem_cons.mpr ⟨⟨c_J9_max_f86c9 l G hp, Nat.le_of_ble_eq_true rfl, Nat.le_of_ble_eq_true rfl⟩, fun _ h => absurd h List.not_mem_nil⟩⟩⟩⟩⟩⟩) (fun h => by cases h) 600 ?_
  intro as s0 hpre
  obtain ⟨r, a1, rfl, hr, i0⟩ := hpre
  simp only [List.mem_cons, List.not_mem_nil, or_false] at hr
  rcases hr with rfl | rfl
  ·
    have z0 : (Int32.ofInt 0).toInt = 0 := by decide
    have z1 : (Int32.ofInt 1).toInt = 1 := by decide
    have z2 : (Int32.ofInt 2).toInt = 2 := by decide
    refine ⟨Nat.le_of_ble_eq_true rfl, [(11, [true, true, true], (fun L t => ∃ (x2 : Int32), L = [some (.ref 7), some (.int a1), some (.int x2)] ∧ (0 : Int) ≤ x2.toInt ∧ x2.toInt ≤ (16 : Int) ∧ Iv t ∧ Kp s0 t), (fun L _ => (0 + (16 - (vg_li L 2).toInt) * 1000000000000).toNat))], ?_, List.forall_mem_cons.mpr ⟨?_, fun _ h => absurd h List.not_mem_nil⟩⟩
    ·
      refine And.intro (Nat.le_of_ble_eq_true rfl) (And.intro ⟨7, a1, rfl, by decide, i0⟩ ?_)
      intro v1 s3 h2
      have h2 : s3 = s0 ∧ (True) := h2
      have q6 := h2.1.symm
      subst q6
      intro s7 e8
      have i9 : Iv s7 := Iv.u1 i0 e8 rfl
      have k10 : Kp s0 s7 := Kx.u1 Kx.rf e8 rfl
      exact ⟨rfl, ⟨(Int32.ofInt 0), rfl, (by omega), (by omega), i9, k10⟩, trivial⟩
    ·
      intro L s14 hL
      obtain ⟨w11, rfl, b12, b13, i15, k16⟩ := hL
      intro v17 e18
      have g19 : s14.1 7 0 = v17 := by rw [e18]
      have b20 : (1 : Int) ≤ v17.toInt ∧ v17.toInt ≤ 16 := by rw [e18]; exact Iv_7_0 i15
      refine And.intro (fun c21 => ?_) (fun c21 => ?_)
      · have c21 : v17.toInt ≤ w11.toInt := c21
        intro v22 e23
        have g24 : s14.1 7 1 = v22 := by rw [e23]
        refine And.intro (fun c25 => ?_) (fun c25 => ?_)
        · have c25 : ¬ v22.toInt = (Int32.ofInt 1).toInt := c25
          intro v26 e27
          have w28 : v22 = v26 := by rw [e27, g24]
          subst w28
          refine And.intro (fun c29 => ?_) (fun c29 => ?_)
          · have c29 : ¬ v22.toInt = (Int32.ofInt 2).toInt := c29
            intro v30 e31
            have g32 : s14.1 7 3 = v30 := by rw [e31]
            refine And.intro (Nat.le_of_ble_eq_true rfl) (And.intro ⟨7, v30, rfl, by decide, i15⟩ ?_)
            intro v33 s35 h34
            have h34 : s35 = s14 ∧ ((∀ i : Int32, 0 ≤ i.toInt → i.toInt < (s14.1 7 0).toInt → ((v30 >>> (i &&& (31 : Int32))) &&& Int32.ofInt 1).toInt = (Int32.ofInt 1).toInt) → v33 = vg_ws (s14.1 8) (s14.1 7 0).toNatClampNeg) := h34
            have q38 := h34.1.symm
            subst q38
            have q39 := h34.2
            intro v40 e41
            intro v42 e43
            intro v44 e45
            intro s46 e47
            have i48 : Iv s46 := Iv.u2 i15 e47
            have k49 : Kp s0 s46 := Kx.u2 k16 e47 (vg_kq_no ⟨rfl, rfl, rfl⟩).1
            intro v50 e51
            intro v52 e53
            have w54 : v17 = v52 := by rw [e53, e47, vg_u2_1, g19]
            subst w54
            intro v55 e56
            have b57 := vg_i2l e56
            intro v58 e59
            intro v60 e61
            intro v62 e63
            refine And.intro (Nat.le_of_ble_eq_true rfl) (And.intro ⟨7, rfl, by decide, i48⟩ ?_)
            intro v64 s66 h65
            have h65 : s66 = s46 ∧ (v64 = vg_ws (s46.1 8) (s46.1 7 0).toNatClampNeg) := h65
            have q69 := h65.1.symm
            subst q69
            have q70 := h65.2
            intro v71 e72
            intro v73 e74
            intro v75 e76
            intro v77 e78
            intro s79 e80
            have i81 : Iv s79 := Iv.u2 i48 e80
            have k82 : Kp s0 s79 := Kx.u2 k49 e80 (vg_kq_no ⟨rfl, rfl, rfl⟩).1
            intro v83 e84
            intro v85 e86
            refine And.intro (Nat.le_of_ble_eq_true rfl) (And.intro ⟨v85, rfl, trivial⟩ ?_)
            intro v87 s89 h88
            have h88 : s89 = s79 ∧ (True) := h88
            have q92 := h88.1.symm
            subst q92
            refine And.intro (Nat.le_of_ble_eq_true rfl) (And.intro ⟨v83, v87, rfl, trivial⟩ ?_)
            intro v93 s95 h94
            have h94 : s95 = s79 ∧ (True) := h94
            have q98 := h94.1.symm
            subst q98
            intro s99 e100
            have i101 : Iv s99 := Iv.u2 i81 e100
            have k102 : Kp s0 s99 := Kx.u2 k82 e100 (vg_kq_no ⟨rfl, rfl, rfl⟩).1
            show Iv s99 ∧ Kp s0 s99 ∧ (True)
            exact ⟨i101, k102, (trivial)⟩
          · have c29 : ¬ (¬ v22.toInt = (Int32.ofInt 2).toInt) := c29
            refine And.intro (Nat.le_of_ble_eq_true rfl) (And.intro ⟨7, a1, rfl, by decide, i15⟩ ?_)
            intro s104 h103
            have h103 : Iv s104 ∧ Kp s14 s104 ∧ (True) := h103
            have i105 := h103.1
            have k106 : Kp s0 s104 := Kx.tr k16 (h103.2.1)
            intro v107 e108
            have g109 : s104.1 7 3 = v107 := by rw [e108]
            refine And.intro (Nat.le_of_ble_eq_true rfl) (And.intro ⟨7, v107, rfl, by decide, i105⟩ ?_)
            intro v110 s112 h111
            have h111 : s112 = s104 ∧ ((∀ i : Int32, 0 ≤ i.toInt → i.toInt < (s104.1 7 0).toInt → ((v107 >>> (i &&& (31 : Int32))) &&& Int32.ofInt 1).toInt = (Int32.ofInt 1).toInt) → v110 = vg_ws (s104.1 8) (s104.1 7 0).toNatClampNeg) := h111
            have q115 := h111.1.symm
            subst q115
            have q116 := h111.2
            intro v117 e118
            intro v119 e120
            intro v121 e122
            intro s123 e124
            have i125 : Iv s123 := Iv.u2 i105 e124
            have k126 : Kp s0 s123 := Kx.u2 k106 e124 (vg_kq_no ⟨rfl, rfl, rfl⟩).1
            intro v127 e128
            intro v129 e130
            have g131 : s104.1 7 0 = v129 := by rw [e130, e124, vg_u2_1]
            have b132 : (1 : Int) ≤ v129.toInt ∧ v129.toInt ≤ 16 := by rw [e130]; exact Iv_7_0 i125
            intro v133 e134
            have b135 := vg_i2l e134
            intro v136 e137
            intro v138 e139
            intro v140 e141
            refine And.intro (Nat.le_of_ble_eq_true rfl) (And.intro ⟨7, rfl, by decide, i125⟩ ?_)
            intro v142 s144 h143
            have h143 : s144 = s123 ∧ (v142 = vg_ws (s123.1 8) (s123.1 7 0).toNatClampNeg) := h143
            have q147 := h143.1.symm
            subst q147
            have q148 := h143.2
            intro v149 e150
            intro v151 e152
            intro v153 e154
            intro v155 e156
            intro s157 e158
            have i159 : Iv s157 := Iv.u2 i125 e158
            have k160 : Kp s0 s157 := Kx.u2 k126 e158 (vg_kq_no ⟨rfl, rfl, rfl⟩).1
            intro v161 e162
            intro v163 e164
            refine And.intro (Nat.le_of_ble_eq_true rfl) (And.intro ⟨v163, rfl, trivial⟩ ?_)
            intro v165 s167 h166
            have h166 : s167 = s157 ∧ (True) := h166
            have q170 := h166.1.symm
            subst q170
            refine And.intro (Nat.le_of_ble_eq_true rfl) (And.intro ⟨v161, v165, rfl, trivial⟩ ?_)
            intro v171 s173 h172
            have h172 : s173 = s157 ∧ (True) := h172
            have q176 := h172.1.symm
            subst q176
            intro s177 e178
            have i179 : Iv s177 := Iv.u2 i159 e178
            have k180 : Kp s0 s177 := Kx.u2 k160 e178 (vg_kq_no ⟨rfl, rfl, rfl⟩).1
            show Iv s177 ∧ Kp s0 s177 ∧ (True)
            exact ⟨i179, k180, (trivial)⟩
        · have c25 : ¬ (¬ v22.toInt = (Int32.ofInt 1).toInt) := c25
          intro v181 e182
          have g183 : s14.1 7 2 = v181 := by rw [e182]
          intro v184 e185
          intro v186 e187
          have w188 : v17 = v186 := by rw [e187, g19]
          subst w188
          refine And.intro (by omega) ?_
          intro v189 e190
          have b191 := vg_remx e190 (by omega)
          intro s192 e193
          have i194 : Iv s192 := Iv.u1 i15 e193 rfl
          have k195 : Kp s0 s192 := Kx.u1 k16 e193 rfl
          intro v196 e197
          have w198 : v22 = v196 := by rw [e197, e193, vg_u1_at (a := 7) (b := 1) (k := 7) (i := 2) (by decide), g24]
          subst w198
          refine And.intro (fun c199 => ?_) (fun c199 => ?_)
          · have c199 : ¬ v22.toInt = (Int32.ofInt 2).toInt := c199
            intro v200 e201
            have g202 : s14.1 7 3 = v200 := by rw [e201, e193, vg_u1_at (a := 7) (b := 3) (k := 7) (i := 2) (by decide)]
            refine And.intro (Nat.le_of_ble_eq_true rfl) (And.intro ⟨7, v200, rfl, by decide, i194⟩ ?_)
            intro v203 s205 h204
            have h204 : s205 = s192 ∧ ((∀ i : Int32, 0 ≤ i.toInt → i.toInt < (s192.1 7 0).toInt → ((v200 >>> (i &&& (31 : Int32))) &&& Int32.ofInt 1).toInt = (Int32.ofInt 1).toInt) → v203 = vg_ws (s192.1 8) (s192.1 7 0).toNatClampNeg) := h204
            have q208 := h204.1.symm
            subst q208
            have q209 := h204.2
            intro v210 e211
            intro v212 e213
            intro v214 e215
            intro s216 e217
            have i218 : Iv s216 := Iv.u2 i194 e217
            have k219 : Kp s0 s216 := Kx.u2 k195 e217 (vg_kq_no ⟨rfl, rfl, rfl⟩).1
            intro v220 e221
            intro v222 e223
            have w224 : v17 = v222 := by rw [e223, e217, vg_u2_1, e193, vg_u1_at (a := 7) (b := 0) (k := 7) (i := 2) (by decide), g19]
            subst w224
            intro v225 e226
            have b227 := vg_i2l e226
            intro v228 e229
            intro v230 e231
            intro v232 e233
            refine And.intro (Nat.le_of_ble_eq_true rfl) (And.intro ⟨7, rfl, by decide, i218⟩ ?_)
            intro v234 s236 h235
            have h235 : s236 = s216 ∧ (v234 = vg_ws (s216.1 8) (s216.1 7 0).toNatClampNeg) := h235
            have q239 := h235.1.symm
            subst q239
            have q240 := h235.2
            intro v241 e242
            intro v243 e244
            intro v245 e246
            intro v247 e248
            intro s249 e250
            have i251 : Iv s249 := Iv.u2 i218 e250
            have k252 : Kp s0 s249 := Kx.u2 k219 e250 (vg_kq_no ⟨rfl, rfl, rfl⟩).1
            intro v253 e254
            intro v255 e256
            refine And.intro (Nat.le_of_ble_eq_true rfl) (And.intro ⟨v255, rfl, trivial⟩ ?_)
            intro v257 s259 h258
            have h258 : s259 = s249 ∧ (True) := h258
            have q262 := h258.1.symm
            subst q262
            refine And.intro (Nat.le_of_ble_eq_true rfl) (And.intro ⟨v253, v257, rfl, trivial⟩ ?_)
            intro v263 s265 h264
            have h264 : s265 = s249 ∧ (True) := h264
            have q268 := h264.1.symm
            subst q268
            intro s269 e270
            have i271 : Iv s269 := Iv.u2 i251 e270
            have k272 : Kp s0 s269 := Kx.u2 k252 e270 (vg_kq_no ⟨rfl, rfl, rfl⟩).1
            show Iv s269 ∧ Kp s0 s269 ∧ (True)
            exact ⟨i271, k272, (trivial)⟩
          · have c199 : ¬ (¬ v22.toInt = (Int32.ofInt 2).toInt) := c199
            exfalso
            omega
      · have c21 : ¬ (v17.toInt ≤ w11.toInt) := c21
        refine And.intro ⟨by omega, by omega⟩ ?_
        intro v273 e274
        intro v275 e276
        have g277 : s14.1 7 3 = v275 := by rw [e276]
        intro v278 e279
        intro v280 e281
        have b282 := vg_and e281 (by omega)
        intro v283 e284
        refine And.intro ⟨by omega, by omega⟩ ?_
        intro s285 e286
        have i287 : Iv s285 := Iv.a1 i15 e286 rfl
        have k288 : Kp s0 s285 := Kx.u1 k16 e286 rfl
        intro v289 e290
        have b291 := vg_add e290 (by omega) (by omega)
        exact ⟨rfl, ⟨v289, rfl, (by omega), (by omega), i287, k288⟩, (by show (0 + (16 - v289.toInt) * 1000000000000).toNat < (0 + (16 - w11.toInt) * 1000000000000).toNat; omega)⟩
  ·
    have z0 : (Int32.ofInt 0).toInt = 0 := by decide
    have z1 : (Int32.ofInt 1).toInt = 1 := by decide
    have z2 : (Int32.ofInt 2).toInt = 2 := by decide
    refine ⟨Nat.le_of_ble_eq_true rfl, [(11, [true, true, true], (fun L t => ∃ (x2 : Int32), L = [some (.ref 26), some (.int a1), some (.int x2)] ∧ (0 : Int) ≤ x2.toInt ∧ x2.toInt ≤ (16 : Int) ∧ Iv t ∧ Kp s0 t), (fun L _ => (0 + (16 - (vg_li L 2).toInt) * 1000000000000).toNat))], ?_, List.forall_mem_cons.mpr ⟨?_, fun _ h => absurd h List.not_mem_nil⟩⟩
    ·
      refine And.intro (Nat.le_of_ble_eq_true rfl) (And.intro ⟨26, a1, rfl, by decide, i0⟩ ?_)
      intro v1 s3 h2
      have h2 : s3 = s0 ∧ (True) := h2
      have q6 := h2.1.symm
      subst q6
      intro s7 e8
      have i9 : Iv s7 := Iv.u1 i0 e8 rfl
      have k10 : Kp s0 s7 := Kx.u1 Kx.rf e8 rfl
      exact ⟨rfl, ⟨(Int32.ofInt 0), rfl, (by omega), (by omega), i9, k10⟩, trivial⟩
    ·
      intro L s14 hL
      obtain ⟨w11, rfl, b12, b13, i15, k16⟩ := hL
      intro v17 e18
      have g19 : s14.1 26 0 = v17 := by rw [e18]
      have b20 : (1 : Int) ≤ v17.toInt ∧ v17.toInt ≤ 16 := by rw [e18]; exact Iv_26_0 i15
      refine And.intro (fun c21 => ?_) (fun c21 => ?_)
      · have c21 : v17.toInt ≤ w11.toInt := c21
        intro v22 e23
        have g24 : s14.1 26 1 = v22 := by rw [e23]
        refine And.intro (fun c25 => ?_) (fun c25 => ?_)
        · have c25 : ¬ v22.toInt = (Int32.ofInt 1).toInt := c25
          intro v26 e27
          have w28 : v22 = v26 := by rw [e27, g24]
          subst w28
          refine And.intro (fun c29 => ?_) (fun c29 => ?_)
          · have c29 : ¬ v22.toInt = (Int32.ofInt 2).toInt := c29
            intro v30 e31
            have g32 : s14.1 26 3 = v30 := by rw [e31]
            refine And.intro (Nat.le_of_ble_eq_true rfl) (And.intro ⟨26, v30, rfl, by decide, i15⟩ ?_)
            intro v33 s35 h34
            have h34 : s35 = s14 ∧ ((∀ i : Int32, 0 ≤ i.toInt → i.toInt < (s14.1 26 0).toInt → ((v30 >>> (i &&& (31 : Int32))) &&& Int32.ofInt 1).toInt = (Int32.ofInt 1).toInt) → v33 = vg_ws (s14.1 27) (s14.1 26 0).toNatClampNeg) := h34
            have q38 := h34.1.symm
            subst q38
            have q39 := h34.2
            intro v40 e41
            intro v42 e43
            intro v44 e45
            intro s46 e47
            have i48 : Iv s46 := Iv.u2 i15 e47
            have k49 : Kp s0 s46 := Kx.u2 k16 e47 (vg_kq_no ⟨rfl, rfl, rfl⟩).1
            intro v50 e51
            intro v52 e53
            have w54 : v17 = v52 := by rw [e53, e47, vg_u2_1, g19]
            subst w54
            intro v55 e56
            have b57 := vg_i2l e56
            intro v58 e59
            intro v60 e61
            intro v62 e63
            refine And.intro (Nat.le_of_ble_eq_true rfl) (And.intro ⟨26, rfl, by decide, i48⟩ ?_)
            intro v64 s66 h65
            have h65 : s66 = s46 ∧ (v64 = vg_ws (s46.1 27) (s46.1 26 0).toNatClampNeg) := h65
            have q69 := h65.1.symm
            subst q69
            have q70 := h65.2
            intro v71 e72
            intro v73 e74
            intro v75 e76
            intro v77 e78
            intro s79 e80
            have i81 : Iv s79 := Iv.u2 i48 e80
            have k82 : Kp s0 s79 := Kx.u2 k49 e80 (vg_kq_no ⟨rfl, rfl, rfl⟩).1
            intro v83 e84
            intro v85 e86
            refine And.intro (Nat.le_of_ble_eq_true rfl) (And.intro ⟨v85, rfl, trivial⟩ ?_)
            intro v87 s89 h88
            have h88 : s89 = s79 ∧ (True) := h88
            have q92 := h88.1.symm
            subst q92
            refine And.intro (Nat.le_of_ble_eq_true rfl) (And.intro ⟨v83, v87, rfl, trivial⟩ ?_)
            intro v93 s95 h94
            have h94 : s95 = s79 ∧ (True) := h94
            have q98 := h94.1.symm
            subst q98
            intro s99 e100
            have i101 : Iv s99 := Iv.u2 i81 e100
            have k102 : Kp s0 s99 := Kx.u2 k82 e100 (vg_kq_no ⟨rfl, rfl, rfl⟩).1
            show Iv s99 ∧ Kp s0 s99 ∧ (True)
            exact ⟨i101, k102, (trivial)⟩
          · have c29 : ¬ (¬ v22.toInt = (Int32.ofInt 2).toInt) := c29
            refine And.intro (Nat.le_of_ble_eq_true rfl) (And.intro ⟨26, a1, rfl, by decide, i15⟩ ?_)
            intro s104 h103
            have h103 : Iv s104 ∧ Kp s14 s104 ∧ (True) := h103
            have i105 := h103.1
            have k106 : Kp s0 s104 := Kx.tr k16 (h103.2.1)
            intro v107 e108
            have g109 : s104.1 26 3 = v107 := by rw [e108]
            refine And.intro (Nat.le_of_ble_eq_true rfl) (And.intro ⟨26, v107, rfl, by decide, i105⟩ ?_)
            intro v110 s112 h111
            have h111 : s112 = s104 ∧ ((∀ i : Int32, 0 ≤ i.toInt → i.toInt < (s104.1 26 0).toInt → ((v107 >>> (i &&& (31 : Int32))) &&& Int32.ofInt 1).toInt = (Int32.ofInt 1).toInt) → v110 = vg_ws (s104.1 27) (s104.1 26 0).toNatClampNeg) := h111
            have q115 := h111.1.symm
            subst q115
            have q116 := h111.2
            intro v117 e118
            intro v119 e120
            intro v121 e122
            intro s123 e124
            have i125 : Iv s123 := Iv.u2 i105 e124
            have k126 : Kp s0 s123 := Kx.u2 k106 e124 (vg_kq_no ⟨rfl, rfl, rfl⟩).1
            intro v127 e128
            intro v129 e130
            have g131 : s104.1 26 0 = v129 := by rw [e130, e124, vg_u2_1]
            have b132 : (1 : Int) ≤ v129.toInt ∧ v129.toInt ≤ 16 := by rw [e130]; exact Iv_26_0 i125
            intro v133 e134
            have b135 := vg_i2l e134
            intro v136 e137
            intro v138 e139
            intro v140 e141
            refine And.intro (Nat.le_of_ble_eq_true rfl) (And.intro ⟨26, rfl, by decide, i125⟩ ?_)
            intro v142 s144 h143
            have h143 : s144 = s123 ∧ (v142 = vg_ws (s123.1 27) (s123.1 26 0).toNatClampNeg) := h143
            have q147 := h143.1.symm
            subst q147
            have q148 := h143.2
            intro v149 e150
            intro v151 e152
            intro v153 e154
            intro v155 e156
            intro s157 e158
            have i159 : Iv s157 := Iv.u2 i125 e158
            have k160 : Kp s0 s157 := Kx.u2 k126 e158 (vg_kq_no ⟨rfl, rfl, rfl⟩).1
            intro v161 e162
            intro v163 e164
            refine And.intro (Nat.le_of_ble_eq_true rfl) (And.intro ⟨v163, rfl, trivial⟩ ?_)
            intro v165 s167 h166
            have h166 : s167 = s157 ∧ (True) := h166
            have q170 := h166.1.symm
            subst q170
            refine And.intro (Nat.le_of_ble_eq_true rfl) (And.intro ⟨v161, v165, rfl, trivial⟩ ?_)
            intro v171 s173 h172
            have h172 : s173 = s157 ∧ (True) := h172
            have q176 := h172.1.symm
            subst q176
            intro s177 e178
            have i179 : Iv s177 := Iv.u2 i159 e178
            have k180 : Kp s0 s177 := Kx.u2 k160 e178 (vg_kq_no ⟨rfl, rfl, rfl⟩).1
            show Iv s177 ∧ Kp s0 s177 ∧ (True)
            exact ⟨i179, k180, (trivial)⟩
        · have c25 : ¬ (¬ v22.toInt = (Int32.ofInt 1).toInt) := c25
          intro v181 e182
          have g183 : s14.1 26 2 = v181 := by rw [e182]
          intro v184 e185
          intro v186 e187
          have w188 : v17 = v186 := by rw [e187, g19]
          subst w188
          refine And.intro (by omega) ?_
          intro v189 e190
          have b191 := vg_remx e190 (by omega)
          intro s192 e193
          have i194 : Iv s192 := Iv.u1 i15 e193 rfl
          have k195 : Kp s0 s192 := Kx.u1 k16 e193 rfl
          intro v196 e197
          have w198 : v22 = v196 := by rw [e197, e193, vg_u1_at (a := 26) (b := 1) (k := 26) (i := 2) (by decide), g24]
          subst w198
          refine And.intro (fun c199 => ?_) (fun c199 => ?_)
          · have c199 : ¬ v22.toInt = (Int32.ofInt 2).toInt := c199
            intro v200 e201
            have g202 : s14.1 26 3 = v200 := by rw [e201, e193, vg_u1_at (a := 26) (b := 3) (k := 26) (i := 2) (by decide)]
            refine And.intro (Nat.le_of_ble_eq_true rfl) (And.intro ⟨26, v200, rfl, by decide, i194⟩ ?_)
            intro v203 s205 h204
            have h204 : s205 = s192 ∧ ((∀ i : Int32, 0 ≤ i.toInt → i.toInt < (s192.1 26 0).toInt → ((v200 >>> (i &&& (31 : Int32))) &&& Int32.ofInt 1).toInt = (Int32.ofInt 1).toInt) → v203 = vg_ws (s192.1 27) (s192.1 26 0).toNatClampNeg) := h204
            have q208 := h204.1.symm
            subst q208
            have q209 := h204.2
            intro v210 e211
            intro v212 e213
            intro v214 e215
            intro s216 e217
            have i218 : Iv s216 := Iv.u2 i194 e217
            have k219 : Kp s0 s216 := Kx.u2 k195 e217 (vg_kq_no ⟨rfl, rfl, rfl⟩).1
            intro v220 e221
            intro v222 e223
            have w224 : v17 = v222 := by rw [e223, e217, vg_u2_1, e193, vg_u1_at (a := 26) (b := 0) (k := 26) (i := 2) (by decide), g19]
            subst w224
            intro v225 e226
            have b227 := vg_i2l e226
            intro v228 e229
            intro v230 e231
            intro v232 e233
            refine And.intro (Nat.le_of_ble_eq_true rfl) (And.intro ⟨26, rfl, by decide, i218⟩ ?_)
            intro v234 s236 h235
            have h235 : s236 = s216 ∧ (v234 = vg_ws (s216.1 27) (s216.1 26 0).toNatClampNeg) := h235
            have q239 := h235.1.symm
            subst q239
            have q240 := h235.2
            intro v241 e242
            intro v243 e244
            intro v245 e246
            intro v247 e248
            intro s249 e250
            have i251 : Iv s249 := Iv.u2 i218 e250
            have k252 : Kp s0 s249 := Kx.u2 k219 e250 (vg_kq_no ⟨rfl, rfl, rfl⟩).1
            intro v253 e254
            intro v255 e256
            refine And.intro (Nat.le_of_ble_eq_true rfl) (And.intro ⟨v255, rfl, trivial⟩ ?_)
            intro v257 s259 h258
            have h258 : s259 = s249 ∧ (True) := h258
            have q262 := h258.1.symm
            subst q262
            refine And.intro (Nat.le_of_ble_eq_true rfl) (And.intro ⟨v253, v257, rfl, trivial⟩ ?_)
            intro v263 s265 h264
            have h264 : s265 = s249 ∧ (True) := h264
            have q268 := h264.1.symm
            subst q268
            intro s269 e270
            have i271 : Iv s269 := Iv.u2 i251 e270
            have k272 : Kp s0 s269 := Kx.u2 k252 e270 (vg_kq_no ⟨rfl, rfl, rfl⟩).1
            show Iv s269 ∧ Kp s0 s269 ∧ (True)
            exact ⟨i271, k272, (trivial)⟩
          · have c199 : ¬ (¬ v22.toInt = (Int32.ofInt 2).toInt) := c199
            exfalso
            omega
      · have c21 : ¬ (v17.toInt ≤ w11.toInt) := c21
        refine And.intro ⟨by omega, by omega⟩ ?_
        intro v273 e274
        intro v275 e276
        have g277 : s14.1 26 3 = v275 := by rw [e276]
        intro v278 e279
        intro v280 e281
        have b282 := vg_and e281 (by omega)
        intro v283 e284
        refine And.intro ⟨by omega, by omega⟩ ?_
        intro s285 e286
        have i287 : Iv s285 := Iv.a1 i15 e286 rfl
        have k288 : Kp s0 s285 := Kx.u1 k16 e286 rfl
        intro v289 e290
        have b291 := vg_add e290 (by omega) (by omega)
        exact ⟨rfl, ⟨v289, rfl, (by omega), (by omega), i287, k288⟩, (by show (0 + (16 - v289.toInt) * 1000000000000).toNat < (0 + (16 - w11.toInt) * 1000000000000).toNat; omega)⟩
