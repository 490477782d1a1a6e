def o_X2_begin : List vg_I := [(0, .aload_n 0, 1, 0, 0, 0, 0), (1, .iconst 0, 1, 0, 0, 0, 0), (2, .putfield 28, 3, 243, 2, 2, 0), (5, .aload_n 0, 1, 0, 0, 0, 0), (6, .iconst 0, 1, 0, 0, 0, 0), (7, .putfield 31, 3, 245, 2, 3, 0), (10, .aload_n 0, 1, 0, 0, 0, 0), (11, .getfield 19, 3, 249, 2, 5, 0), (14, .iconst 0, 1, 0, 0, 0, 0), (15, .invokestatic 34, 3, 0, 1, 2, 507), (18, .aload_n 0, 1, 0, 0, 0, 0), (19, .getfield 22, 3, 251, 2, 6, 0), (22, .iconst 0, 1, 0, 0, 0, 0), (23, .invokestatic 34, 3, 0, 1, 2, 507), (26, .aload_n 0, 1, 0, 0, 0, 0), (27, .getfield 25, 3, 253, 2, 7, 0), (30, .iconst 0, 1, 0, 0, 0, 0), (31, .invokestatic 34, 3, 0, 1, 2, 507), (34, .aload_n 0, 1, 0, 0, 0, 0), (35, .lconst 0, 1, 0, 0, 0, 0), (36, .putfield 40, 3, 255, 2, 8, 2), (39, .aload_n 0, 1, 0, 0, 0, 0), (40, .lconst 0, 1, 0, 0, 0, 0), (41, .putfield 44, 3, 257, 2, 9, 2), (44, .aload_n 0, 1, 0, 0, 0, 0), (45, .lconst 0, 1, 0, 0, 0, 0), (46, .putfield 47, 3, 259, 2, 10, 2), (49, .return_, 1, 0, 0, 0, 0)]
set_option maxRecDepth 100000 in
set_option maxHeartbeats 4000000 in
theorem c_X2_begin (l : Launch) (G : vg_G) (hp : vg_Hp G) : vg_Ct l G vg_sh r_X2_begin := by
  refine vg_meth hp vg_sh_ok r_X2_begin k_X2_begin rfl (fun h => by cases h) o_X2_begin [r_J7_fill_53178] false (by decide +kernel) (by decide +kernel) ⟨_, _, rfl, rfl⟩ (List.forall_mem_cons.mpr ⟨⟨c_J7_fill_53178 l G hp, Nat.le_of_ble_eq_true rfl, Nat.le_of_ble_eq_true rfl⟩, fun _ h => absurd h List.not_mem_nil⟩) (fun h => by cases h) 600 ?_
  intro as s0 hpre
  obtain ⟨r, rfl, hr, i0⟩ := hpre
  simp only [List.mem_cons, List.not_mem_nil, or_false] at hr
  rcases hr with rfl | rfl
  ·
    have z0 : (Int32.ofInt 0).toInt = 0 := by decide
    refine ⟨Nat.le_of_ble_eq_true rfl, [], ?_, fun _ h => absurd h List.not_mem_nil⟩
    ·
      intro s1 e2
      have i3 : Iv s1 := Iv.u1 i0 e2 rfl
      have k4 : Kp s0 s1 := Kx.u1 Kx.rf e2 rfl
      have u5 : vk s1 = ((vk s0).1, (vk s0).2) := vk_k1 rfl e2 rfl
      intro s6 e7
      have i8 : Iv s6 := Iv.u1 i3 e7 rfl
      have k9 : Kp s0 s6 := Kx.u1 k4 e7 rfl
      have u10 : vk s6 = ((vk s0).1, (vk s0).2) := vk_k1 u5 e7 rfl
      refine And.intro (Nat.le_of_ble_eq_true rfl) (And.intro ⟨9, (Int32.ofInt 0), rfl, by decide, i8⟩ ?_)
      intro s12 h11
      have h11 : Iv s12 ∧ Kp s6 s12 ∧ vk s12 = ((vk s6).1, (vk s6).2) ∧ (True) := h11
      have i13 := h11.1
      have k14 : Kp s0 s12 := Kx.tr k9 (h11.2.1)
      have u15 : vk s12 = ((vk s0).1, (vk s0).2) := h11.2.2.1.trans u10
      refine And.intro (Nat.le_of_ble_eq_true rfl) (And.intro ⟨10, (Int32.ofInt 0), rfl, by decide, i13⟩ ?_)
      intro s17 h16
      have h16 : Iv s17 ∧ Kp s12 s17 ∧ vk s17 = ((vk s12).1, (vk s12).2) ∧ (True) := h16
      have i18 := h16.1
      have k19 : Kp s0 s17 := Kx.tr k14 (h16.2.1)
      have u20 : vk s17 = ((vk s0).1, (vk s0).2) := h16.2.2.1.trans u15
      refine And.intro (Nat.le_of_ble_eq_true rfl) (And.intro ⟨11, (Int32.ofInt 0), rfl, by decide, i18⟩ ?_)
      intro s22 h21
      have h21 : Iv s22 ∧ Kp s17 s22 ∧ vk s22 = ((vk s17).1, (vk s17).2) ∧ (True) := h21
      have i23 := h21.1
      have k24 : Kp s0 s22 := Kx.tr k19 (h21.2.1)
      have u25 : vk s22 = ((vk s0).1, (vk s0).2) := h21.2.2.1.trans u20
      intro s26 e27
      have i28 : Iv s26 := Iv.u2 i23 e27
      have k29 : Kp s0 s26 := Kx.u2 k24 e27 (vg_kq_no ⟨rfl, rfl, rfl⟩).1
      have u30 : vk s26 = ((vk s0).1, (vk s0).2) := vk_k2 u25 e27 rfl
      intro s31 e32
      have i33 : Iv s31 := Iv.u2 i28 e32
      have k34 : Kp s0 s31 := Kx.u2 k29 e32 (vg_kq_no ⟨rfl, rfl, rfl⟩).1
      have u35 : vk s31 = ((vk s0).1, (vk s0).2) := vk_k2 u30 e32 rfl
      intro s36 e37
      have i38 : Iv s36 := Iv.u2 i33 e37
      have k39 : Kp s0 s36 := Kx.u2 k34 e37 (vg_kq_no ⟨rfl, rfl, rfl⟩).1
      have u40 : vk s36 = ((vk s0).1, (vk s0).2) := vk_k2 u35 e37 rfl
      show Iv s36 ∧ Kp s0 s36 ∧ vk s36 = ((vk s0).1, (vk s0).2) ∧ (True)
      exact ⟨i38, k39, u40, (trivial)⟩
  ·
    have z0 : (Int32.ofInt 0).toInt = 0 := by decide
    refine ⟨Nat.le_of_ble_eq_true rfl, [], ?_, fun _ h => absurd h List.not_mem_nil⟩
    ·
      intro s1 e2
      have i3 : Iv s1 := Iv.u1 i0 e2 rfl
      have k4 : Kp s0 s1 := Kx.u1 Kx.rf e2 rfl
      have u5 : vk s1 = ((vk s0).1, (vk s0).2) := vk_k1 rfl e2 rfl
      intro s6 e7
      have i8 : Iv s6 := Iv.u1 i3 e7 rfl
      have k9 : Kp s0 s6 := Kx.u1 k4 e7 rfl
      have u10 : vk s6 = ((vk s0).1, (vk s0).2) := vk_k1 u5 e7 rfl
      refine And.intro (Nat.le_of_ble_eq_true rfl) (And.intro ⟨28, (Int32.ofInt 0), rfl, by decide, i8⟩ ?_)
      intro s12 h11
      have h11 : Iv s12 ∧ Kp s6 s12 ∧ vk s12 = ((vk s6).1, (vk s6).2) ∧ (True) := h11
      have i13 := h11.1
      have k14 : Kp s0 s12 := Kx.tr k9 (h11.2.1)
      have u15 : vk s12 = ((vk s0).1, (vk s0).2) := h11.2.2.1.trans u10
      refine And.intro (Nat.le_of_ble_eq_true rfl) (And.intro ⟨29, (Int32.ofInt 0), rfl, by decide, i13⟩ ?_)
      intro s17 h16
      have h16 : Iv s17 ∧ Kp s12 s17 ∧ vk s17 = ((vk s12).1, (vk s12).2) ∧ (True) := h16
      have i18 := h16.1
      have k19 : Kp s0 s17 := Kx.tr k14 (h16.2.1)
      have u20 : vk s17 = ((vk s0).1, (vk s0).2) := h16.2.2.1.trans u15
      refine And.intro (Nat.le_of_ble_eq_true rfl) (And.intro ⟨30, (Int32.ofInt 0), rfl, by decide, i18⟩ ?_)
      intro s22 h21
      have h21 : Iv s22 ∧ Kp s17 s22 ∧ vk s22 = ((vk s17).1, (vk s17).2) ∧ (True) := h21
      have i23 := h21.1
      have k24 : Kp s0 s22 := Kx.tr k19 (h21.2.1)
      have u25 : vk s22 = ((vk s0).1, (vk s0).2) := h21.2.2.1.trans u20
      intro s26 e27
      have i28 : Iv s26 := Iv.u2 i23 e27
      have k29 : Kp s0 s26 := Kx.u2 k24 e27 (vg_kq_no ⟨rfl, rfl, rfl⟩).1
      have u30 : vk s26 = ((vk s0).1, (vk s0).2) := vk_k2 u25 e27 rfl
      intro s31 e32
      have i33 : Iv s31 := Iv.u2 i28 e32
      have k34 : Kp s0 s31 := Kx.u2 k29 e32 (vg_kq_no ⟨rfl, rfl, rfl⟩).1
      have u35 : vk s31 = ((vk s0).1, (vk s0).2) := vk_k2 u30 e32 rfl
      intro s36 e37
      have i38 : Iv s36 := Iv.u2 i33 e37
      have k39 : Kp s0 s36 := Kx.u2 k34 e37 (vg_kq_no ⟨rfl, rfl, rfl⟩).1
      have u40 : vk s36 = ((vk s0).1, (vk s0).2) := vk_k2 u35 e37 rfl
      show Iv s36 ∧ Kp s0 s36 ∧ vk s36 = ((vk s0).1, (vk s0).2) ∧ (True)
      exact ⟨i38, k39, u40, (trivial)⟩
def o_X2_beginLike : List vg_I := [(0, .aload_n 0, 1, 0, 0, 0, 0), (1, .aload_n 1, 1, 0, 0, 0, 0), (2, .getfield 9, 3, 239, 2, 0, 0), (5, .putfield 9, 3, 239, 2, 0, 0), (8, .aload_n 0, 1, 0, 0, 0, 0), (9, .iload_n 2, 1, 0, 0, 0, 0), (10, .putfield 50, 3, 241, 2, 1, 0), (13, .aload_n 1, 1, 0, 0, 0, 0), (14, .getfield 15, 3, 247, 2, 4, 0), (17, .iconst 0, 1, 0, 0, 0, 0), (18, .aload_n 0, 1, 0, 0, 0, 0), (19, .getfield 15, 3, 247, 2, 4, 0), (22, .iconst 0, 1, 0, 0, 0, 0), (23, .bipush 16, 2, 0, 0, 0, 0), (25, .invokestatic 53, 3, 0, 3, 0, 1039), (28, .aload_n 0, 1, 0, 0, 0, 0), (29, .invokevirtual 59, 3, 0, 2, 0, 1040), (32, .return_, 1, 0, 0, 0, 0)]
set_option maxRecDepth 100000 in
set_option maxHeartbeats 4000000 in
theorem c_X2_beginLike (l : Launch) (G : vg_G) (hp : vg_Hp G) : vg_Ct l G vg_sh r_X2_beginLike := by
  refine vg_meth hp vg_sh_ok r_X2_beginLike k_X2_beginLike rfl (fun h => by cases h) o_X2_beginLike [r_X2_begin] true (by decide +kernel) (by decide +kernel) ⟨_, _, rfl, rfl⟩ (List.forall_mem_cons.mpr ⟨⟨c_X2_begin l G hp, Nat.le_of_ble_eq_true rfl, Nat.le_of_ble_eq_true rfl⟩, fun _ h => absurd h List.not_mem_nil⟩) (fun _ => ⟨⟨Nat.le_of_ble_eq_true rfl, Nat.le_of_ble_eq_true rfl⟩, vg_cpw_in⟩) 600 ?_
  intro as s0 hpre
  obtain ⟨r, a1, a2, rfl, hr, ha1, i0⟩ := hpre
  simp only [List.mem_cons, List.not_mem_nil, or_false] at hr
  rcases hr with rfl
  ·
    simp only [List.mem_cons, List.not_mem_nil, or_false] at ha1
    rcases ha1 with rfl
    ·
      have z0 : (Int32.ofInt 0).toInt = 0 := by decide
      have z16 : (Int32.ofInt 16).toInt = 16 := by decide
      refine ⟨Nat.le_of_ble_eq_true rfl, [], ?_, fun _ h => absurd h List.not_mem_nil⟩
      ·
        intro v1 e2
        have g3 : s0.1 7 0 = v1 := by rw [e2]
        have b4 : (1 : Int) ≤ v1.toInt ∧ v1.toInt ≤ 16 := by rw [e2]; exact Iv_7_0 i0
        intro s5 e6
        have i7 : Iv s5 := Iv.c1 (lo := 1) (hi := 16) i0 e6 rfl (by omega) (by omega)
        have k8 : Kp s0 s5 := Kx.u1 Kx.rf e6 rfl
        have u9 : vk s5 = ((vk s0).1, (vk s0).2) := vk_k1 rfl e6 rfl
        intro s10 e11
        have i12 : Iv s10 := Iv.u1 i7 e11 rfl
        have k13 : Kp s0 s10 := Kx.u1 k8 e11 rfl
        have u14 : vk s10 = ((vk s0).1, (vk s0).2) := vk_k1 u9 e11 rfl
        refine And.intro (Nat.le_of_ble_eq_true rfl) (And.intro (by omega) (And.intro (by omega) (And.intro (by omega) (And.intro (by omega) (And.intro (by omega) ?_)))))
        intro s15 e16
        have i17 : Iv s15 := Iv.w1 i12 e16 rfl
        have k18 : Kp s0 s15 := Kx.w1 k13 e16 (fun _ => rfl)
        have u19 : vk s15 = ((vk s0).1, (vk s0).2) := vk_kw u14 e16 (fun _ => rfl)
        refine And.intro (Nat.le_of_ble_eq_true rfl) (And.intro ⟨26, rfl, by decide, i17⟩ ?_)
        intro s21 h20
        have h20 : Iv s21 ∧ Kp s15 s21 ∧ vk s21 = ((vk s15).1, (vk s15).2) ∧ (True) := h20
        have i22 := h20.1
        have k23 : Kp s0 s21 := Kx.tr k18 (h20.2.1)
        have u24 : vk s21 = ((vk s0).1, (vk s0).2) := h20.2.2.1.trans u19
        show Iv s21 ∧ Kp s0 s21 ∧ vk s21 = ((vk s0).1, (vk s0).2) ∧ (True)
        exact ⟨i22, k23, u24, (trivial)⟩
def o_X2_weight : List vg_I := [(0, .sipush 1000, 3, 0, 0, 0, 0), (3, .aload_n 0, 1, 0, 0, 0, 0), (4, .getfield 15, 3, 247, 2, 4, 0), (7, .iload_n 1, 1, 0, 0, 0, 0), (8, .iaload, 1, 0, 0, 0, 0), (9, .iadd, 1, 0, 0, 0, 0), (10, .ireturn, 1, 0, 0, 0, 0)]
set_option maxRecDepth 100000 in
set_option maxHeartbeats 4000000 in
theorem c_X2_weight (l : Launch) (G : vg_G) (hp : vg_Hp G) : vg_Ct l G vg_sh r_X2_weight := by
  refine vg_meth hp vg_sh_ok r_X2_weight k_X2_weight rfl (fun h => by cases h) o_X2_weight [] false (by decide +kernel) (by decide +kernel) ⟨_, _, rfl, rfl⟩ (fun _ h => absurd h List.not_mem_nil) (fun h => by cases h) 600 ?_
  intro as s0 hpre
  obtain ⟨r, a1, rfl, hr, i0, p0⟩ := hpre
  simp only [List.mem_cons, List.not_mem_nil, or_false] at hr
  rcases hr with rfl | rfl
  ·
    have z1000 : (Int32.ofInt 1000).toInt = 1000 := by decide
    refine ⟨Nat.le_of_ble_eq_true rfl, [], ?_, fun _ h => absurd h List.not_mem_nil⟩
    ·
      refine And.intro ⟨by omega, by omega⟩ ?_
      intro v1 e2
      intro v3 e4
      show s0 = s0 ∧ (v3 = Int32.ofInt 1000 + s0.1 8 a1.toNatClampNeg)
      exact ⟨rfl, (by rw [e4, e2])⟩
  ·
    have z1000 : (Int32.ofInt 1000).toInt = 1000 := by decide
    refine ⟨Nat.le_of_ble_eq_true rfl, [], ?_, fun _ h => absurd h List.not_mem_nil⟩
    ·
      refine And.intro ⟨by omega, by omega⟩ ?_
      intro v1 e2
      intro v3 e4
      show s0 = s0 ∧ (v3 = Int32.ofInt 1000 + s0.1 27 a1.toNatClampNeg)
      exact ⟨rfl, (by rw [e4, e2])⟩
def o_X2_weightsOf : List vg_I := [(0, .iconst 0, 1, 0, 0, 0, 0), (1, .istore_n 2, 1, 0, 0, 0, 0), (2, .iconst 0, 1, 0, 0, 0, 0), (3, .istore_n 3, 1, 0, 0, 0, 0), (4, .iload_n 3, 1, 0, 0, 0, 0), (5, .aload_n 0, 1, 0, 0, 0, 0), (6, .getfield 9, 3, 239, 2, 0, 0), (9, .if_icmp .ge 26, 3, 0, 0, 0, 0), (12, .iload_n 1, 1, 0, 0, 0, 0), (13, .iload_n 3, 1, 0, 0, 0, 0), (14, .ishr, 1, 0, 0, 0, 0), (15, .iconst 1, 1, 0, 0, 0, 0), (16, .iand, 1, 0, 0, 0, 0), (17, .iconst 1, 1, 0, 0, 0, 0), (18, .if_icmp .ne 11, 3, 0, 0, 0, 0), (21, .iload_n 2, 1, 0, 0, 0, 0), (22, .aload_n 0, 1, 0, 0, 0, 0), (23, .iload_n 3, 1, 0, 0, 0, 0), (24, .invokevirtual 106, 3, 0, 2, 1, 564), (27, .iadd, 1, 0, 0, 0, 0), (28, .istore_n 2, 1, 0, 0, 0, 0), (29, .iinc 3 1, 3, 0, 0, 0, 0), (32, .goto (-28), 3, 0, 0, 0, 0), (35, .iload_n 2, 1, 0, 0, 0, 0), (36, .ireturn, 1, 0, 0, 0, 0)]
set_option maxRecDepth 100000 in
set_option maxHeartbeats 4000000 in
theorem c_X2_weightsOf (l : Launch) (G : vg_G) (hp : vg_Hp G) : vg_Ct l G vg_sh r_X2_weightsOf := by
  refine vg_meth hp vg_sh_ok r_X2_weightsOf k_X2_weightsOf rfl (fun h => by cases h) o_X2_weightsOf [r_X2_weight] false (by decide +kernel) (by decide +kernel) ⟨_, _, rfl, rfl⟩ (List.forall_mem_cons.mpr ⟨⟨c_X2_weight l G hp, Nat.le_of_ble_eq_true rfl, Nat.le_of_ble_eq_true rfl⟩, fun _ h => absurd h List.not_mem_nil⟩) (fun h => by cases h) 600 ?_
  intro as s0 hpre
  obtain ⟨r, a1, rfl, hr, i0⟩ := hpre
  simp only [List.mem_cons, List.not_mem_nil, or_false] at hr
  rcases hr with rfl | rfl
  ·
    have z0 : (Int32.ofInt 0).toInt = 0 := by decide
    have z1 : (Int32.ofInt 1).toInt = 1 := by decide
    refine ⟨Nat.le_of_ble_eq_true rfl, [(4, [true, true, true, true], (fun L t => ∃ (x2 : Int32) (x3 : Int32), L = [some (.ref 7), some (.int a1), some (.int x2), some (.int x3)] ∧ (0 : Int) ≤ x3.toInt ∧ x3.toInt ≤ (16 : Int) ∧ (x3.toInt ≤ (s0.1 7 0).toInt ∧ ((∀ i : Int32, 0 ≤ i.toInt → i.toInt < (s0.1 7 0).toInt → ((a1 >>> (i &&& (31 : Int32))) &&& Int32.ofInt 1).toInt = (Int32.ofInt 1).toInt) → x2 = vg_ws (s0.1 8) x3.toNatClampNeg)) ∧ t = s0), (fun L _ => (0 + (16 - (vg_li L 3).toInt) * 1000000000000).toNat))], ?_, List.forall_mem_cons.mpr ⟨?_, fun _ h => absurd h List.not_mem_nil⟩⟩
    ·
      exact ⟨rfl, ⟨(Int32.ofInt 0), (Int32.ofInt 0), rfl, (by omega), (by omega), (by first | exact ⟨by have h9 := Iv_7_0 i0; omega, fun _ => rfl⟩ | exact ⟨by omega, fun hb => vg_ws_step (None.2 hb) None None (by omega) (by omega)⟩ | exact ⟨by omega, fun hb => (vg_nobit None None None (hb _ (by omega) (by omega))).elim⟩), rfl⟩, trivial⟩
    ·
      intro L s6 hL
      obtain ⟨w1, w2, rfl, b3, b4, x5, q9⟩ := hL
      have q9 := q9.symm
      subst q9
      intro v10 e11
      have g12 : s0.1 7 0 = v10 := by rw [e11]
      have b13 : v10.toInt = (s0.1 7 0).toInt := congrArg Int32.toInt e11
      have b14 : (1 : Int) ≤ v10.toInt ∧ v10.toInt ≤ 16 := by rw [e11]; exact Iv_7_0 i0
      refine And.intro (fun c15 => ?_) (fun c15 => ?_)
      · have c15 : v10.toInt ≤ w2.toInt := c15
        show s0 = s0 ∧ ((∀ i : Int32, 0 ≤ i.toInt → i.toInt < (s0.1 7 0).toInt → ((a1 >>> (i &&& (31 : Int32))) &&& Int32.ofInt 1).toInt = (Int32.ofInt 1).toInt) → w1 = vg_ws (s0.1 8) (s0.1 7 0).toNatClampNeg)
        exact ⟨rfl, (fun hb => vg_ws_at (x5.2 hb) (by omega))⟩
      · have c15 : ¬ (v10.toInt ≤ w2.toInt) := c15
        intro v16 e17
        intro v18 e19
        have b20 := vg_and e19 (by omega)
        refine And.intro (fun c21 => ?_) (fun c21 => ?_)
        · have c21 : ¬ v18.toInt = (Int32.ofInt 1).toInt := c21
          intro v22 e23
          have b24 := vg_add e23 (by omega) (by omega)
          exact ⟨rfl, ⟨w1, v22, rfl, (by omega), (by omega), (by first | exact ⟨by have h9 := Iv_7_0 i0; omega, fun _ => rfl⟩ | exact ⟨by omega, fun hb => vg_ws_step (x5.2 hb) None None (by omega) (by omega)⟩ | exact ⟨by omega, fun hb => (vg_nobit e17 e19 c21 (hb _ (by omega) (by omega))).elim⟩), rfl⟩, (by show (0 + (16 - v22.toInt) * 1000000000000).toNat < (0 + (16 - w2.toInt) * 1000000000000).toNat; omega)⟩
        · have c21 : ¬ (¬ v18.toInt = (Int32.ofInt 1).toInt) := c21
          refine And.intro (Nat.le_of_ble_eq_true rfl) (And.intro ⟨7, w2, rfl, by decide, i0, by omega⟩ ?_)
          intro v25 s27 h26
          have h26 : s27 = s0 ∧ (v25 = Int32.ofInt 1000 + s0.1 8 w2.toNatClampNeg) := h26
          have q30 := h26.1.symm
          subst q30
          have q31 := h26.2
          intro v32 e33
          intro v34 e35
          have b36 := vg_add e35 (by omega) (by omega)
          exact ⟨rfl, ⟨v32, v34, rfl, (by omega), (by omega), (by first | exact ⟨by have h9 := Iv_7_0 i0; omega, fun _ => rfl⟩ | exact ⟨by omega, fun hb => vg_ws_step (x5.2 hb) q31 e33 (by omega) (by omega)⟩ | exact ⟨by omega, fun hb => (vg_nobit e17 e19 c21 (hb _ (by omega) (by omega))).elim⟩), rfl⟩, (by show (0 + (16 - v34.toInt) * 1000000000000).toNat < (0 + (16 - w2.toInt) * 1000000000000).toNat; omega)⟩
  ·
    have z0 : (Int32.ofInt 0).toInt = 0 := by decide
    have z1 : (Int32.ofInt 1).toInt = 1 := by decide
    refine ⟨Nat.le_of_ble_eq_true rfl, [(4, [true, true, true, true], (fun L t => ∃ (x2 : Int32) (x3 : Int32), L = [some (.ref 26), some (.int a1), some (.int x2), some (.int x3)] ∧ (0 : Int) ≤ x3.toInt ∧ x3.toInt ≤ (16 : Int) ∧ (x3.toInt ≤ (s0.1 26 0).toInt ∧ ((∀ i : Int32, 0 ≤ i.toInt → i.toInt < (s0.1 26 0).toInt → ((a1 >>> (i &&& (31 : Int32))) &&& Int32.ofInt 1).toInt = (Int32.ofInt 1).toInt) → x2 = vg_ws (s0.1 27) x3.toNatClampNeg)) ∧ t = s0), (fun L _ => (0 + (16 - (vg_li L 3).toInt) * 1000000000000).toNat))], ?_, List.forall_mem_cons.mpr ⟨?_, fun _ h => absurd h List.not_mem_nil⟩⟩
    ·
      exact ⟨rfl, ⟨(Int32.ofInt 0), (Int32.ofInt 0), rfl, (by omega), (by omega), (by first | exact ⟨by have h9 := Iv_26_0 i0; omega, fun _ => rfl⟩ | exact ⟨by omega, fun hb => vg_ws_step (None.2 hb) None None (by omega) (by omega)⟩ | exact ⟨by omega, fun hb => (vg_nobit None None None (hb _ (by omega) (by omega))).elim⟩), rfl⟩, trivial⟩
    ·
      intro L s6 hL
      obtain ⟨w1, w2, rfl, b3, b4, x5, q9⟩ := hL
      have q9 := q9.symm
      subst q9
      intro v10 e11
      have g12 : s0.1 26 0 = v10 := by rw [e11]
      have b13 : v10.toInt = (s0.1 26 0).toInt := congrArg Int32.toInt e11
      have b14 : (1 : Int) ≤ v10.toInt ∧ v10.toInt ≤ 16 := by rw [e11]; exact Iv_26_0 i0
      refine And.intro (fun c15 => ?_) (fun c15 => ?_)
      · have c15 : v10.toInt ≤ w2.toInt := c15
        show s0 = s0 ∧ ((∀ i : Int32, 0 ≤ i.toInt → i.toInt < (s0.1 26 0).toInt → ((a1 >>> (i &&& (31 : Int32))) &&& Int32.ofInt 1).toInt = (Int32.ofInt 1).toInt) → w1 = vg_ws (s0.1 27) (s0.1 26 0).toNatClampNeg)
        exact ⟨rfl, (fun hb => vg_ws_at (x5.2 hb) (by omega))⟩
      · have c15 : ¬ (v10.toInt ≤ w2.toInt) := c15
        intro v16 e17
        intro v18 e19
        have b20 := vg_and e19 (by omega)
        refine And.intro (fun c21 => ?_) (fun c21 => ?_)
        · have c21 : ¬ v18.toInt = (Int32.ofInt 1).toInt := c21
          intro v22 e23
          have b24 := vg_add e23 (by omega) (by omega)
          exact ⟨rfl, ⟨w1, v22, rfl, (by omega), (by omega), (by first | exact ⟨by have h9 := Iv_26_0 i0; omega, fun _ => rfl⟩ | exact ⟨by omega, fun hb => vg_ws_step (x5.2 hb) None None (by omega) (by omega)⟩ | exact ⟨by omega, fun hb => (vg_nobit e17 e19 c21 (hb _ (by omega) (by omega))).elim⟩), rfl⟩, (by show (0 + (16 - v22.toInt) * 1000000000000).toNat < (0 + (16 - w2.toInt) * 1000000000000).toNat; omega)⟩
        · have c21 : ¬ (¬ v18.toInt = (Int32.ofInt 1).toInt) := c21
          refine And.intro (Nat.le_of_ble_eq_true rfl) (And.intro ⟨26, w2, rfl, by decide, i0, by omega⟩ ?_)
          intro v25 s27 h26
          have h26 : s27 = s0 ∧ (v25 = Int32.ofInt 1000 + s0.1 27 w2.toNatClampNeg) := h26
          have q30 := h26.1.symm
          subst q30
          have q31 := h26.2
          intro v32 e33
          intro v34 e35
          have b36 := vg_add e35 (by omega) (by omega)
          exact ⟨rfl, ⟨v32, v34, rfl, (by omega), (by omega), (by first | exact ⟨by have h9 := Iv_26_0 i0; omega, fun _ => rfl⟩ | exact ⟨by omega, fun hb => vg_ws_step (x5.2 hb) q31 e33 (by omega) (by omega)⟩ | exact ⟨by omega, fun hb => (vg_nobit e17 e19 c21 (hb _ (by omega) (by omega))).elim⟩), rfl⟩, (by show (0 + (16 - v34.toInt) * 1000000000000).toNat < (0 + (16 - w2.toInt) * 1000000000000).toNat; omega)⟩
def o_X2_allWeights : List vg_I := [(0, .aload_n 0, 1, 0, 0, 0, 0), (1, .iconst 1, 1, 0, 0, 0, 0), (2, .aload_n 0, 1, 0, 0, 0, 0), (3, .getfield 9, 3, 239, 2, 0, 0), (6, .ishl, 1, 0, 0, 0, 0), (7, .iconst 1, 1, 0, 0, 0, 0), (8, .isub, 1, 0, 0, 0, 0), (9, .invokevirtual 62, 3, 0, 2, 1, 560), (12, .ireturn, 1, 0, 0, 0, 0)]
set_option maxRecDepth 100000 in
set_option maxHeartbeats 4000000 in
theorem c_X2_allWeights (l : Launch) (G : vg_G) (hp : vg_Hp G) : vg_Ct l G vg_sh r_X2_allWeights := by
  refine vg_meth hp vg_sh_ok r_X2_allWeights k_X2_allWeights rfl (fun h => by cases h) o_X2_allWeights [r_X2_weightsOf] false (by decide +kernel) (by decide +kernel) ⟨_, _, rfl, rfl⟩ (List.forall_mem_cons.mpr ⟨⟨c_X2_weightsOf l G hp, Nat.le_of_ble_eq_true rfl, Nat.le_of_ble_eq_true rfl⟩, fun _ h => absurd h List.not_mem_nil⟩) (fun h => by cases h) 600 ?_
  intro as s0 hpre
  obtain ⟨r, rfl, hr, i0⟩ := hpre
  simp only [List.mem_cons, List.not_mem_nil, or_false] at hr
  rcases hr with rfl | rfl
  ·
    have z1 : (Int32.ofInt 1).toInt = 1 := by decide
    refine ⟨Nat.le_of_ble_eq_true rfl, [], ?_, fun _ h => absurd h List.not_mem_nil⟩
    ·
      intro v1 e2
      have g3 : s0.1 7 0 = v1 := by rw [e2]
      have b4 : v1.toInt = (s0.1 7 0).toInt := congrArg Int32.toInt e2
      have b5 : (1 : Int) ≤ v1.toInt ∧ v1.toInt ≤ 16 := by rw [e2]; exact Iv_7_0 i0
      intro v6 e7
      intro v8 e9
      refine And.intro (Nat.le_of_ble_eq_true rfl) (And.intro ⟨7, v8, rfl, by decide, i0⟩ ?_)
      intro v10 s12 h11
      have h11 : s12 = s0 ∧ ((∀ i : Int32, 0 ≤ i.toInt → i.toInt < (s0.1 7 0).toInt → ((v8 >>> (i &&& (31 : Int32))) &&& Int32.ofInt 1).toInt = (Int32.ofInt 1).toInt) → v10 = vg_ws (s0.1 8) (s0.1 7 0).toNatClampNeg) := h11
      have q15 := h11.1.symm
      subst q15
      have q16 := h11.2
      show s0 = s0 ∧ (v10 = vg_ws (s0.1 8) (s0.1 7 0).toNatClampNeg)
      exact ⟨rfl, (q16 (fun i h1 h2 => vg_ones e7 e9 (by omega) (by omega) h1 (by omega)))⟩
  ·
    have z1 : (Int32.ofInt 1).toInt = 1 := by decide
    refine ⟨Nat.le_of_ble_eq_true rfl, [], ?_, fun _ h => absurd h List.not_mem_nil⟩
    ·
      intro v1 e2
      have g3 : s0.1 26 0 = v1 := by rw [e2]
      have b4 : v1.toInt = (s0.1 26 0).toInt := congrArg Int32.toInt e2
      have b5 : (1 : Int) ≤ v1.toInt ∧ v1.toInt ≤ 16 := by rw [e2]; exact Iv_26_0 i0
      intro v6 e7
      intro v8 e9
      refine And.intro (Nat.le_of_ble_eq_true rfl) (And.intro ⟨26, v8, rfl, by decide, i0⟩ ?_)
      intro v10 s12 h11
      have h11 : s12 = s0 ∧ ((∀ i : Int32, 0 ≤ i.toInt → i.toInt < (s0.1 26 0).toInt → ((v8 >>> (i &&& (31 : Int32))) &&& Int32.ofInt 1).toInt = (Int32.ofInt 1).toInt) → v10 = vg_ws (s0.1 27) (s0.1 26 0).toNatClampNeg) := h11
      have q15 := h11.1.symm
      subst q15
      have q16 := h11.2
      show s0 = s0 ∧ (v10 = vg_ws (s0.1 27) (s0.1 26 0).toNatClampNeg)
      exact ⟨rfl, (q16 (fun i h1 h2 => vg_ones e7 e9 (by omega) (by omega) h1 (by omega)))⟩
def o_X2_unevenness : List vg_I := [(0, .aload_n 0, 1, 0, 0, 0, 0), (1, .getfield 19, 3, 249, 2, 5, 0), (4, .iconst 0, 1, 0, 0, 0, 0), (5, .iaload, 1, 0, 0, 0, 0), (6, .istore_n 1, 1, 0, 0, 0, 0), (7, .aload_n 0, 1, 0, 0, 0, 0), (8, .getfield 19, 3, 249, 2, 5, 0), (11, .iconst 0, 1, 0, 0, 0, 0), (12, .iaload, 1, 0, 0, 0, 0), (13, .istore_n 2, 1, 0, 0, 0, 0), (14, .iconst 1, 1, 0, 0, 0, 0), (15, .istore_n 3, 1, 0, 0, 0, 0), (16, .iload_n 3, 1, 0, 0, 0, 0), (17, .aload_n 0, 1, 0, 0, 0, 0), (18, .getfield 9, 3, 239, 2, 0, 0), (21, .if_icmp .ge 31, 3, 0, 0, 0, 0), (24, .iload_n 1, 1, 0, 0, 0, 0), (25, .aload_n 0, 1, 0, 0, 0, 0), (26, .getfield 19, 3, 249, 2, 5, 0), (29, .iload_n 3, 1, 0, 0, 0, 0), (30, .iaload, 1, 0, 0, 0, 0), (31, .invokestatic 66, 3, 0, 1, 2, 861), (34, .istore_n 1, 1, 0, 0, 0, 0), (35, .iload_n 2, 1, 0, 0, 0, 0), (36, .aload_n 0, 1, 0, 0, 0, 0), (37, .getfield 19, 3, 249, 2, 5, 0), (40, .iload_n 3, 1, 0, 0, 0, 0), (41, .iaload, 1, 0, 0, 0, 0), (42, .invokestatic 72, 3, 1, 1, 2, 862), (45, .istore_n 2, 1, 0, 0, 0, 0), (46, .iinc 3 1, 3, 0, 0, 0, 0), (49, .goto (-33), 3, 0, 0, 0, 0), (52, .iload_n 1, 1, 0, 0, 0, 0), (53, .iload_n 2, 1, 0, 0, 0, 0), (54, .isub, 1, 0, 0, 0, 0), (55, .ireturn, 1, 0, 0, 0, 0)]
set_option maxRecDepth 100000 in
set_option maxHeartbeats 4000000 in
theorem c_X2_unevenness (l : Launch) (G : vg_G) (hp : vg_Hp G) : vg_Ct l G vg_sh r_X2_unevenness := by
  refine vg_meth hp vg_sh_ok r_X2_unevenness k_X2_unevenness rfl (fun h => by cases h) o_X2_unevenness [r_J9_max_7cf53, r_J9_min_7cf53] false (by decide +kernel) (by decide +kernel) ⟨_, _, rfl, rfl⟩ (List.forall_mem_cons.mpr ⟨⟨c_J9_max_7cf53 l G hp, Nat.le_of_ble_eq_true rfl, Nat.le_of_ble_eq_true rfl⟩, List.forall_mem_cons.mpr ⟨⟨c_J9_min_7cf53 l G hp, Nat.le_of_ble_eq_true rfl, Nat.le_of_ble_eq_true rfl⟩, fun _ h => absurd h List.not_mem_nil⟩⟩) (fun h => by cases h) 600 ?_
  intro as s0 hpre
  obtain ⟨r, rfl, hr, i0⟩ := hpre
  simp only [List.mem_cons, List.not_mem_nil, or_false] at hr
  rcases hr with rfl | rfl
  ·
    have z0 : (Int32.ofInt 0).toInt = 0 := by decide
    have z1 : (Int32.ofInt 1).toInt = 1 := by decide
    refine ⟨Nat.le_of_ble_eq_true rfl, [(16, [true, true, true, true], (fun L t => ∃ (x1 : Int32) (x2 : Int32) (x3 : Int32), L = [some (.ref 7), some (.int x1), some (.int x2), some (.int x3)] ∧ (1 : Int) ≤ x3.toInt ∧ x3.toInt ≤ (16 : Int) ∧ t = s0), (fun L _ => (0 + (16 - (vg_li L 3).toInt) * 1000000000000).toNat))], ?_, List.forall_mem_cons.mpr ⟨?_, fun _ h => absurd h List.not_mem_nil⟩⟩
    ·
      refine And.intro ⟨by omega, by omega⟩ ?_
      intro v1 e2
      refine And.intro ⟨by omega, by omega⟩ ?_
      intro v3 e4
      have w5 : v1 = v3 := by rw [e4, e2]
      subst w5
      exact ⟨rfl, ⟨v1, v1, (Int32.ofInt 1), rfl, (by omega), (by omega), rfl⟩, trivial⟩
    ·
      intro L s11 hL
      obtain ⟨w6, w7, w8, rfl, b9, b10, q14⟩ := hL
      have q14 := q14.symm
      subst q14
      intro v15 e16
      have g17 : s0.1 7 0 = v15 := by rw [e16]
      have b18 : (1 : Int) ≤ v15.toInt ∧ v15.toInt ≤ 16 := by rw [e16]; exact Iv_7_0 i0
      refine And.intro (fun c19 => ?_) (fun c19 => ?_)
      · have c19 : v15.toInt ≤ w8.toInt := c19
        intro v20 e21
        show s0 = s0 ∧ (True)
        exact ⟨rfl, (trivial)⟩
      · have c19 : ¬ (v15.toInt ≤ w8.toInt) := c19
        refine And.intro ⟨by omega, by omega⟩ ?_
        intro v22 e23
        refine And.intro (Nat.le_of_ble_eq_true rfl) (And.intro ⟨w6, v22, rfl, trivial⟩ ?_)
        intro v24 s26 h25
        have h25 : s26 = s0 ∧ (w6.toInt ≤ v24.toInt ∧ v22.toInt ≤ v24.toInt ∧ (v24.toInt = w6.toInt ∨ v24.toInt = v22.toInt)) := h25
        have q29 := h25.1.symm
        subst q29
        have q30 := h25.2
        refine And.intro ⟨by omega, by omega⟩ ?_
        intro v31 e32
        have w33 : v22 = v31 := by rw [e32, e23]
        subst w33
        refine And.intro (Nat.le_of_ble_eq_true rfl) (And.intro ⟨w7, v22, rfl, trivial⟩ ?_)
        intro v34 s36 h35
        have h35 : s36 = s0 ∧ (v34.toInt ≤ w7.toInt ∧ v34.toInt ≤ v22.toInt ∧ (v34.toInt = w7.toInt ∨ v34.toInt = v22.toInt)) := h35
        have q39 := h35.1.symm
        subst q39
        have q40 := h35.2
        intro v41 e42
        have b43 := vg_add e42 (by omega) (by omega)
        exact ⟨rfl, ⟨v24, v34, v41, rfl, (by omega), (by omega), rfl⟩, (by show (0 + (16 - v41.toInt) * 1000000000000).toNat < (0 + (16 - w8.toInt) * 1000000000000).toNat; omega)⟩
  ·
    have z0 : (Int32.ofInt 0).toInt = 0 := by decide
    have z1 : (Int32.ofInt 1).toInt = 1 := by decide
    refine ⟨Nat.le_of_ble_eq_true rfl, [(16, [true, true, true, true], (fun L t => ∃ (x1 : Int32) (x2 : Int32) (x3 : Int32), L = [some (.ref 26), some (.int x1), some (.int x2), some (.int x3)] ∧ (1 : Int) ≤ x3.toInt ∧ x3.toInt ≤ (16 : Int) ∧ t = s0), (fun L _ => (0 + (16 - (vg_li L 3).toInt) * 1000000000000).toNat))], ?_, List.forall_mem_cons.mpr ⟨?_, fun _ h => absurd h List.not_mem_nil⟩⟩
    ·
      refine And.intro ⟨by omega, by omega⟩ ?_
      intro v1 e2
      refine And.intro ⟨by omega, by omega⟩ ?_
      intro v3 e4
      have w5 : v1 = v3 := by rw [e4, e2]
      subst w5
      exact ⟨rfl, ⟨v1, v1, (Int32.ofInt 1), rfl, (by omega), (by omega), rfl⟩, trivial⟩
    ·
      intro L s11 hL
      obtain ⟨w6, w7, w8, rfl, b9, b10, q14⟩ := hL
      have q14 := q14.symm
      subst q14
      intro v15 e16
      have g17 : s0.1 26 0 = v15 := by rw [e16]
      have b18 : (1 : Int) ≤ v15.toInt ∧ v15.toInt ≤ 16 := by rw [e16]; exact Iv_26_0 i0
      refine And.intro (fun c19 => ?_) (fun c19 => ?_)
      · have c19 : v15.toInt ≤ w8.toInt := c19
        intro v20 e21
        show s0 = s0 ∧ (True)
        exact ⟨rfl, (trivial)⟩
      · have c19 : ¬ (v15.toInt ≤ w8.toInt) := c19
        refine And.intro ⟨by omega, by omega⟩ ?_
        intro v22 e23
        refine And.intro (Nat.le_of_ble_eq_true rfl) (And.intro ⟨w6, v22, rfl, trivial⟩ ?_)
        intro v24 s26 h25
        have h25 : s26 = s0 ∧ (w6.toInt ≤ v24.toInt ∧ v22.toInt ≤ v24.toInt ∧ (v24.toInt = w6.toInt ∨ v24.toInt = v22.toInt)) := h25
        have q29 := h25.1.symm
        subst q29
        have q30 := h25.2
        refine And.intro ⟨by omega, by omega⟩ ?_
        intro v31 e32
        have w33 : v22 = v31 := by rw [e32, e23]
        subst w33
        refine And.intro (Nat.le_of_ble_eq_true rfl) (And.intro ⟨w7, v22, rfl, trivial⟩ ?_)
        intro v34 s36 h35
        have h35 : s36 = s0 ∧ (v34.toInt ≤ w7.toInt ∧ v34.toInt ≤ v22.toInt ∧ (v34.toInt = w7.toInt ∨ v34.toInt = v22.toInt)) := h35
        have q39 := h35.1.symm
        subst q39
        have q40 := h35.2
        intro v41 e42
        have b43 := vg_add e42 (by omega) (by omega)
        exact ⟨rfl, ⟨v24, v34, v41, rfl, (by omega), (by omega), rfl⟩, (by show (0 + (16 - v41.toInt) * 1000000000000).toNat < (0 + (16 - w8.toInt) * 1000000000000).toNat; omega)⟩
def o_X2_chooseRotated : List vg_I := [(0, .iconst 0, 1, 0, 0, 0, 0), (1, .istore_n 2, 1, 0, 0, 0, 0), (2, .iconst 0, 1, 0, 0, 0, 0), (3, .istore_n 3, 1, 0, 0, 0, 0), (4, .iload_n 3, 1, 0, 0, 0, 0), (5, .iload_n 1, 1, 0, 0, 0, 0), (6, .if_icmp .ge 25, 3, 0, 0, 0, 0), (9, .iload_n 2, 1, 0, 0, 0, 0), (10, .iconst 1, 1, 0, 0, 0, 0), (11, .aload_n 0, 1, 0, 0, 0, 0), (12, .getfield 28, 3, 243, 2, 2, 0), (15, .iload_n 3, 1, 0, 0, 0, 0), (16, .iadd, 1, 0, 0, 0, 0), (17, .aload_n 0, 1, 0, 0, 0, 0), (18, .getfield 9, 3, 239, 2, 0, 0), (21, .irem, 1, 0, 0, 0, 0), (22, .ishl, 1, 0, 0, 0, 0), (23, .ior, 1, 0, 0, 0, 0), (24, .istore_n 2, 1, 0, 0, 0, 0), (25, .iinc 3 1, 3, 0, 0, 0, 0), (28, .goto (-24), 3, 0, 0, 0, 0), (31, .iload_n 2, 1, 0, 0, 0, 0), (32, .ireturn, 1, 0, 0, 0, 0)]
set_option maxRecDepth 100000 in
set_option maxHeartbeats 4000000 in
theorem c_X2_chooseRotated (l : Launch) (G : vg_G) (hp : vg_Hp G) : vg_Ct l G vg_sh r_X2_chooseRotated := by
  refine vg_meth hp vg_sh_ok r_X2_chooseRotated k_X2_chooseRotated rfl (fun h => by cases h) o_X2_chooseRotated [] false (by decide +kernel) (by decide +kernel) ⟨_, _, rfl, rfl⟩ (fun _ h => absurd h List.not_mem_nil) (fun h => by cases h) 600 ?_
  intro as s0 hpre
  obtain ⟨r, a1, rfl, hr, i0⟩ := hpre
  have ra1 := vg_rng a1
  simp only [List.mem_cons, List.not_mem_nil, or_false] at hr
  rcases hr with rfl | rfl
  ·
    have z0 : (Int32.ofInt 0).toInt = 0 := by decide
    have z1 : (Int32.ofInt 1).toInt = 1 := by decide
    refine ⟨Nat.le_of_ble_eq_true rfl, [(4, [true, true, true, true], (fun L t => ∃ (x2 : Int32) (x3 : Int32), L = [some (.ref 7), some (.int a1), some (.int x2), some (.int x3)] ∧ (0 : Int) ≤ x3.toInt ∧ t = s0), (fun L _ => (a1.toInt - (vg_li L 3).toInt).toNat))], ?_, List.forall_mem_cons.mpr ⟨?_, fun _ h => absurd h List.not_mem_nil⟩⟩
    ·
      exact ⟨rfl, ⟨(Int32.ofInt 0), (Int32.ofInt 0), rfl, (by omega), rfl⟩, trivial⟩
    ·
      intro L s4 hL
      obtain ⟨w1, w2, rfl, b3, q7⟩ := hL
      have q7 := q7.symm
      subst q7
      refine And.intro (fun c8 => ?_) (fun c8 => ?_)
      · have c8 : a1.toInt ≤ w2.toInt := c8
        show s0 = s0 ∧ (True)
        exact ⟨rfl, (trivial)⟩
      · have c8 : ¬ (a1.toInt ≤ w2.toInt) := c8
        intro v9 e10
        have g11 : s0.1 7 2 = v9 := by rw [e10]
        intro v12 e13
        intro v14 e15
        have g16 : s0.1 7 0 = v14 := by rw [e15]
        have b17 : (1 : Int) ≤ v14.toInt ∧ v14.toInt ≤ 16 := by rw [e15]; exact Iv_7_0 i0
        refine And.intro (by omega) ?_
        intro v18 e19
        have b20 := vg_remx e19 (by omega)
        intro v21 e22
        intro v23 e24
        intro v25 e26
        have b27 := vg_add e26 (by omega) (by omega)
        exact ⟨rfl, ⟨v23, v25, rfl, (by omega), rfl⟩, (by show (a1.toInt - v25.toInt).toNat < (a1.toInt - w2.toInt).toNat; omega)⟩
  ·
    have z0 : (Int32.ofInt 0).toInt = 0 := by decide
    have z1 : (Int32.ofInt 1).toInt = 1 := by decide
    refine ⟨Nat.le_of_ble_eq_true rfl, [(4, [true, true, true, true], (fun L t => ∃ (x2 : Int32) (x3 : Int32), L = [some (.ref 26), some (.int a1), some (.int x2), some (.int x3)] ∧ (0 : Int) ≤ x3.toInt ∧ t = s0), (fun L _ => (a1.toInt - (vg_li L 3).toInt).toNat))], ?_, List.forall_mem_cons.mpr ⟨?_, fun _ h => absurd h List.not_mem_nil⟩⟩
    ·
      exact ⟨rfl, ⟨(Int32.ofInt 0), (Int32.ofInt 0), rfl, (by omega), rfl⟩, trivial⟩
    ·
      intro L s4 hL
      obtain ⟨w1, w2, rfl, b3, q7⟩ := hL
      have q7 := q7.symm
      subst q7
      refine And.intro (fun c8 => ?_) (fun c8 => ?_)
      · have c8 : a1.toInt ≤ w2.toInt := c8
        show s0 = s0 ∧ (True)
        exact ⟨rfl, (trivial)⟩
      · have c8 : ¬ (a1.toInt ≤ w2.toInt) := c8
        intro v9 e10
        have g11 : s0.1 26 2 = v9 := by rw [e10]
        intro v12 e13
        intro v14 e15
        have g16 : s0.1 26 0 = v14 := by rw [e15]
        have b17 : (1 : Int) ≤ v14.toInt ∧ v14.toInt ≤ 16 := by rw [e15]; exact Iv_26_0 i0
        refine And.intro (by omega) ?_
        intro v18 e19
        have b20 := vg_remx e19 (by omega)
        intro v21 e22
        intro v23 e24
        intro v25 e26
        have b27 := vg_add e26 (by omega) (by omega)
        exact ⟨rfl, ⟨v23, v25, rfl, (by omega), rfl⟩, (by show (a1.toInt - v25.toInt).toNat < (a1.toInt - w2.toInt).toNat; omega)⟩
def o_X2_mostDue : List vg_I := [(0, .iconst (-1), 1, 0, 0, 0, 0), (1, .istore_n 2, 1, 0, 0, 0, 0), (2, .iconst 0, 1, 0, 0, 0, 0), (3, .istore_n 3, 1, 0, 0, 0, 0), (4, .iconst 0, 1, 0, 0, 0, 0), (5, .istore 4, 2, 0, 0, 0, 0), (7, .iload 4, 2, 0, 0, 0, 0), (9, .aload_n 0, 1, 0, 0, 0, 0), (10, .getfield 9, 3, 239, 2, 0, 0), (13, .if_icmp .ge 54, 3, 0, 0, 0, 0), (16, .iconst 2, 1, 0, 0, 0, 0), (17, .aload_n 0, 1, 0, 0, 0, 0), (18, .getfield 22, 3, 251, 2, 6, 0), (21, .iload 4, 2, 0, 0, 0, 0), (23, .iaload, 1, 0, 0, 0, 0), (24, .imul, 1, 0, 0, 0, 0), (25, .aload_n 0, 1, 0, 0, 0, 0), (26, .getfield 25, 3, 253, 2, 7, 0), (29, .iload 4, 2, 0, 0, 0, 0), (31, .iaload, 1, 0, 0, 0, 0), (32, .iadd, 1, 0, 0, 0, 0), (33, .istore 5, 2, 0, 0, 0, 0), (35, .iload_n 1, 1, 0, 0, 0, 0), (36, .iload 4, 2, 0, 0, 0, 0), (38, .ishr, 1, 0, 0, 0, 0), (39, .iconst 1, 1, 0, 0, 0, 0), (40, .iand, 1, 0, 0, 0, 0), (41, .ifCond .ne 20, 3, 0, 0, 0, 0), (44, .iload_n 2, 1, 0, 0, 0, 0), (45, .iconst (-1), 1, 0, 0, 0, 0), (46, .if_icmp .eq 9, 3, 0, 0, 0, 0), (49, .iload 5, 2, 0, 0, 0, 0), (51, .iload_n 3, 1, 0, 0, 0, 0), (52, .if_icmp .le 9, 3, 0, 0, 0, 0), (55, .iload 5, 2, 0, 0, 0, 0), (57, .istore_n 3, 1, 0, 0, 0, 0), (58, .iload 4, 2, 0, 0, 0, 0), (60, .istore_n 2, 1, 0, 0, 0, 0), (61, .iinc 4 1, 3, 0, 0, 0, 0), (64, .goto (-57), 3, 0, 0, 0, 0), (67, .iload_n 2, 1, 0, 0, 0, 0), (68, .ireturn, 1, 0, 0, 0, 0)]
set_option maxRecDepth 100000 in
set_option maxHeartbeats 4000000 in
theorem c_X2_mostDue (l : Launch) (G : vg_G) (hp : vg_Hp G) : vg_Ct l G vg_sh r_X2_mostDue := by
  refine vg_meth hp vg_sh_ok r_X2_mostDue k_X2_mostDue rfl (fun h => by cases h) o_X2_mostDue [] false (by decide +kernel) (by decide +kernel) ⟨_, _, rfl, rfl⟩ (fun _ h => absurd h List.not_mem_nil) (fun h => by cases h) 600 ?_
  intro as s0 hpre
  obtain ⟨r, a1, rfl, hr, i0⟩ := hpre
  simp only [List.mem_cons, List.not_mem_nil, or_false] at hr
  rcases hr with rfl | rfl
  ·
    have zm1 : (Int32.ofInt (-1)).toInt = -1 := by decide
    have z0 : (Int32.ofInt 0).toInt = 0 := by decide
    have z1 : (Int32.ofInt 1).toInt = 1 := by decide
    have z2 : (Int32.ofInt 2).toInt = 2 := by decide
    refine ⟨Nat.le_of_ble_eq_true rfl, [(7, [true, true, true, true, true, false], (fun L t => ∃ (x2 : Int32) (x3 : Int32) (x4 : Int32), L = [some (.ref 7), some (.int a1), some (.int x2), some (.int x3), some (.int x4), none] ∧ (0 : Int) ≤ x4.toInt ∧ x4.toInt ≤ (16 : Int) ∧ t = s0), (fun L _ => (0 + (16 - (vg_li L 4).toInt) * 1000000000000).toNat))], ?_, List.forall_mem_cons.mpr ⟨?_, fun _ h => absurd h List.not_mem_nil⟩⟩
    ·
      exact ⟨rfl, ⟨(Int32.ofInt (-1)), (Int32.ofInt 0), (Int32.ofInt 0), rfl, (by omega), (by omega), rfl⟩, trivial⟩
    ·
      intro L s6 hL
      obtain ⟨w1, w2, w3, rfl, b4, b5, q9⟩ := hL
      have q9 := q9.symm
      subst q9
      intro v10 e11
      have g12 : s0.1 7 0 = v10 := by rw [e11]
      have b13 : (1 : Int) ≤ v10.toInt ∧ v10.toInt ≤ 16 := by rw [e11]; exact Iv_7_0 i0
      refine And.intro (fun c14 => ?_) (fun c14 => ?_)
      · have c14 : v10.toInt ≤ w3.toInt := c14
        show s0 = s0 ∧ (True)
        exact ⟨rfl, (trivial)⟩
      · have c14 : ¬ (v10.toInt ≤ w3.toInt) := c14
        refine And.intro ⟨by omega, by omega⟩ ?_
        intro v15 e16
        intro v17 e18
        refine And.intro ⟨by omega, by omega⟩ ?_
        intro v19 e20
        intro v21 e22
        intro v23 e24
        intro v25 e26
        have b27 := vg_and e26 (by omega)
        refine And.intro (fun c28 => ?_) (fun c28 => ?_)
        · have c28 : ¬ v25.toInt = 0 := c28
          intro v29 e30
          have b31 := vg_add e30 (by omega) (by omega)
          exact ⟨rfl, ⟨w1, w2, v29, rfl, (by omega), (by omega), rfl⟩, (by show (0 + (16 - v29.toInt) * 1000000000000).toNat < (0 + (16 - w3.toInt) * 1000000000000).toNat; omega)⟩
        · have c28 : ¬ (¬ v25.toInt = 0) := c28
          refine And.intro (fun c32 => ?_) (fun c32 => ?_)
          · have c32 : w1.toInt = (Int32.ofInt (-1)).toInt := c32
            intro v33 e34
            have b35 := vg_add e34 (by omega) (by omega)
            exact ⟨rfl, ⟨w3, v21, v33, rfl, (by omega), (by omega), rfl⟩, (by show (0 + (16 - v33.toInt) * 1000000000000).toNat < (0 + (16 - w3.toInt) * 1000000000000).toNat; omega)⟩
          · have c32 : ¬ (w1.toInt = (Int32.ofInt (-1)).toInt) := c32
            refine And.intro (fun c36 => ?_) (fun c36 => ?_)
            · have c36 : v21.toInt ≤ w2.toInt := c36
              intro v37 e38
              have b39 := vg_add e38 (by omega) (by omega)
              exact ⟨rfl, ⟨w1, w2, v37, rfl, (by omega), (by omega), rfl⟩, (by show (0 + (16 - v37.toInt) * 1000000000000).toNat < (0 + (16 - w3.toInt) * 1000000000000).toNat; omega)⟩
            · have c36 : ¬ (v21.toInt ≤ w2.toInt) := c36
              intro v40 e41
              have b42 := vg_add e41 (by omega) (by omega)
              exact ⟨rfl, ⟨w3, v21, v40, rfl, (by omega), (by omega), rfl⟩, (by show (0 + (16 - v40.toInt) * 1000000000000).toNat < (0 + (16 - w3.toInt) * 1000000000000).toNat; omega)⟩
  ·
    have zm1 : (Int32.ofInt (-1)).toInt = -1 := by decide
    have z0 : (Int32.ofInt 0).toInt = 0 := by decide
    have z1 : (Int32.ofInt 1).toInt = 1 := by decide
    have z2 : (Int32.ofInt 2).toInt = 2 := by decide
    refine ⟨Nat.le_of_ble_eq_true rfl, [(7, [true, true, true, true, true, false], (fun L t => ∃ (x2 : Int32) (x3 : Int32) (x4 : Int32), L = [some (.ref 26), some (.int a1), some (.int x2), some (.int x3), some (.int x4), none] ∧ (0 : Int) ≤ x4.toInt ∧ x4.toInt ≤ (16 : Int) ∧ t = s0), (fun L _ => (0 + (16 - (vg_li L 4).toInt) * 1000000000000).toNat))], ?_, List.forall_mem_cons.mpr ⟨?_, fun _ h => absurd h List.not_mem_nil⟩⟩
    ·
      exact ⟨rfl, ⟨(Int32.ofInt (-1)), (Int32.ofInt 0), (Int32.ofInt 0), rfl, (by omega), (by omega), rfl⟩, trivial⟩
    ·
      intro L s6 hL
      obtain ⟨w1, w2, w3, rfl, b4, b5, q9⟩ := hL
      have q9 := q9.symm
      subst q9
      intro v10 e11
      have g12 : s0.1 26 0 = v10 := by rw [e11]
      have b13 : (1 : Int) ≤ v10.toInt ∧ v10.toInt ≤ 16 := by rw [e11]; exact Iv_26_0 i0
      refine And.intro (fun c14 => ?_) (fun c14 => ?_)
      · have c14 : v10.toInt ≤ w3.toInt := c14
        show s0 = s0 ∧ (True)
        exact ⟨rfl, (trivial)⟩
      · have c14 : ¬ (v10.toInt ≤ w3.toInt) := c14
        refine And.intro ⟨by omega, by omega⟩ ?_
        intro v15 e16
        intro v17 e18
        refine And.intro ⟨by omega, by omega⟩ ?_
        intro v19 e20
        intro v21 e22
        intro v23 e24
        intro v25 e26
        have b27 := vg_and e26 (by omega)
        refine And.intro (fun c28 => ?_) (fun c28 => ?_)
        · have c28 : ¬ v25.toInt = 0 := c28
          intro v29 e30
          have b31 := vg_add e30 (by omega) (by omega)
          exact ⟨rfl, ⟨w1, w2, v29, rfl, (by omega), (by omega), rfl⟩, (by show (0 + (16 - v29.toInt) * 1000000000000).toNat < (0 + (16 - w3.toInt) * 1000000000000).toNat; omega)⟩
        · have c28 : ¬ (¬ v25.toInt = 0) := c28
          refine And.intro (fun c32 => ?_) (fun c32 => ?_)
          · have c32 : w1.toInt = (Int32.ofInt (-1)).toInt := c32
            intro v33 e34
            have b35 := vg_add e34 (by omega) (by omega)
            exact ⟨rfl, ⟨w3, v21, v33, rfl, (by omega), (by omega), rfl⟩, (by show (0 + (16 - v33.toInt) * 1000000000000).toNat < (0 + (16 - w3.toInt) * 1000000000000).toNat; omega)⟩
          · have c32 : ¬ (w1.toInt = (Int32.ofInt (-1)).toInt) := c32
            refine And.intro (fun c36 => ?_) (fun c36 => ?_)
            · have c36 : v21.toInt ≤ w2.toInt := c36
              intro v37 e38
              have b39 := vg_add e38 (by omega) (by omega)
              exact ⟨rfl, ⟨w1, w2, v37, rfl, (by omega), (by omega), rfl⟩, (by show (0 + (16 - v37.toInt) * 1000000000000).toNat < (0 + (16 - w3.toInt) * 1000000000000).toNat; omega)⟩
            · have c36 : ¬ (v21.toInt ≤ w2.toInt) := c36
              intro v40 e41
              have b42 := vg_add e41 (by omega) (by omega)
              exact ⟨rfl, ⟨w3, v21, v40, rfl, (by omega), (by omega), rfl⟩, (by show (0 + (16 - v40.toInt) * 1000000000000).toNat < (0 + (16 - w3.toInt) * 1000000000000).toNat; omega)⟩
def o_X2_chooseTwice : List vg_I := [(0, .iconst 0, 1, 0, 0, 0, 0), (1, .istore_n 2, 1, 0, 0, 0, 0), (2, .iconst 0, 1, 0, 0, 0, 0), (3, .istore_n 3, 1, 0, 0, 0, 0), (4, .iload_n 3, 1, 0, 0, 0, 0), (5, .iload_n 1, 1, 0, 0, 0, 0), (6, .if_icmp .ge 19, 3, 0, 0, 0, 0), (9, .iload_n 2, 1, 0, 0, 0, 0), (10, .iconst 1, 1, 0, 0, 0, 0), (11, .aload_n 0, 1, 0, 0, 0, 0), (12, .iload_n 2, 1, 0, 0, 0, 0), (13, .invokevirtual 99, 3, 0, 2, 1, 737), (16, .ishl, 1, 0, 0, 0, 0), (17, .ior, 1, 0, 0, 0, 0), (18, .istore_n 2, 1, 0, 0, 0, 0), (19, .iinc 3 1, 3, 0, 0, 0, 0), (22, .goto (-18), 3, 0, 0, 0, 0), (25, .iload_n 2, 1, 0, 0, 0, 0), (26, .ireturn, 1, 0, 0, 0, 0)]
set_option maxRecDepth 100000 in
set_option maxHeartbeats 4000000 in
theorem c_X2_chooseTwice (l : Launch) (G : vg_G) (hp : vg_Hp G) : vg_Ct l G vg_sh r_X2_chooseTwice := by
  refine vg_meth hp vg_sh_ok r_X2_chooseTwice k_X2_chooseTwice rfl (fun h => by cases h) o_X2_chooseTwice [r_X2_mostDue] false (by decide +kernel) (by decide +kernel) ⟨_, _, rfl, rfl⟩ (List.forall_mem_cons.mpr ⟨⟨c_X2_mostDue l G hp, Nat.le_of_ble_eq_true rfl, Nat.le_of_ble_eq_true rfl⟩, fun _ h => absurd h List.not_mem_nil⟩) (fun h => by cases h) 600 ?_
  intro as s0 hpre
  obtain ⟨r, a1, rfl, hr, i0⟩ := hpre
  have ra1 := vg_rng a1
  simp only [List.mem_cons, List.not_mem_nil, or_false] at hr
  rcases hr with rfl | rfl
  ·
    have z0 : (Int32.ofInt 0).toInt = 0 := by decide
    have z1 : (Int32.ofInt 1).toInt = 1 := by decide
    refine ⟨Nat.le_of_ble_eq_true rfl, [(4, [true, true, true, true], (fun L t => ∃ (x2 : Int32) (x3 : Int32), L = [some (.ref 7), some (.int a1), some (.int x2), some (.int x3)] ∧ (0 : Int) ≤ x3.toInt ∧ t = s0), (fun L _ => (a1.toInt - (vg_li L 3).toInt).toNat))], ?_, List.forall_mem_cons.mpr ⟨?_, fun _ h => absurd h List.not_mem_nil⟩⟩
    ·
      exact ⟨rfl, ⟨(Int32.ofInt 0), (Int32.ofInt 0), rfl, (by omega), rfl⟩, trivial⟩
    ·
      intro L s4 hL
      obtain ⟨w1, w2, rfl, b3, q7⟩ := hL
      have q7 := q7.symm
      subst q7
      refine And.intro (fun c8 => ?_) (fun c8 => ?_)
      · have c8 : a1.toInt ≤ w2.toInt := c8
        show s0 = s0 ∧ (True)
        exact ⟨rfl, (trivial)⟩
      · have c8 : ¬ (a1.toInt ≤ w2.toInt) := c8
        refine And.intro (Nat.le_of_ble_eq_true rfl) (And.intro ⟨7, w1, rfl, by decide, i0⟩ ?_)
        intro v9 s11 h10
        have h10 : s11 = s0 ∧ (True) := h10
        have q14 := h10.1.symm
        subst q14
        intro v15 e16
        intro v17 e18
        intro v19 e20
        have b21 := vg_add e20 (by omega) (by omega)
        exact ⟨rfl, ⟨v17, v19, rfl, (by omega), rfl⟩, (by show (a1.toInt - v19.toInt).toNat < (a1.toInt - w2.toInt).toNat; omega)⟩
  ·
    have z0 : (Int32.ofInt 0).toInt = 0 := by decide
    have z1 : (Int32.ofInt 1).toInt = 1 := by decide
    refine ⟨Nat.le_of_ble_eq_true rfl, [(4, [true, true, true, true], (fun L t => ∃ (x2 : Int32) (x3 : Int32), L = [some (.ref 26), some (.int a1), some (.int x2), some (.int x3)] ∧ (0 : Int) ≤ x3.toInt ∧ t = s0), (fun L _ => (a1.toInt - (vg_li L 3).toInt).toNat))], ?_, List.forall_mem_cons.mpr ⟨?_, fun _ h => absurd h List.not_mem_nil⟩⟩
    ·
      exact ⟨rfl, ⟨(Int32.ofInt 0), (Int32.ofInt 0), rfl, (by omega), rfl⟩, trivial⟩
    ·
      intro L s4 hL
      obtain ⟨w1, w2, rfl, b3, q7⟩ := hL
      have q7 := q7.symm
      subst q7
      refine And.intro (fun c8 => ?_) (fun c8 => ?_)
      · have c8 : a1.toInt ≤ w2.toInt := c8
        show s0 = s0 ∧ (True)
        exact ⟨rfl, (trivial)⟩
      · have c8 : ¬ (a1.toInt ≤ w2.toInt) := c8
        refine And.intro (Nat.le_of_ble_eq_true rfl) (And.intro ⟨26, w1, rfl, by decide, i0⟩ ?_)
        intro v9 s11 h10
        have h10 : s11 = s0 ∧ (True) := h10
        have q14 := h10.1.symm
        subst q14
        intro v15 e16
        intro v17 e18
        intro v19 e20
        have b21 := vg_add e20 (by omega) (by omega)
        exact ⟨rfl, ⟨v17, v19, rfl, (by omega), rfl⟩, (by show (a1.toInt - v19.toInt).toNat < (a1.toInt - w2.toInt).toNat; omega)⟩
def o_X2_choose : List vg_I := [(0, .aload_n 0, 1, 0, 0, 0, 0), (1, .getfield 50, 3, 241, 2, 1, 0), (4, .lookupswitch 40 #[(1, 28), (2, 34)], 28, 0, 0, 0, 0), (32, .aload_n 0, 1, 0, 0, 0, 0), (33, .iload_n 1, 1, 0, 0, 0, 0), (34, .invokevirtual 93, 3, 0, 2, 1, 729), (37, .ireturn, 1, 0, 0, 0, 0), (38, .aload_n 0, 1, 0, 0, 0, 0), (39, .iload_n 1, 1, 0, 0, 0, 0), (40, .invokevirtual 96, 3, 1, 2, 1, 733), (43, .ireturn, 1, 0, 0, 0, 0), (44, .iconst 1, 1, 0, 0, 0, 0), (45, .iload_n 1, 1, 0, 0, 0, 0), (46, .ishl, 1, 0, 0, 0, 0), (47, .iconst 1, 1, 0, 0, 0, 0), (48, .isub, 1, 0, 0, 0, 0), (49, .ireturn, 1, 0, 0, 0, 0)]
set_option maxRecDepth 100000 in
set_option maxHeartbeats 4000000 in
theorem c_X2_choose (l : Launch) (G : vg_G) (hp : vg_Hp G) : vg_Ct l G vg_sh r_X2_choose := by
  refine vg_meth hp vg_sh_ok r_X2_choose k_X2_choose rfl (fun h => by cases h) o_X2_choose [r_X2_chooseRotated, r_X2_chooseTwice] false (by decide +kernel) (by decide +kernel) ⟨_, _, rfl, rfl⟩ (List.forall_mem_cons.mpr ⟨⟨c_X2_chooseRotated l G hp, Nat.le_of_ble_eq_true rfl, Nat.le_of_ble_eq_true rfl⟩, List.forall_mem_cons.mpr ⟨⟨c_X2_chooseTwice l G hp, Nat.le_of_ble_eq_true rfl, Nat.le_of_ble_eq_true rfl⟩, fun _ h => absurd h List.not_mem_nil⟩⟩) (fun h => by cases h) 600 ?_
  intro as s0 hpre
  obtain ⟨r, a1, rfl, hr, i0⟩ := hpre
  simp only [List.mem_cons, List.not_mem_nil, or_false] at hr
  rcases hr with rfl | rfl
  ·
    have z1 : (Int32.ofInt 1).toInt = 1 := by decide
    refine ⟨Nat.le_of_ble_eq_true rfl, [], ?_, fun _ h => absurd h List.not_mem_nil⟩
    ·
      intro v1 e2
      have g3 : s0.1 7 1 = v1 := by rw [e2]
      refine And.intro (fun c4 => ?_) (fun c4 => ?_)
      · have c4 : v1.toInt = (1) := c4
        refine And.intro (Nat.le_of_ble_eq_true rfl) (And.intro ⟨7, a1, rfl, by decide, i0⟩ ?_)
        intro v5 s7 h6
        have h6 : s7 = s0 ∧ (True) := h6
        have q10 := h6.1.symm
        subst q10
        show s0 = s0 ∧ (True)
        exact ⟨rfl, (trivial)⟩
      have c4 : ¬ (v1.toInt = (1)) := c4
      refine And.intro (fun c11 => ?_) (fun c11 => ?_)
      · have c11 : v1.toInt = (2) := c11
        refine And.intro (Nat.le_of_ble_eq_true rfl) (And.intro ⟨7, a1, rfl, by decide, i0⟩ ?_)
        intro v12 s14 h13
        have h13 : s14 = s0 ∧ (True) := h13
        have q17 := h13.1.symm
        subst q17
        show s0 = s0 ∧ (True)
        exact ⟨rfl, (trivial)⟩
      have c11 : ¬ (v1.toInt = (2)) := c11
      intro v18 e19
      intro v20 e21
      show s0 = s0 ∧ (True)
      exact ⟨rfl, (trivial)⟩
  ·
    have z1 : (Int32.ofInt 1).toInt = 1 := by decide
    refine ⟨Nat.le_of_ble_eq_true rfl, [], ?_, fun _ h => absurd h List.not_mem_nil⟩
    ·
      intro v1 e2
      have g3 : s0.1 26 1 = v1 := by rw [e2]
      refine And.intro (fun c4 => ?_) (fun c4 => ?_)
      · have c4 : v1.toInt = (1) := c4
        refine And.intro (Nat.le_of_ble_eq_true rfl) (And.intro ⟨26, a1, rfl, by decide, i0⟩ ?_)
        intro v5 s7 h6
        have h6 : s7 = s0 ∧ (True) := h6
        have q10 := h6.1.symm
        subst q10
        show s0 = s0 ∧ (True)
        exact ⟨rfl, (trivial)⟩
      have c4 : ¬ (v1.toInt = (1)) := c4
      refine And.intro (fun c11 => ?_) (fun c11 => ?_)
      · have c11 : v1.toInt = (2) := c11
        refine And.intro (Nat.le_of_ble_eq_true rfl) (And.intro ⟨26, a1, rfl, by decide, i0⟩ ?_)
        intro v12 s14 h13
        have h13 : s14 = s0 ∧ (True) := h13
        have q17 := h13.1.symm
        subst q17
        show s0 = s0 ∧ (True)
        exact ⟨rfl, (trivial)⟩
      have c11 : ¬ (v1.toInt = (2)) := c11
      intro v18 e19
      intro v20 e21
      show s0 = s0 ∧ (True)
      exact ⟨rfl, (trivial)⟩
def o_X2_runUpDebts : List vg_I := [(0, .iconst 0, 1, 0, 0, 0, 0), (1, .istore_n 2, 1, 0, 0, 0, 0), (2, .iload_n 2, 1, 0, 0, 0, 0), (3, .aload_n 0, 1, 0, 0, 0, 0), (4, .getfield 9, 3, 239, 2, 0, 0), (7, .if_icmp .ge 75, 3, 0, 0, 0, 0), (10, .aload_n 0, 1, 0, 0, 0, 0), (11, .getfield 31, 3, 245, 2, 3, 0), (14, .iload_n 2, 1, 0, 0, 0, 0), (15, .ishr, 1, 0, 0, 0, 0), (16, .iconst 1, 1, 0, 0, 0, 0), (17, .iand, 1, 0, 0, 0, 0), (18, .iconst 1, 1, 0, 0, 0, 0), (19, .if_icmp .ne 10, 3, 0, 0, 0, 0), (22, .aload_n 0, 1, 0, 0, 0, 0), (23, .getfield 9, 3, 239, 2, 0, 0), (26, .goto 4, 3, 0, 0, 0, 0), (29, .iconst 0, 1, 0, 0, 0, 0), (30, .istore_n 3, 1, 0, 0, 0, 0), (31, .aload_n 0, 1, 0, 0, 0, 0), (32, .getfield 22, 3, 251, 2, 6, 0), (35, .iload_n 2, 1, 0, 0, 0, 0), (36, .aload_n 0, 1, 0, 0, 0, 0), (37, .getfield 22, 3, 251, 2, 6, 0), (40, .iload_n 2, 1, 0, 0, 0, 0), (41, .iaload, 1, 0, 0, 0, 0), (42, .iload_n 1, 1, 0, 0, 0, 0), (43, .iadd, 1, 0, 0, 0, 0), (44, .iload_n 3, 1, 0, 0, 0, 0), (45, .isub, 1, 0, 0, 0, 0), (46, .ldc 102, 2, 745, 0, 0, 1000000), (48, .invokestatic 103, 3, 0, 2, 2, 3), (51, .iastore, 1, 0, 0, 0, 0), (52, .aload_n 0, 1, 0, 0, 0, 0), (53, .getfield 25, 3, 253, 2, 7, 0), (56, .iload_n 2, 1, 0, 0, 0, 0), (57, .aload_n 0, 1, 0, 0, 0, 0), (58, .getfield 25, 3, 253, 2, 7, 0), (61, .iload_n 2, 1, 0, 0, 0, 0), (62, .iaload, 1, 0, 0, 0, 0), (63, .aload_n 0, 1, 0, 0, 0, 0), (64, .getfield 22, 3, 251, 2, 6, 0), (67, .iload_n 2, 1, 0, 0, 0, 0), (68, .iaload, 1, 0, 0, 0, 0), (69, .iadd, 1, 0, 0, 0, 0), (70, .ldc 102, 2, 745, 0, 0, 1000000), (72, .invokestatic 103, 3, 0, 2, 2, 3), (75, .iastore, 1, 0, 0, 0, 0), (76, .iinc 2 1, 3, 0, 0, 0, 0), (79, .goto (-77), 3, 0, 0, 0, 0), (82, .return_, 1, 0, 0, 0, 0)]
set_option maxRecDepth 100000 in
set_option maxHeartbeats 4000000 in
theorem c_X2_runUpDebts (l : Launch) (G : vg_G) (hp : vg_Hp G) : vg_Ct l G vg_sh r_X2_runUpDebts := by
  refine vg_meth hp vg_sh_ok r_X2_runUpDebts k_X2_runUpDebts rfl (fun h => by cases h) o_X2_runUpDebts [r_X10_putTo] false (by decide +kernel) (by decide +kernel) ⟨_, _, rfl, rfl⟩ (List.forall_mem_cons.mpr ⟨⟨c_X10_putTo l G hp, Nat.le_of_ble_eq_true rfl, Nat.le_of_ble_eq_true rfl⟩, fun _ h => absurd h List.not_mem_nil⟩) (fun h => by cases h) 600 ?_
  intro as s0 hpre
  obtain ⟨r, a1, rfl, hr, i0⟩ := hpre
  simp only [List.mem_cons, List.not_mem_nil, or_false] at hr
  rcases hr with rfl | rfl
  ·
    have z0 : (Int32.ofInt 0).toInt = 0 := by decide
    have z1 : (Int32.ofInt 1).toInt = 1 := by decide
    have z1000000 : (Int32.ofInt 1000000).toInt = 1000000 := by decide
    refine ⟨Nat.le_of_ble_eq_true rfl, [(2, [true, true, true, false], (fun L t => ∃ (x2 : Int32), L = [some (.ref 7), some (.int a1), some (.int x2), none] ∧ (0 : Int) ≤ x2.toInt ∧ x2.toInt ≤ (16 : Int) ∧ Iv t ∧ Kp s0 t ∧ vk t = ((vk s0).1, (vk s0).2)), (fun L _ => (0 + (16 - (vg_li L 2).toInt) * 1000000000000).toNat))], ?_, List.forall_mem_cons.mpr ⟨?_, fun _ h => absurd h List.not_mem_nil⟩⟩
    ·
      exact ⟨rfl, ⟨(Int32.ofInt 0), rfl, (by omega), (by omega), i0, Kx.rf, rfl⟩, trivial⟩
    ·
      intro L s4 hL
      obtain ⟨w1, rfl, b2, b3, i5, k6, u7⟩ := hL
      intro v8 e9
      have g10 : s4.1 7 0 = v8 := by rw [e9]
      have b11 : (1 : Int) ≤ v8.toInt ∧ v8.toInt ≤ 16 := by rw [e9]; exact Iv_7_0 i5
      refine And.intro (fun c12 => ?_) (fun c12 => ?_)
      · have c12 : v8.toInt ≤ w1.toInt := c12
        show Iv s4 ∧ Kp s0 s4 ∧ vk s4 = ((vk s0).1, (vk s0).2) ∧ (True)
        exact ⟨i5, k6, u7, (trivial)⟩
      · have c12 : ¬ (v8.toInt ≤ w1.toInt) := c12
        intro v13 e14
        have g15 : s4.1 7 3 = v13 := by rw [e14]
        intro v16 e17
        intro v18 e19
        have b20 := vg_and e19 (by omega)
        refine And.intro (fun c21 => ?_) (fun c21 => ?_)
        · have c21 : ¬ v18.toInt = (Int32.ofInt 1).toInt := c21
          refine And.intro ⟨by omega, by omega⟩ ?_
          intro v22 e23
          intro v24 e25
          intro v26 e27
          refine And.intro (Nat.le_of_ble_eq_true rfl) (And.intro ⟨v26, (Int32.ofInt 1000000), rfl, trivial⟩ ?_)
          intro v28 s30 h29
          have h29 : s30 = s4 ∧ (True) := h29
          have q33 := h29.1.symm
          subst q33
          refine And.intro ⟨by omega, by omega⟩ ?_
          intro s34 e35
          have i36 : Iv s34 := Iv.a1 i5 e35 rfl
          have k37 : Kp s0 s34 := Kx.u1 k6 e35 rfl
          have u38 : vk s34 = ((vk s0).1, (vk s0).2) := vk_k1 u7 e35 rfl
          refine And.intro ⟨by omega, by omega⟩ ?_
          intro v39 e40
          refine And.intro ⟨by omega, by omega⟩ ?_
          intro v41 e42
          intro v43 e44
          refine And.intro (Nat.le_of_ble_eq_true rfl) (And.intro ⟨v43, (Int32.ofInt 1000000), rfl, trivial⟩ ?_)
          intro v45 s47 h46
          have h46 : s47 = s34 ∧ (True) := h46
          have q50 := h46.1.symm
          subst q50
          refine And.intro ⟨by omega, by omega⟩ ?_
          intro s51 e52
          have i53 : Iv s51 := Iv.a1 i36 e52 rfl
          have k54 : Kp s0 s51 := Kx.u1 k37 e52 rfl
          have u55 : vk s51 = ((vk s0).1, (vk s0).2) := vk_k1 u38 e52 rfl
          intro v56 e57
          have b58 := vg_add e57 (by omega) (by omega)
          exact ⟨rfl, ⟨v56, rfl, (by omega), (by omega), i53, k54, u55⟩, (by show (0 + (16 - v56.toInt) * 1000000000000).toNat < (0 + (16 - w1.toInt) * 1000000000000).toNat; omega)⟩
        · have c21 : ¬ (¬ v18.toInt = (Int32.ofInt 1).toInt) := c21
          intro v59 e60
          have w61 : v8 = v59 := by rw [e60, g10]
          subst w61
          refine And.intro ⟨by omega, by omega⟩ ?_
          intro v62 e63
          intro v64 e65
          intro v66 e67
          refine And.intro (Nat.le_of_ble_eq_true rfl) (And.intro ⟨v66, (Int32.ofInt 1000000), rfl, trivial⟩ ?_)
          intro v68 s70 h69
          have h69 : s70 = s4 ∧ (True) := h69
          have q73 := h69.1.symm
          subst q73
          refine And.intro ⟨by omega, by omega⟩ ?_
          intro s74 e75
          have i76 : Iv s74 := Iv.a1 i5 e75 rfl
          have k77 : Kp s0 s74 := Kx.u1 k6 e75 rfl
          have u78 : vk s74 = ((vk s0).1, (vk s0).2) := vk_k1 u7 e75 rfl
          refine And.intro ⟨by omega, by omega⟩ ?_
          intro v79 e80
          refine And.intro ⟨by omega, by omega⟩ ?_
          intro v81 e82
          intro v83 e84
          refine And.intro (Nat.le_of_ble_eq_true rfl) (And.intro ⟨v83, (Int32.ofInt 1000000), rfl, trivial⟩ ?_)
          intro v85 s87 h86
          have h86 : s87 = s74 ∧ (True) := h86
          have q90 := h86.1.symm
          subst q90
          refine And.intro ⟨by omega, by omega⟩ ?_
          intro s91 e92
          have i93 : Iv s91 := Iv.a1 i76 e92 rfl
          have k94 : Kp s0 s91 := Kx.u1 k77 e92 rfl
          have u95 : vk s91 = ((vk s0).1, (vk s0).2) := vk_k1 u78 e92 rfl
          intro v96 e97
          have b98 := vg_add e97 (by omega) (by omega)
          exact ⟨rfl, ⟨v96, rfl, (by omega), (by omega), i93, k94, u95⟩, (by show (0 + (16 - v96.toInt) * 1000000000000).toNat < (0 + (16 - w1.toInt) * 1000000000000).toNat; omega)⟩
  ·
    have z0 : (Int32.ofInt 0).toInt = 0 := by decide
    have z1 : (Int32.ofInt 1).toInt = 1 := by decide
    have z1000000 : (Int32.ofInt 1000000).toInt = 1000000 := by decide
    refine ⟨Nat.le_of_ble_eq_true rfl, [(2, [true, true, true, false], (fun L t => ∃ (x2 : Int32), L = [some (.ref 26), some (.int a1), some (.int x2), none] ∧ (0 : Int) ≤ x2.toInt ∧ x2.toInt ≤ (16 : Int) ∧ Iv t ∧ Kp s0 t ∧ vk t = ((vk s0).1, (vk s0).2)), (fun L _ => (0 + (16 - (vg_li L 2).toInt) * 1000000000000).toNat))], ?_, List.forall_mem_cons.mpr ⟨?_, fun _ h => absurd h List.not_mem_nil⟩⟩
    ·
      exact ⟨rfl, ⟨(Int32.ofInt 0), rfl, (by omega), (by omega), i0, Kx.rf, rfl⟩, trivial⟩
    ·
      intro L s4 hL
      obtain ⟨w1, rfl, b2, b3, i5, k6, u7⟩ := hL
      intro v8 e9
      have g10 : s4.1 26 0 = v8 := by rw [e9]
      have b11 : (1 : Int) ≤ v8.toInt ∧ v8.toInt ≤ 16 := by rw [e9]; exact Iv_26_0 i5
      refine And.intro (fun c12 => ?_) (fun c12 => ?_)
      · have c12 : v8.toInt ≤ w1.toInt := c12
        show Iv s4 ∧ Kp s0 s4 ∧ vk s4 = ((vk s0).1, (vk s0).2) ∧ (True)
        exact ⟨i5, k6, u7, (trivial)⟩
      · have c12 : ¬ (v8.toInt ≤ w1.toInt) := c12
        intro v13 e14
        have g15 : s4.1 26 3 = v13 := by rw [e14]
        intro v16 e17
        intro v18 e19
        have b20 := vg_and e19 (by omega)
        refine And.intro (fun c21 => ?_) (fun c21 => ?_)
        · have c21 : ¬ v18.toInt = (Int32.ofInt 1).toInt := c21
          refine And.intro ⟨by omega, by omega⟩ ?_
          intro v22 e23
          intro v24 e25
          intro v26 e27
          refine And.intro (Nat.le_of_ble_eq_true rfl) (And.intro ⟨v26, (Int32.ofInt 1000000), rfl, trivial⟩ ?_)
          intro v28 s30 h29
          have h29 : s30 = s4 ∧ (True) := h29
          have q33 := h29.1.symm
          subst q33
          refine And.intro ⟨by omega, by omega⟩ ?_
          intro s34 e35
          have i36 : Iv s34 := Iv.a1 i5 e35 rfl
          have k37 : Kp s0 s34 := Kx.u1 k6 e35 rfl
          have u38 : vk s34 = ((vk s0).1, (vk s0).2) := vk_k1 u7 e35 rfl
          refine And.intro ⟨by omega, by omega⟩ ?_
          intro v39 e40
          refine And.intro ⟨by omega, by omega⟩ ?_
          intro v41 e42
          intro v43 e44
          refine And.intro (Nat.le_of_ble_eq_true rfl) (And.intro ⟨v43, (Int32.ofInt 1000000), rfl, trivial⟩ ?_)
          intro v45 s47 h46
          have h46 : s47 = s34 ∧ (True) := h46
          have q50 := h46.1.symm
          subst q50
          refine And.intro ⟨by omega, by omega⟩ ?_
          intro s51 e52
          have i53 : Iv s51 := Iv.a1 i36 e52 rfl
          have k54 : Kp s0 s51 := Kx.u1 k37 e52 rfl
          have u55 : vk s51 = ((vk s0).1, (vk s0).2) := vk_k1 u38 e52 rfl
          intro v56 e57
          have b58 := vg_add e57 (by omega) (by omega)
          exact ⟨rfl, ⟨v56, rfl, (by omega), (by omega), i53, k54, u55⟩, (by show (0 + (16 - v56.toInt) * 1000000000000).toNat < (0 + (16 - w1.toInt) * 1000000000000).toNat; omega)⟩
        · have c21 : ¬ (¬ v18.toInt = (Int32.ofInt 1).toInt) := c21
          intro v59 e60
          have w61 : v8 = v59 := by rw [e60, g10]
          subst w61
          refine And.intro ⟨by omega, by omega⟩ ?_
          intro v62 e63
          intro v64 e65
          intro v66 e67
          refine And.intro (Nat.le_of_ble_eq_true rfl) (And.intro ⟨v66, (Int32.ofInt 1000000), rfl, trivial⟩ ?_)
          intro v68 s70 h69
          have h69 : s70 = s4 ∧ (True) := h69
          have q73 := h69.1.symm
          subst q73
          refine And.intro ⟨by omega, by omega⟩ ?_
          intro s74 e75
          have i76 : Iv s74 := Iv.a1 i5 e75 rfl
          have k77 : Kp s0 s74 := Kx.u1 k6 e75 rfl
          have u78 : vk s74 = ((vk s0).1, (vk s0).2) := vk_k1 u7 e75 rfl
          refine And.intro ⟨by omega, by omega⟩ ?_
          intro v79 e80
          refine And.intro ⟨by omega, by omega⟩ ?_
          intro v81 e82
          intro v83 e84
          refine And.intro (Nat.le_of_ble_eq_true rfl) (And.intro ⟨v83, (Int32.ofInt 1000000), rfl, trivial⟩ ?_)
          intro v85 s87 h86
          have h86 : s87 = s74 ∧ (True) := h86
          have q90 := h86.1.symm
          subst q90
          refine And.intro ⟨by omega, by omega⟩ ?_
          intro s91 e92
          have i93 : Iv s91 := Iv.a1 i76 e92 rfl
          have k94 : Kp s0 s91 := Kx.u1 k77 e92 rfl
          have u95 : vk s91 = ((vk s0).1, (vk s0).2) := vk_k1 u78 e92 rfl
          intro v96 e97
          have b98 := vg_add e97 (by omega) (by omega)
          exact ⟨rfl, ⟨v96, rfl, (by omega), (by omega), i93, k94, u95⟩, (by show (0 + (16 - v96.toInt) * 1000000000000).toNat < (0 + (16 - w1.toInt) * 1000000000000).toNat; omega)⟩
def o_X2_take : List vg_I := [(0, .aload_n 0, 1, 0, 0, 0, 0), (1, .aload_n 0, 1, 0, 0, 0, 0), (2, .iload_n 1, 1, 0, 0, 0, 0), (3, .invokevirtual 75, 3, 0, 2, 1, 725), (6, .putfield 31, 3, 245, 2, 3, 0), (9, .iconst 0, 1, 0, 0, 0, 0), (10, .istore_n 2, 1, 0, 0, 0, 0), (11, .iload_n 2, 1, 0, 0, 0, 0), (12, .aload_n 0, 1, 0, 0, 0, 0), (13, .getfield 9, 3, 239, 2, 0, 0), (16, .if_icmp .ge 26, 3, 0, 0, 0, 0), (19, .aload_n 0, 1, 0, 0, 0, 0), (20, .getfield 19, 3, 249, 2, 5, 0), (23, .iload_n 2, 1, 0, 0, 0, 0), (24, .dup2, 1, 0, 0, 0, 0), (25, .iaload, 1, 0, 0, 0, 0), (26, .aload_n 0, 1, 0, 0, 0, 0), (27, .getfield 31, 3, 245, 2, 3, 0), (30, .iload_n 2, 1, 0, 0, 0, 0), (31, .ishr, 1, 0, 0, 0, 0), (32, .iconst 1, 1, 0, 0, 0, 0), (33, .iand, 1, 0, 0, 0, 0), (34, .iadd, 1, 0, 0, 0, 0), (35, .iastore, 1, 0, 0, 0, 0), (36, .iinc 2 1, 3, 0, 0, 0, 0), (39, .goto (-28), 3, 0, 0, 0, 0), (42, .aload_n 0, 1, 0, 0, 0, 0), (43, .getfield 50, 3, 241, 2, 1, 0), (46, .iconst 1, 1, 0, 0, 0, 0), (47, .if_icmp .ne 18, 3, 0, 0, 0, 0), (50, .aload_n 0, 1, 0, 0, 0, 0), (51, .aload_n 0, 1, 0, 0, 0, 0), (52, .getfield 28, 3, 243, 2, 2, 0), (55, .iload_n 1, 1, 0, 0, 0, 0), (56, .iadd, 1, 0, 0, 0, 0), (57, .aload_n 0, 1, 0, 0, 0, 0), (58, .getfield 9, 3, 239, 2, 0, 0), (61, .irem, 1, 0, 0, 0, 0), (62, .putfield 28, 3, 243, 2, 2, 0), (65, .aload_n 0, 1, 0, 0, 0, 0), (66, .getfield 50, 3, 241, 2, 1, 0), (69, .iconst 2, 1, 0, 0, 0, 0), (70, .if_icmp .ne 8, 3, 0, 0, 0, 0), (73, .aload_n 0, 1, 0, 0, 0, 0), (74, .iload_n 1, 1, 0, 0, 0, 0), (75, .invokevirtual 78, 3, 1, 2, 1, 741), (78, .aload_n 0, 1, 0, 0, 0, 0), (79, .aload_n 0, 1, 0, 0, 0, 0), (80, .getfield 31, 3, 245, 2, 3, 0), (83, .invokevirtual 62, 3, 2, 2, 1, 560), (86, .istore_n 2, 1, 0, 0, 0, 0), (87, .aload_n 0, 1, 0, 0, 0, 0), (88, .dup, 1, 0, 0, 0, 0), (89, .getfield 47, 3, 259, 2, 10, 0), (92, .iload_n 2, 1, 0, 0, 0, 0), (93, .i2l, 1, 0, 0, 0, 0), (94, .ladd, 1, 0, 0, 0, 0), (95, .putfield 47, 3, 259, 2, 10, 2), (98, .aload_n 0, 1, 0, 0, 0, 0), (99, .dup, 1, 0, 0, 0, 0), (100, .getfield 40, 3, 255, 2, 8, 0), (103, .aload_n 0, 1, 0, 0, 0, 0), (104, .getfield 9, 3, 239, 2, 0, 0), (107, .i2l, 1, 0, 0, 0, 0), (108, .iload_n 2, 1, 0, 0, 0, 0), (109, .i2l, 1, 0, 0, 0, 0), (110, .lmul, 1, 0, 0, 0, 0), (111, .iload_n 1, 1, 0, 0, 0, 0), (112, .i2l, 1, 0, 0, 0, 0), (113, .aload_n 0, 1, 0, 0, 0, 0), (114, .invokevirtual 82, 3, 3, 2, 0, 747), (117, .i2l, 1, 0, 0, 0, 0), (118, .lmul, 1, 0, 0, 0, 0), (119, .lsub, 1, 0, 0, 0, 0), (120, .ladd, 1, 0, 0, 0, 0), (121, .putfield 40, 3, 255, 2, 8, 2), (124, .aload_n 0, 1, 0, 0, 0, 0), (125, .aload_n 0, 1, 0, 0, 0, 0), (126, .getfield 44, 3, 257, 2, 9, 0), (129, .aload_n 0, 1, 0, 0, 0, 0), (130, .getfield 40, 3, 255, 2, 8, 0), (133, .invokestatic 86, 3, 4, 1, 1, 748), (136, .invokestatic 90, 3, 5, 1, 2, 749), (139, .putfield 44, 3, 257, 2, 9, 2), (142, .iload_n 2, 1, 0, 0, 0, 0), (143, .ireturn, 1, 0, 0, 0, 0)]
set_option maxRecDepth 100000 in
set_option maxHeartbeats 4000000 in
theorem c_X2_take (l : Launch) (G : vg_G) (hp : vg_Hp G) : vg_Ct l G vg_sh r_X2_take := by
  refine vg_meth hp vg_sh_ok r_X2_take k_X2_take rfl (fun h => by cases h) o_X2_take [r_X2_choose, r_X2_runUpDebts, r_X2_weightsOf, r_X2_allWeights, r_J9_abs_067f4, r_J9_max_f86c9] false (by decide +kernel) (by decide +kernel) ⟨_, _, rfl, rfl⟩ (List.forall_mem_cons.mpr ⟨⟨c_X2_choose l G hp, Nat.le_of_ble_eq_true rfl, Nat.le_of_ble_eq_true rfl⟩, List.forall_mem_cons.mpr ⟨⟨c_X2_runUpDebts l G hp, Nat.le_of_ble_eq_true rfl, Nat.le_of_ble_eq_true rfl⟩, List.forall_mem_cons.mpr ⟨⟨c_X2_weightsOf l G hp, Nat.le_of_ble_eq_true rfl, Nat.le_of_ble_eq_true rfl⟩, List.forall_mem_cons.mpr ⟨⟨c_X2_allWeights l G hp, Nat.le_of_ble_eq_true rfl, Nat.le_of_ble_eq_true rfl⟩, List.forall_mem_cons.mpr ⟨⟨c_J9_abs_067f4 l G hp, Nat.le_of_ble_eq_true rfl, Nat.le_of_ble_eq_true rfl⟩, List.forall_mem_cons.mpr ⟨⟨c_J9_max_f86c9 l G hp, Nat.le_of_ble_eq_true rfl, Nat.le_of_ble_eq_true rfl⟩, fun _ h => absurd h List.not_mem_nil⟩⟩⟩⟩⟩⟩) (fun h => by cases h) 600 ?_
  intro as s0 hpre
  obtain ⟨r, a1, rfl, hr, i0⟩ := hpre
  simp only [List.mem_cons, List.not_mem_nil, or_false] at hr
  rcases hr with rfl | rfl
  ·
    have z0 : (Int32.ofInt 0).toInt = 0 := by decide
    have z1 : (Int32.ofInt 1).toInt = 1 := by decide
    have z2 : (Int32.ofInt 2).toInt = 2 := by decide
    refine ⟨Nat.le_of_ble_eq_true rfl, [(11, [true, true, true], (fun L t => ∃ (x2 : Int32), L = [some (.ref 7), some (.int a1), some (.int x2)] ∧ (0 : Int) ≤ x2.toInt ∧ x2.toInt ≤ (16 : Int) ∧ Iv t ∧ Kp s0 t ∧ vk t = ((vk s0).1, (vk s0).2)), (fun L _ => (0 + (16 - (vg_li L 2).toInt) * 1000000000000).toNat))], ?_, List.forall_mem_cons.mpr ⟨?_, fun _ h => absurd h List.not_mem_nil⟩⟩
    ·
      refine And.intro (Nat.le_of_ble_eq_true rfl) (And.intro ⟨7, a1, rfl, by decide, i0⟩ ?_)
      intro v1 s3 h2
      have h2 : s3 = s0 ∧ (True) := h2
      have q6 := h2.1.symm
      subst q6
      intro s7 e8
      have i9 : Iv s7 := Iv.u1 i0 e8 rfl
      have k10 : Kp s0 s7 := Kx.u1 Kx.rf e8 rfl
      have u11 : vk s7 = ((vk s0).1, (vk s0).2) := vk_k1 rfl e8 rfl
      exact ⟨rfl, ⟨(Int32.ofInt 0), rfl, (by omega), (by omega), i9, k10, u11⟩, trivial⟩
    ·
      intro L s15 hL
      obtain ⟨w12, rfl, b13, b14, i16, k17, u18⟩ := hL
      intro v19 e20
      have g21 : s15.1 7 0 = v19 := by rw [e20]
      have b22 : (1 : Int) ≤ v19.toInt ∧ v19.toInt ≤ 16 := by rw [e20]; exact Iv_7_0 i16
      refine And.intro (fun c23 => ?_) (fun c23 => ?_)
      · have c23 : v19.toInt ≤ w12.toInt := c23
        intro v24 e25
        have g26 : s15.1 7 1 = v24 := by rw [e25]
        refine And.intro (fun c27 => ?_) (fun c27 => ?_)
        · have c27 : ¬ v24.toInt = (Int32.ofInt 1).toInt := c27
          intro v28 e29
          have w30 : v24 = v28 := by rw [e29, g26]
          subst w30
          refine And.intro (fun c31 => ?_) (fun c31 => ?_)
          · have c31 : ¬ v24.toInt = (Int32.ofInt 2).toInt := c31
            intro v32 e33
            have g34 : s15.1 7 3 = v32 := by rw [e33]
            refine And.intro (Nat.le_of_ble_eq_true rfl) (And.intro ⟨7, v32, rfl, by decide, i16⟩ ?_)
            intro v35 s37 h36
            have h36 : s37 = s15 ∧ ((∀ i : Int32, 0 ≤ i.toInt → i.toInt < (s15.1 7 0).toInt → ((v32 >>> (i &&& (31 : Int32))) &&& Int32.ofInt 1).toInt = (Int32.ofInt 1).toInt) → v35 = vg_ws (s15.1 8) (s15.1 7 0).toNatClampNeg) := h36
            have q40 := h36.1.symm
            subst q40
            have q41 := h36.2
            intro v42 e43
            intro v44 e45
            intro v46 e47
            intro s48 e49
            have i50 : Iv s48 := Iv.u2 i16 e49
            have k51 : Kp s0 s48 := Kx.u2 k17 e49 (vg_kq_no ⟨rfl, rfl, rfl⟩).1
            have u52 : vk s48 = ((vk s0).1, (vk s0).2) := vk_k2 u18 e49 rfl
            intro v53 e54
            intro v55 e56
            have w57 : v19 = v55 := by rw [e56, e49, vg_u2_1, g21]
            subst w57
            intro v58 e59
            have b60 := vg_i2l e59
            intro v61 e62
            intro v63 e64
            intro v65 e66
            refine And.intro (Nat.le_of_ble_eq_true rfl) (And.intro ⟨7, rfl, by decide, i50⟩ ?_)
            intro v67 s69 h68
            have h68 : s69 = s48 ∧ (v67 = vg_ws (s48.1 8) (s48.1 7 0).toNatClampNeg) := h68
            have q72 := h68.1.symm
            subst q72
            have q73 := h68.2
            intro v74 e75
            intro v76 e77
            intro v78 e79
            intro v80 e81
            intro s82 e83
            have i84 : Iv s82 := Iv.u2 i50 e83
            have k85 : Kp s0 s82 := Kx.u2 k51 e83 (vg_kq_no ⟨rfl, rfl, rfl⟩).1
            have u86 : vk s82 = ((vk s0).1, (vk s0).2) := vk_k2 u52 e83 rfl
            intro v87 e88
            intro v89 e90
            refine And.intro (Nat.le_of_ble_eq_true rfl) (And.intro ⟨v89, rfl, trivial⟩ ?_)
            intro v91 s93 h92
            have h92 : s93 = s82 ∧ (True) := h92
            have q96 := h92.1.symm
            subst q96
            refine And.intro (Nat.le_of_ble_eq_true rfl) (And.intro ⟨v87, v91, rfl, trivial⟩ ?_)
            intro v97 s99 h98
            have h98 : s99 = s82 ∧ (True) := h98
            have q102 := h98.1.symm
            subst q102
            intro s103 e104
            have i105 : Iv s103 := Iv.u2 i84 e104
            have k106 : Kp s0 s103 := Kx.u2 k85 e104 (vg_kq_no ⟨rfl, rfl, rfl⟩).1
            have u107 : vk s103 = ((vk s0).1, (vk s0).2) := vk_k2 u86 e104 rfl
            show Iv s103 ∧ Kp s0 s103 ∧ vk s103 = ((vk s0).1, (vk s0).2) ∧ (True)
            exact ⟨i105, k106, u107, (trivial)⟩
          · have c31 : ¬ (¬ v24.toInt = (Int32.ofInt 2).toInt) := c31
            refine And.intro (Nat.le_of_ble_eq_true rfl) (And.intro ⟨7, a1, rfl, by decide, i16⟩ ?_)
            intro s109 h108
            have h108 : Iv s109 ∧ Kp s15 s109 ∧ vk s109 = ((vk s15).1, (vk s15).2) ∧ (True) := h108
            have i110 := h108.1
            have k111 : Kp s0 s109 := Kx.tr k17 (h108.2.1)
            have u112 : vk s109 = ((vk s0).1, (vk s0).2) := h108.2.2.1.trans u18
            intro v113 e114
            have g115 : s109.1 7 3 = v113 := by rw [e114]
            refine And.intro (Nat.le_of_ble_eq_true rfl) (And.intro ⟨7, v113, rfl, by decide, i110⟩ ?_)
            intro v116 s118 h117
            have h117 : s118 = s109 ∧ ((∀ i : Int32, 0 ≤ i.toInt → i.toInt < (s109.1 7 0).toInt → ((v113 >>> (i &&& (31 : Int32))) &&& Int32.ofInt 1).toInt = (Int32.ofInt 1).toInt) → v116 = vg_ws (s109.1 8) (s109.1 7 0).toNatClampNeg) := h117
            have q121 := h117.1.symm
            subst q121
            have q122 := h117.2
            intro v123 e124
            intro v125 e126
            intro v127 e128
            intro s129 e130
            have i131 : Iv s129 := Iv.u2 i110 e130
            have k132 : Kp s0 s129 := Kx.u2 k111 e130 (vg_kq_no ⟨rfl, rfl, rfl⟩).1
            have u133 : vk s129 = ((vk s0).1, (vk s0).2) := vk_k2 u112 e130 rfl
            intro v134 e135
            intro v136 e137
            have g138 : s109.1 7 0 = v136 := by rw [e137, e130, vg_u2_1]
            have b139 : (1 : Int) ≤ v136.toInt ∧ v136.toInt ≤ 16 := by rw [e137]; exact Iv_7_0 i131
            intro v140 e141
            have b142 := vg_i2l e141
            intro v143 e144
            intro v145 e146
            intro v147 e148
            refine And.intro (Nat.le_of_ble_eq_true rfl) (And.intro ⟨7, rfl, by decide, i131⟩ ?_)
            intro v149 s151 h150
            have h150 : s151 = s129 ∧ (v149 = vg_ws (s129.1 8) (s129.1 7 0).toNatClampNeg) := h150
            have q154 := h150.1.symm
            subst q154
            have q155 := h150.2
            intro v156 e157
            intro v158 e159
            intro v160 e161
            intro v162 e163
            intro s164 e165
            have i166 : Iv s164 := Iv.u2 i131 e165
            have k167 : Kp s0 s164 := Kx.u2 k132 e165 (vg_kq_no ⟨rfl, rfl, rfl⟩).1
            have u168 : vk s164 = ((vk s0).1, (vk s0).2) := vk_k2 u133 e165 rfl
            intro v169 e170
            intro v171 e172
            refine And.intro (Nat.le_of_ble_eq_true rfl) (And.intro ⟨v171, rfl, trivial⟩ ?_)
            intro v173 s175 h174
            have h174 : s175 = s164 ∧ (True) := h174
            have q178 := h174.1.symm
            subst q178
            refine And.intro (Nat.le_of_ble_eq_true rfl) (And.intro ⟨v169, v173, rfl, trivial⟩ ?_)
            intro v179 s181 h180
            have h180 : s181 = s164 ∧ (True) := h180
            have q184 := h180.1.symm
            subst q184
            intro s185 e186
            have i187 : Iv s185 := Iv.u2 i166 e186
            have k188 : Kp s0 s185 := Kx.u2 k167 e186 (vg_kq_no ⟨rfl, rfl, rfl⟩).1
            have u189 : vk s185 = ((vk s0).1, (vk s0).2) := vk_k2 u168 e186 rfl
            show Iv s185 ∧ Kp s0 s185 ∧ vk s185 = ((vk s0).1, (vk s0).2) ∧ (True)
            exact ⟨i187, k188, u189, (trivial)⟩
        · have c27 : ¬ (¬ v24.toInt = (Int32.ofInt 1).toInt) := c27
          intro v190 e191
          have g192 : s15.1 7 2 = v190 := by rw [e191]
          intro v193 e194
          intro v195 e196
          have w197 : v19 = v195 := by rw [e196, g21]
          subst w197
          refine And.intro (by omega) ?_
          intro v198 e199
          have b200 := vg_remx e199 (by omega)
          intro s201 e202
          have i203 : Iv s201 := Iv.u1 i16 e202 rfl
          have k204 : Kp s0 s201 := Kx.u1 k17 e202 rfl
          have u205 : vk s201 = ((vk s0).1, (vk s0).2) := vk_k1 u18 e202 rfl
          intro v206 e207
          have w208 : v24 = v206 := by rw [e207, e202, vg_u1_at (a := 7) (b := 1) (k := 7) (i := 2) (by decide), g26]
          subst w208
          refine And.intro (fun c209 => ?_) (fun c209 => ?_)
          · have c209 : ¬ v24.toInt = (Int32.ofInt 2).toInt := c209
            intro v210 e211
            have g212 : s15.1 7 3 = v210 := by rw [e211, e202, vg_u1_at (a := 7) (b := 3) (k := 7) (i := 2) (by decide)]
            refine And.intro (Nat.le_of_ble_eq_true rfl) (And.intro ⟨7, v210, rfl, by decide, i203⟩ ?_)
            intro v213 s215 h214
            have h214 : s215 = s201 ∧ ((∀ i : Int32, 0 ≤ i.toInt → i.toInt < (s201.1 7 0).toInt → ((v210 >>> (i &&& (31 : Int32))) &&& Int32.ofInt 1).toInt = (Int32.ofInt 1).toInt) → v213 = vg_ws (s201.1 8) (s201.1 7 0).toNatClampNeg) := h214
            have q218 := h214.1.symm
            subst q218
            have q219 := h214.2
            intro v220 e221
            intro v222 e223
            intro v224 e225
            intro s226 e227
            have i228 : Iv s226 := Iv.u2 i203 e227
            have k229 : Kp s0 s226 := Kx.u2 k204 e227 (vg_kq_no ⟨rfl, rfl, rfl⟩).1
            have u230 : vk s226 = ((vk s0).1, (vk s0).2) := vk_k2 u205 e227 rfl
            intro v231 e232
            intro v233 e234
            have w235 : v19 = v233 := by rw [e234, e227, vg_u2_1, e202, vg_u1_at (a := 7) (b := 0) (k := 7) (i := 2) (by decide), g21]
            subst w235
            intro v236 e237
            have b238 := vg_i2l e237
            intro v239 e240
            intro v241 e242
            intro v243 e244
            refine And.intro (Nat.le_of_ble_eq_true rfl) (And.intro ⟨7, rfl, by decide, i228⟩ ?_)
            intro v245 s247 h246
            have h246 : s247 = s226 ∧ (v245 = vg_ws (s226.1 8) (s226.1 7 0).toNatClampNeg) := h246
            have q250 := h246.1.symm
            subst q250
            have q251 := h246.2
            intro v252 e253
            intro v254 e255
            intro v256 e257
            intro v258 e259
            intro s260 e261
            have i262 : Iv s260 := Iv.u2 i228 e261
            have k263 : Kp s0 s260 := Kx.u2 k229 e261 (vg_kq_no ⟨rfl, rfl, rfl⟩).1
            have u264 : vk s260 = ((vk s0).1, (vk s0).2) := vk_k2 u230 e261 rfl
            intro v265 e266
            intro v267 e268
            refine And.intro (Nat.le_of_ble_eq_true rfl) (And.intro ⟨v267, rfl, trivial⟩ ?_)
            intro v269 s271 h270
            have h270 : s271 = s260 ∧ (True) := h270
            have q274 := h270.1.symm
            subst q274
            refine And.intro (Nat.le_of_ble_eq_true rfl) (And.intro ⟨v265, v269, rfl, trivial⟩ ?_)
            intro v275 s277 h276
            have h276 : s277 = s260 ∧ (True) := h276
            have q280 := h276.1.symm
            subst q280
            intro s281 e282
            have i283 : Iv s281 := Iv.u2 i262 e282
            have k284 : Kp s0 s281 := Kx.u2 k263 e282 (vg_kq_no ⟨rfl, rfl, rfl⟩).1
            have u285 : vk s281 = ((vk s0).1, (vk s0).2) := vk_k2 u264 e282 rfl
            show Iv s281 ∧ Kp s0 s281 ∧ vk s281 = ((vk s0).1, (vk s0).2) ∧ (True)
            exact ⟨i283, k284, u285, (trivial)⟩
          · have c209 : ¬ (¬ v24.toInt = (Int32.ofInt 2).toInt) := c209
            exfalso
            omega
      · have c23 : ¬ (v19.toInt ≤ w12.toInt) := c23
        refine And.intro ⟨by omega, by omega⟩ ?_
        intro v286 e287
        intro v288 e289
        have g290 : s15.1 7 3 = v288 := by rw [e289]
        intro v291 e292
        intro v293 e294
        have b295 := vg_and e294 (by omega)
        intro v296 e297
        refine And.intro ⟨by omega, by omega⟩ ?_
        intro s298 e299
        have i300 : Iv s298 := Iv.a1 i16 e299 rfl
        have k301 : Kp s0 s298 := Kx.u1 k17 e299 rfl
        have u302 : vk s298 = ((vk s0).1, (vk s0).2) := vk_k1 u18 e299 rfl
        intro v303 e304
        have b305 := vg_add e304 (by omega) (by omega)
        exact ⟨rfl, ⟨v303, rfl, (by omega), (by omega), i300, k301, u302⟩, (by show (0 + (16 - v303.toInt) * 1000000000000).toNat < (0 + (16 - w12.toInt) * 1000000000000).toNat; omega)⟩
  ·
    have z0 : (Int32.ofInt 0).toInt = 0 := by decide
    have z1 : (Int32.ofInt 1).toInt = 1 := by decide
    have z2 : (Int32.ofInt 2).toInt = 2 := by decide
    refine ⟨Nat.le_of_ble_eq_true rfl, [(11, [true, true, true], (fun L t => ∃ (x2 : Int32), L = [some (.ref 26), some (.int a1), some (.int x2)] ∧ (0 : Int) ≤ x2.toInt ∧ x2.toInt ≤ (16 : Int) ∧ Iv t ∧ Kp s0 t ∧ vk t = ((vk s0).1, (vk s0).2)), (fun L _ => (0 + (16 - (vg_li L 2).toInt) * 1000000000000).toNat))], ?_, List.forall_mem_cons.mpr ⟨?_, fun _ h => absurd h List.not_mem_nil⟩⟩
    ·
      refine And.intro (Nat.le_of_ble_eq_true rfl) (And.intro ⟨26, a1, rfl, by decide, i0⟩ ?_)
      intro v1 s3 h2
      have h2 : s3 = s0 ∧ (True) := h2
      have q6 := h2.1.symm
      subst q6
      intro s7 e8
      have i9 : Iv s7 := Iv.u1 i0 e8 rfl
      have k10 : Kp s0 s7 := Kx.u1 Kx.rf e8 rfl
      have u11 : vk s7 = ((vk s0).1, (vk s0).2) := vk_k1 rfl e8 rfl
      exact ⟨rfl, ⟨(Int32.ofInt 0), rfl, (by omega), (by omega), i9, k10, u11⟩, trivial⟩
    ·
      intro L s15 hL
      obtain ⟨w12, rfl, b13, b14, i16, k17, u18⟩ := hL
      intro v19 e20
      have g21 : s15.1 26 0 = v19 := by rw [e20]
      have b22 : (1 : Int) ≤ v19.toInt ∧ v19.toInt ≤ 16 := by rw [e20]; exact Iv_26_0 i16
      refine And.intro (fun c23 => ?_) (fun c23 => ?_)
      · have c23 : v19.toInt ≤ w12.toInt := c23
        intro v24 e25
        have g26 : s15.1 26 1 = v24 := by rw [e25]
        refine And.intro (fun c27 => ?_) (fun c27 => ?_)
        · have c27 : ¬ v24.toInt = (Int32.ofInt 1).toInt := c27
          intro v28 e29
          have w30 : v24 = v28 := by rw [e29, g26]
          subst w30
          refine And.intro (fun c31 => ?_) (fun c31 => ?_)
          · have c31 : ¬ v24.toInt = (Int32.ofInt 2).toInt := c31
            intro v32 e33
            have g34 : s15.1 26 3 = v32 := by rw [e33]
            refine And.intro (Nat.le_of_ble_eq_true rfl) (And.intro ⟨26, v32, rfl, by decide, i16⟩ ?_)
            intro v35 s37 h36
            have h36 : s37 = s15 ∧ ((∀ i : Int32, 0 ≤ i.toInt → i.toInt < (s15.1 26 0).toInt → ((v32 >>> (i &&& (31 : Int32))) &&& Int32.ofInt 1).toInt = (Int32.ofInt 1).toInt) → v35 = vg_ws (s15.1 27) (s15.1 26 0).toNatClampNeg) := h36
            have q40 := h36.1.symm
            subst q40
            have q41 := h36.2
            intro v42 e43
            intro v44 e45
            intro v46 e47
            intro s48 e49
            have i50 : Iv s48 := Iv.u2 i16 e49
            have k51 : Kp s0 s48 := Kx.u2 k17 e49 (vg_kq_no ⟨rfl, rfl, rfl⟩).1
            have u52 : vk s48 = ((vk s0).1, (vk s0).2) := vk_k2 u18 e49 rfl
            intro v53 e54
            intro v55 e56
            have w57 : v19 = v55 := by rw [e56, e49, vg_u2_1, g21]
            subst w57
            intro v58 e59
            have b60 := vg_i2l e59
            intro v61 e62
            intro v63 e64
            intro v65 e66
            refine And.intro (Nat.le_of_ble_eq_true rfl) (And.intro ⟨26, rfl, by decide, i50⟩ ?_)
            intro v67 s69 h68
            have h68 : s69 = s48 ∧ (v67 = vg_ws (s48.1 27) (s48.1 26 0).toNatClampNeg) := h68
            have q72 := h68.1.symm
            subst q72
            have q73 := h68.2
            intro v74 e75
            intro v76 e77
            intro v78 e79
            intro v80 e81
            intro s82 e83
            have i84 : Iv s82 := Iv.u2 i50 e83
            have k85 : Kp s0 s82 := Kx.u2 k51 e83 (vg_kq_no ⟨rfl, rfl, rfl⟩).1
            have u86 : vk s82 = ((vk s0).1, (vk s0).2) := vk_k2 u52 e83 rfl
            intro v87 e88
            intro v89 e90
            refine And.intro (Nat.le_of_ble_eq_true rfl) (And.intro ⟨v89, rfl, trivial⟩ ?_)
            intro v91 s93 h92
            have h92 : s93 = s82 ∧ (True) := h92
            have q96 := h92.1.symm
            subst q96
            refine And.intro (Nat.le_of_ble_eq_true rfl) (And.intro ⟨v87, v91, rfl, trivial⟩ ?_)
            intro v97 s99 h98
            have h98 : s99 = s82 ∧ (True) := h98
            have q102 := h98.1.symm
            subst q102
            intro s103 e104
            have i105 : Iv s103 := Iv.u2 i84 e104
            have k106 : Kp s0 s103 := Kx.u2 k85 e104 (vg_kq_no ⟨rfl, rfl, rfl⟩).1
            have u107 : vk s103 = ((vk s0).1, (vk s0).2) := vk_k2 u86 e104 rfl
            show Iv s103 ∧ Kp s0 s103 ∧ vk s103 = ((vk s0).1, (vk s0).2) ∧ (True)
            exact ⟨i105, k106, u107, (trivial)⟩
          · have c31 : ¬ (¬ v24.toInt = (Int32.ofInt 2).toInt) := c31
            refine And.intro (Nat.le_of_ble_eq_true rfl) (And.intro ⟨26, a1, rfl, by decide, i16⟩ ?_)
            intro s109 h108
            have h108 : Iv s109 ∧ Kp s15 s109 ∧ vk s109 = ((vk s15).1, (vk s15).2) ∧ (True) := h108
            have i110 := h108.1
            have k111 : Kp s0 s109 := Kx.tr k17 (h108.2.1)
            have u112 : vk s109 = ((vk s0).1, (vk s0).2) := h108.2.2.1.trans u18
            intro v113 e114
            have g115 : s109.1 26 3 = v113 := by rw [e114]
            refine And.intro (Nat.le_of_ble_eq_true rfl) (And.intro ⟨26, v113, rfl, by decide, i110⟩ ?_)
            intro v116 s118 h117
            have h117 : s118 = s109 ∧ ((∀ i : Int32, 0 ≤ i.toInt → i.toInt < (s109.1 26 0).toInt → ((v113 >>> (i &&& (31 : Int32))) &&& Int32.ofInt 1).toInt = (Int32.ofInt 1).toInt) → v116 = vg_ws (s109.1 27) (s109.1 26 0).toNatClampNeg) := h117
            have q121 := h117.1.symm
            subst q121
            have q122 := h117.2
            intro v123 e124
            intro v125 e126
            intro v127 e128
            intro s129 e130
            have i131 : Iv s129 := Iv.u2 i110 e130
            have k132 : Kp s0 s129 := Kx.u2 k111 e130 (vg_kq_no ⟨rfl, rfl, rfl⟩).1
            have u133 : vk s129 = ((vk s0).1, (vk s0).2) := vk_k2 u112 e130 rfl
            intro v134 e135
            intro v136 e137
            have g138 : s109.1 26 0 = v136 := by rw [e137, e130, vg_u2_1]
            have b139 : (1 : Int) ≤ v136.toInt ∧ v136.toInt ≤ 16 := by rw [e137]; exact Iv_26_0 i131
            intro v140 e141
            have b142 := vg_i2l e141
            intro v143 e144
            intro v145 e146
            intro v147 e148
            refine And.intro (Nat.le_of_ble_eq_true rfl) (And.intro ⟨26, rfl, by decide, i131⟩ ?_)
            intro v149 s151 h150
            have h150 : s151 = s129 ∧ (v149 = vg_ws (s129.1 27) (s129.1 26 0).toNatClampNeg) := h150
            have q154 := h150.1.symm
            subst q154
            have q155 := h150.2
            intro v156 e157
            intro v158 e159
            intro v160 e161
            intro v162 e163
            intro s164 e165
            have i166 : Iv s164 := Iv.u2 i131 e165
            have k167 : Kp s0 s164 := Kx.u2 k132 e165 (vg_kq_no ⟨rfl, rfl, rfl⟩).1
            have u168 : vk s164 = ((vk s0).1, (vk s0).2) := vk_k2 u133 e165 rfl
            intro v169 e170
            intro v171 e172
            refine And.intro (Nat.le_of_ble_eq_true rfl) (And.intro ⟨v171, rfl, trivial⟩ ?_)
            intro v173 s175 h174
            have h174 : s175 = s164 ∧ (True) := h174
            have q178 := h174.1.symm
            subst q178
            refine And.intro (Nat.le_of_ble_eq_true rfl) (And.intro ⟨v169, v173, rfl, trivial⟩ ?_)
            intro v179 s181 h180
            have h180 : s181 = s164 ∧ (True) := h180
            have q184 := h180.1.symm
            subst q184
            intro s185 e186
            have i187 : Iv s185 := Iv.u2 i166 e186
            have k188 : Kp s0 s185 := Kx.u2 k167 e186 (vg_kq_no ⟨rfl, rfl, rfl⟩).1
            have u189 : vk s185 = ((vk s0).1, (vk s0).2) := vk_k2 u168 e186 rfl
            show Iv s185 ∧ Kp s0 s185 ∧ vk s185 = ((vk s0).1, (vk s0).2) ∧ (True)
            exact ⟨i187, k188, u189, (trivial)⟩
        · have c27 : ¬ (¬ v24.toInt = (Int32.ofInt 1).toInt) := c27
          intro v190 e191
          have g192 : s15.1 26 2 = v190 := by rw [e191]
          intro v193 e194
          intro v195 e196
          have w197 : v19 = v195 := by rw [e196, g21]
          subst w197
          refine And.intro (by omega) ?_
          intro v198 e199
          have b200 := vg_remx e199 (by omega)
          intro s201 e202
          have i203 : Iv s201 := Iv.u1 i16 e202 rfl
          have k204 : Kp s0 s201 := Kx.u1 k17 e202 rfl
          have u205 : vk s201 = ((vk s0).1, (vk s0).2) := vk_k1 u18 e202 rfl
          intro v206 e207
          have w208 : v24 = v206 := by rw [e207, e202, vg_u1_at (a := 26) (b := 1) (k := 26) (i := 2) (by decide), g26]
          subst w208
          refine And.intro (fun c209 => ?_) (fun c209 => ?_)
          · have c209 : ¬ v24.toInt = (Int32.ofInt 2).toInt := c209
            intro v210 e211
            have g212 : s15.1 26 3 = v210 := by rw [e211, e202, vg_u1_at (a := 26) (b := 3) (k := 26) (i := 2) (by decide)]
            refine And.intro (Nat.le_of_ble_eq_true rfl) (And.intro ⟨26, v210, rfl, by decide, i203⟩ ?_)
            intro v213 s215 h214
            have h214 : s215 = s201 ∧ ((∀ i : Int32, 0 ≤ i.toInt → i.toInt < (s201.1 26 0).toInt → ((v210 >>> (i &&& (31 : Int32))) &&& Int32.ofInt 1).toInt = (Int32.ofInt 1).toInt) → v213 = vg_ws (s201.1 27) (s201.1 26 0).toNatClampNeg) := h214
            have q218 := h214.1.symm
            subst q218
            have q219 := h214.2
            intro v220 e221
            intro v222 e223
            intro v224 e225
            intro s226 e227
            have i228 : Iv s226 := Iv.u2 i203 e227
            have k229 : Kp s0 s226 := Kx.u2 k204 e227 (vg_kq_no ⟨rfl, rfl, rfl⟩).1
            have u230 : vk s226 = ((vk s0).1, (vk s0).2) := vk_k2 u205 e227 rfl
            intro v231 e232
            intro v233 e234
            have w235 : v19 = v233 := by rw [e234, e227, vg_u2_1, e202, vg_u1_at (a := 26) (b := 0) (k := 26) (i := 2) (by decide), g21]
            subst w235
            intro v236 e237
            have b238 := vg_i2l e237
            intro v239 e240
            intro v241 e242
            intro v243 e244
            refine And.intro (Nat.le_of_ble_eq_true rfl) (And.intro ⟨26, rfl, by decide, i228⟩ ?_)
            intro v245 s247 h246
            have h246 : s247 = s226 ∧ (v245 = vg_ws (s226.1 27) (s226.1 26 0).toNatClampNeg) := h246
            have q250 := h246.1.symm
            subst q250
            have q251 := h246.2
            intro v252 e253
            intro v254 e255
            intro v256 e257
            intro v258 e259
            intro s260 e261
            have i262 : Iv s260 := Iv.u2 i228 e261
            have k263 : Kp s0 s260 := Kx.u2 k229 e261 (vg_kq_no ⟨rfl, rfl, rfl⟩).1
            have u264 : vk s260 = ((vk s0).1, (vk s0).2) := vk_k2 u230 e261 rfl
            intro v265 e266
            intro v267 e268
            refine And.intro (Nat.le_of_ble_eq_true rfl) (And.intro ⟨v267, rfl, trivial⟩ ?_)
            intro v269 s271 h270
            have h270 : s271 = s260 ∧ (True) := h270
            have q274 := h270.1.symm
            subst q274
            refine And.intro (Nat.le_of_ble_eq_true rfl) (And.intro ⟨v265, v269, rfl, trivial⟩ ?_)
            intro v275 s277 h276
            have h276 : s277 = s260 ∧ (True) := h276
            have q280 := h276.1.symm
            subst q280
            intro s281 e282
            have i283 : Iv s281 := Iv.u2 i262 e282
            have k284 : Kp s0 s281 := Kx.u2 k263 e282 (vg_kq_no ⟨rfl, rfl, rfl⟩).1
            have u285 : vk s281 = ((vk s0).1, (vk s0).2) := vk_k2 u264 e282 rfl
            show Iv s281 ∧ Kp s0 s281 ∧ vk s281 = ((vk s0).1, (vk s0).2) ∧ (True)
            exact ⟨i283, k284, u285, (trivial)⟩
          · have c209 : ¬ (¬ v24.toInt = (Int32.ofInt 2).toInt) := c209
            exfalso
            omega
      · have c23 : ¬ (v19.toInt ≤ w12.toInt) := c23
        refine And.intro ⟨by omega, by omega⟩ ?_
        intro v286 e287
        intro v288 e289
        have g290 : s15.1 26 3 = v288 := by rw [e289]
        intro v291 e292
        intro v293 e294
        have b295 := vg_and e294 (by omega)
        intro v296 e297
        refine And.intro ⟨by omega, by omega⟩ ?_
        intro s298 e299
        have i300 : Iv s298 := Iv.a1 i16 e299 rfl
        have k301 : Kp s0 s298 := Kx.u1 k17 e299 rfl
        have u302 : vk s298 = ((vk s0).1, (vk s0).2) := vk_k1 u18 e299 rfl
        intro v303 e304
        have b305 := vg_add e304 (by omega) (by omega)
        exact ⟨rfl, ⟨v303, rfl, (by omega), (by omega), i300, k301, u302⟩, (by show (0 + (16 - v303.toInt) * 1000000000000).toNat < (0 + (16 - w12.toInt) * 1000000000000).toNat; omega)⟩
