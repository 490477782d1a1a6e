def o_X11_status : List vg_I := [(0, .aload_n 0, 1, 0, 0, 0, 0), (1, .getfield 73, 3, 1063, 11, 2, 0), (4, .ireturn, 1, 0, 0, 0, 0)]
set_option maxRecDepth 100000 in
set_option maxHeartbeats 4000000 in
theorem c_X11_status (l : Launch) (G : vg_G) (hp : vg_Hp G) : vg_Ct l G vg_sh r_X11_status := by
  refine vg_meth hp vg_sh_ok r_X11_status k_X11_status rfl (fun h => by cases h) o_X11_status [] false (by decide +kernel) (by decide +kernel) ⟨_, _, rfl, rfl⟩ (fun _ h => absurd h List.not_mem_nil) (fun h => by cases h) 600 ?_
  intro as s0 hpre
  obtain ⟨r, rfl, hr, i0⟩ := hpre
  simp only [List.mem_cons, List.not_mem_nil, or_false] at hr
  rcases hr with rfl
  ·
    refine ⟨Nat.le_of_ble_eq_true rfl, [], ?_, fun _ h => absurd h List.not_mem_nil⟩
    ·
      intro v1 e2
      have g3 : s0.1 55 2 = v1 := by rw [e2]
      show s0 = s0 ∧ (True)
      exact ⟨rfl, (trivial)⟩
def o_X11_refuse : List vg_I := [(0, .aload_n 0, 1, 0, 0, 0, 0), (1, .iload_n 1, 1, 0, 0, 0, 0), (2, .putfield 73, 3, 1063, 11, 2, 0), (5, .iconst (-1), 1, 0, 0, 0, 0), (6, .ireturn, 1, 0, 0, 0, 0)]
set_option maxRecDepth 100000 in
set_option maxHeartbeats 4000000 in
theorem c_X11_refuse (l : Launch) (G : vg_G) (hp : vg_Hp G) : vg_Ct l G vg_sh r_X11_refuse := by
  refine vg_meth hp vg_sh_ok r_X11_refuse k_X11_refuse rfl (fun h => by cases h) o_X11_refuse [] false (by decide +kernel) (by decide +kernel) ⟨_, _, rfl, rfl⟩ (fun _ h => absurd h List.not_mem_nil) (fun h => by cases h) 600 ?_
  intro as s0 hpre
  obtain ⟨r, a1, rfl, hr, i0⟩ := hpre
  simp only [List.mem_cons, List.not_mem_nil, or_false] at hr
  rcases hr with rfl
  ·
    have zm1 : (Int32.ofInt (-1)).toInt = -1 := by decide
    refine ⟨Nat.le_of_ble_eq_true rfl, [], ?_, fun _ h => absurd h List.not_mem_nil⟩
    ·
      intro s1 e2
      have i3 : Iv s1 := Iv.u1 i0 e2 rfl
      have k4 : Kp s0 s1 := Kx.u1 Kx.rf e2 rfl
      have u5 : vk s1 = ((vk s0).1, (vk s0).2) := vk_k1 rfl e2 rfl
      show Iv s1 ∧ Kp s0 s1 ∧ vk s1 = ((vk s0).1, (vk s0).2) ∧ ((Int32.ofInt (-1)).toInt = -1)
      exact ⟨i3, k4, u5, (by first | trivial | omega | assumption)⟩
def o_X11_gives : List vg_I := [(0, .aload_n 0, 1, 0, 0, 0, 0), (1, .iconst 0, 1, 0, 0, 0, 0), (2, .putfield 73, 3, 1063, 11, 2, 0), (5, .iload_n 1, 1, 0, 0, 0, 0), (6, .ireturn, 1, 0, 0, 0, 0)]
set_option maxRecDepth 100000 in
set_option maxHeartbeats 4000000 in
theorem c_X11_gives (l : Launch) (G : vg_G) (hp : vg_Hp G) : vg_Ct l G vg_sh r_X11_gives := by
  refine vg_meth hp vg_sh_ok r_X11_gives k_X11_gives rfl (fun h => by cases h) o_X11_gives [] false (by decide +kernel) (by decide +kernel) ⟨_, _, rfl, rfl⟩ (fun _ h => absurd h List.not_mem_nil) (fun h => by cases h) 600 ?_
  intro as s0 hpre
  obtain ⟨r, a1, rfl, hr, i0⟩ := hpre
  simp only [List.mem_cons, List.not_mem_nil, or_false] at hr
  rcases hr with rfl
  ·
    have z0 : (Int32.ofInt 0).toInt = 0 := by decide
    refine ⟨Nat.le_of_ble_eq_true rfl, [], ?_, fun _ h => absurd h List.not_mem_nil⟩
    ·
      intro s1 e2
      have i3 : Iv s1 := Iv.u1 i0 e2 rfl
      have k4 : Kp s0 s1 := Kx.u1 Kx.rf e2 rfl
      have u5 : vk s1 = ((vk s0).1, (vk s0).2) := vk_k1 rfl e2 rfl
      show Iv s1 ∧ Kp s0 s1 ∧ vk s1 = ((vk s0).1, (vk s0).2) ∧ (a1 = a1 ∧ a1.toInt = a1.toInt)
      exact ⟨i3, k4, u5, (by exact ⟨rfl, rfl⟩)⟩
def o_X11_givesLong : List vg_I := [(0, .aload_n 0, 1, 0, 0, 0, 0), (1, .iconst 0, 1, 0, 0, 0, 0), (2, .putfield 73, 3, 1063, 11, 2, 0), (5, .lload_n 1, 1, 0, 0, 0, 0), (6, .lreturn, 1, 0, 0, 0, 0)]
set_option maxRecDepth 100000 in
set_option maxHeartbeats 4000000 in
theorem c_X11_givesLong (l : Launch) (G : vg_G) (hp : vg_Hp G) : vg_Ct l G vg_sh r_X11_givesLong := by
  refine vg_meth hp vg_sh_ok r_X11_givesLong k_X11_givesLong rfl (fun h => by cases h) o_X11_givesLong [] false (by decide +kernel) (by decide +kernel) ⟨_, _, rfl, rfl⟩ (fun _ h => absurd h List.not_mem_nil) (fun h => by cases h) 600 ?_
  intro as s0 hpre
  obtain ⟨r, a1, rfl, hr, i0⟩ := hpre
  simp only [List.mem_cons, List.not_mem_nil, or_false] at hr
  rcases hr with rfl
  ·
    have z0 : (Int32.ofInt 0).toInt = 0 := by decide
    refine ⟨Nat.le_of_ble_eq_true rfl, [], ?_, fun _ h => absurd h List.not_mem_nil⟩
    ·
      intro s1 e2
      have i3 : Iv s1 := Iv.u1 i0 e2 rfl
      have k4 : Kp s0 s1 := Kx.u1 Kx.rf e2 rfl
      have u5 : vk s1 = ((vk s0).1, (vk s0).2) := vk_k1 rfl e2 rfl
      show Iv s1 ∧ Kp s0 s1 ∧ vk s1 = ((vk s0).1, (vk s0).2) ∧ (a1 = a1)
      exact ⟨i3, k4, u5, (by first | trivial | omega | assumption)⟩
def o_X11_isFrom : List vg_I := [(0, .iload_n 0, 1, 0, 0, 0, 0), (1, .iload_n 1, 1, 0, 0, 0, 0), (2, .if_icmp .lt 12, 3, 0, 0, 0, 0), (5, .iload_n 0, 1, 0, 0, 0, 0), (6, .iload_n 2, 1, 0, 0, 0, 0), (7, .if_icmp .gt 7, 3, 0, 0, 0, 0), (10, .iconst 1, 1, 0, 0, 0, 0), (11, .goto 4, 3, 0, 0, 0, 0), (14, .iconst 0, 1, 0, 0, 0, 0), (15, .ireturn, 1, 0, 0, 0, 1)]
set_option maxRecDepth 100000 in
set_option maxHeartbeats 4000000 in
theorem c_X11_isFrom (l : Launch) (G : vg_G) (hp : vg_Hp G) : vg_Ct l G vg_sh r_X11_isFrom := by
  refine vg_meth hp vg_sh_ok r_X11_isFrom k_X11_isFrom rfl (fun h => by cases h) o_X11_isFrom [] false (by decide +kernel) (by decide +kernel) ⟨_, _, rfl, rfl⟩ (fun _ h => absurd h List.not_mem_nil) (fun h => by cases h) 600 ?_
  intro as s0 hpre
  obtain ⟨a1, a2, a3, rfl, -⟩ := hpre
  have z0 : (Int32.ofInt 0).toInt = 0 := by decide
  have z1 : (Int32.ofInt 1).toInt = 1 := by decide
  refine ⟨Nat.le_of_ble_eq_true rfl, [], ?_, fun _ h => absurd h List.not_mem_nil⟩
  ·
    refine And.intro (fun c1 => ?_) (fun c1 => ?_)
    · have c1 : a1.toInt < a2.toInt := c1
      refine And.intro (by first | exact Or.inl rfl | exact Or.inr rfl | exact vg_01 (by omega) (by omega)) ?_
      show s0 = s0 ∧ (((Int32.ofInt 0).toInt = 1 ∧ a2.toInt ≤ a1.toInt ∧ a1.toInt ≤ a3.toInt) ∨ ((Int32.ofInt 0).toInt = 0 ∧ (a1.toInt < a2.toInt ∨ a3.toInt < a1.toInt)))
      exact ⟨rfl, (by first | trivial | omega | assumption)⟩
    · have c1 : ¬ (a1.toInt < a2.toInt) := c1
      refine And.intro (fun c2 => ?_) (fun c2 => ?_)
      · have c2 : a3.toInt < a1.toInt := c2
        refine And.intro (by first | exact Or.inl rfl | exact Or.inr rfl | exact vg_01 (by omega) (by omega)) ?_
        show s0 = s0 ∧ (((Int32.ofInt 0).toInt = 1 ∧ a2.toInt ≤ a1.toInt ∧ a1.toInt ≤ a3.toInt) ∨ ((Int32.ofInt 0).toInt = 0 ∧ (a1.toInt < a2.toInt ∨ a3.toInt < a1.toInt)))
        exact ⟨rfl, (by first | trivial | omega | assumption)⟩
      · have c2 : ¬ (a3.toInt < a1.toInt) := c2
        refine And.intro (by first | exact Or.inl rfl | exact Or.inr rfl | exact vg_01 (by omega) (by omega)) ?_
        show s0 = s0 ∧ (((Int32.ofInt 1).toInt = 1 ∧ a2.toInt ≤ a1.toInt ∧ a1.toInt ≤ a3.toInt) ∨ ((Int32.ofInt 1).toInt = 0 ∧ (a1.toInt < a2.toInt ∨ a3.toInt < a1.toInt)))
        exact ⟨rfl, (by first | trivial | omega | assumption)⟩
def o_X11_isFar : List vg_I := [(0, .iload_n 0, 1, 0, 0, 0, 0), (1, .sipush (-30000), 3, 0, 0, 0, 0), (4, .sipush 30000, 3, 0, 0, 0, 0), (7, .invokestatic 76, 3, 0, 1, 3, 1175), (10, .ireturn, 1, 0, 0, 0, 1)]
set_option maxRecDepth 100000 in
set_option maxHeartbeats 4000000 in
theorem c_X11_isFar (l : Launch) (G : vg_G) (hp : vg_Hp G) : vg_Ct l G vg_sh r_X11_isFar := by
  refine vg_meth hp vg_sh_ok r_X11_isFar k_X11_isFar rfl (fun h => by cases h) o_X11_isFar [r_X11_isFrom] false (by decide +kernel) (by decide +kernel) ⟨_, _, rfl, rfl⟩ (List.forall_mem_cons.mpr ⟨⟨c_X11_isFrom l G hp, Nat.le_of_ble_eq_true rfl, Nat.le_of_ble_eq_true rfl⟩, fun _ h => absurd h List.not_mem_nil⟩) (fun h => by cases h) 600 ?_
  intro as s0 hpre
  obtain ⟨a1, rfl, -⟩ := hpre
  have zm30000 : (Int32.ofInt (-30000)).toInt = -30000 := by decide
  have z30000 : (Int32.ofInt 30000).toInt = 30000 := by decide
  refine ⟨Nat.le_of_ble_eq_true rfl, [], ?_, fun _ h => absurd h List.not_mem_nil⟩
  ·
    refine And.intro (Nat.le_of_ble_eq_true rfl) (And.intro ⟨a1, (Int32.ofInt (-30000)), (Int32.ofInt 30000), rfl, trivial⟩ ?_)
    intro v1 s3 h2
    have h2 : s3 = s0 ∧ ((v1.toInt = 1 ∧ (Int32.ofInt (-30000)).toInt ≤ a1.toInt ∧ a1.toInt ≤ (Int32.ofInt 30000).toInt) ∨ (v1.toInt = 0 ∧ (a1.toInt < (Int32.ofInt (-30000)).toInt ∨ (Int32.ofInt 30000).toInt < a1.toInt))) := h2
    have q6 := h2.1.symm
    subst q6
    have q7 := h2.2
    refine And.intro (by first | exact Or.inl rfl | exact Or.inr rfl | exact vg_01 (by omega) (by omega)) ?_
    show s0 = s0 ∧ ((v1.toInt = 1 ∧ -30000 ≤ a1.toInt ∧ a1.toInt ≤ 30000) ∨ (v1.toInt = 0 ∧ (a1.toInt < -30000 ∨ 30000 < a1.toInt)))
    exact ⟨rfl, (by first | trivial | omega | assumption)⟩
def o_X11_isTap : List vg_I := [(0, .iload_n 0, 1, 0, 0, 0, 0), (1, .sipush (-999), 3, 0, 0, 0, 0), (4, .sipush 999, 3, 0, 0, 0, 0), (7, .invokestatic 76, 3, 0, 1, 3, 1175), (10, .ireturn, 1, 0, 0, 0, 1)]
set_option maxRecDepth 100000 in
set_option maxHeartbeats 4000000 in
theorem c_X11_isTap (l : Launch) (G : vg_G) (hp : vg_Hp G) : vg_Ct l G vg_sh r_X11_isTap := by
  refine vg_meth hp vg_sh_ok r_X11_isTap k_X11_isTap rfl (fun h => by cases h) o_X11_isTap [r_X11_isFrom] false (by decide +kernel) (by decide +kernel) ⟨_, _, rfl, rfl⟩ (List.forall_mem_cons.mpr ⟨⟨c_X11_isFrom l G hp, Nat.le_of_ble_eq_true rfl, Nat.le_of_ble_eq_true rfl⟩, fun _ h => absurd h List.not_mem_nil⟩) (fun h => by cases h) 600 ?_
  intro as s0 hpre
  obtain ⟨a1, rfl, -⟩ := hpre
  have zm999 : (Int32.ofInt (-999)).toInt = -999 := by decide
  have z999 : (Int32.ofInt 999).toInt = 999 := by decide
  refine ⟨Nat.le_of_ble_eq_true rfl, [], ?_, fun _ h => absurd h List.not_mem_nil⟩
  ·
    refine And.intro (Nat.le_of_ble_eq_true rfl) (And.intro ⟨a1, (Int32.ofInt (-999)), (Int32.ofInt 999), rfl, trivial⟩ ?_)
    intro v1 s3 h2
    have h2 : s3 = s0 ∧ ((v1.toInt = 1 ∧ (Int32.ofInt (-999)).toInt ≤ a1.toInt ∧ a1.toInt ≤ (Int32.ofInt 999).toInt) ∨ (v1.toInt = 0 ∧ (a1.toInt < (Int32.ofInt (-999)).toInt ∨ (Int32.ofInt 999).toInt < a1.toInt))) := h2
    have q6 := h2.1.symm
    subst q6
    have q7 := h2.2
    refine And.intro (by first | exact Or.inl rfl | exact Or.inr rfl | exact vg_01 (by omega) (by omega)) ?_
    show s0 = s0 ∧ ((v1.toInt = 1 ∧ -999 ≤ a1.toInt ∧ a1.toInt ≤ 999) ∨ (v1.toInt = 0 ∧ (a1.toInt < -999 ∨ 999 < a1.toInt)))
    exact ⟨rfl, (by first | trivial | omega | assumption)⟩
def o_X11_isStage : List vg_I := [(0, .iload_n 0, 1, 0, 0, 0, 0), (1, .iconst 0, 1, 0, 0, 0, 0), (2, .bipush 6, 2, 0, 0, 0, 0), (4, .invokestatic 76, 3, 0, 1, 3, 1175), (7, .ireturn, 1, 0, 0, 0, 1)]
set_option maxRecDepth 100000 in
set_option maxHeartbeats 4000000 in
theorem c_X11_isStage (l : Launch) (G : vg_G) (hp : vg_Hp G) : vg_Ct l G vg_sh r_X11_isStage := by
  refine vg_meth hp vg_sh_ok r_X11_isStage k_X11_isStage rfl (fun h => by cases h) o_X11_isStage [r_X11_isFrom] false (by decide +kernel) (by decide +kernel) ⟨_, _, rfl, rfl⟩ (List.forall_mem_cons.mpr ⟨⟨c_X11_isFrom l G hp, Nat.le_of_ble_eq_true rfl, Nat.le_of_ble_eq_true rfl⟩, fun _ h => absurd h List.not_mem_nil⟩) (fun h => by cases h) 600 ?_
  intro as s0 hpre
  obtain ⟨a1, rfl, -⟩ := hpre
  have z0 : (Int32.ofInt 0).toInt = 0 := by decide
  have z6 : (Int32.ofInt 6).toInt = 6 := by decide
  refine ⟨Nat.le_of_ble_eq_true rfl, [], ?_, fun _ h => absurd h List.not_mem_nil⟩
  ·
    refine And.intro (Nat.le_of_ble_eq_true rfl) (And.intro ⟨a1, (Int32.ofInt 0), (Int32.ofInt 6), rfl, trivial⟩ ?_)
    intro v1 s3 h2
    have h2 : s3 = s0 ∧ ((v1.toInt = 1 ∧ (Int32.ofInt 0).toInt ≤ a1.toInt ∧ a1.toInt ≤ (Int32.ofInt 6).toInt) ∨ (v1.toInt = 0 ∧ (a1.toInt < (Int32.ofInt 0).toInt ∨ (Int32.ofInt 6).toInt < a1.toInt))) := h2
    have q6 := h2.1.symm
    subst q6
    have q7 := h2.2
    refine And.intro (by first | exact Or.inl rfl | exact Or.inr rfl | exact vg_01 (by omega) (by omega)) ?_
    show s0 = s0 ∧ ((v1.toInt = 1 ∧ 0 ≤ a1.toInt ∧ a1.toInt ≤ 6) ∨ (v1.toInt = 0 ∧ (a1.toInt < 0 ∨ 6 < a1.toInt)))
    exact ⟨rfl, (by first | trivial | omega | assumption)⟩
def o_X11_get : List vg_I := [(0, .aload_n 0, 1, 0, 0, 0, 0), (1, .getfield 7, 3, 1061, 11, 0, 0), (4, .iload_n 1, 1, 0, 0, 0, 0), (5, .laload, 1, 0, 0, 0, 0), (6, .l2i, 1, 0, 0, 0, 0), (7, .ireturn, 1, 0, 0, 0, 0)]
set_option maxRecDepth 100000 in
set_option maxHeartbeats 4000000 in
theorem c_X11_get (l : Launch) (G : vg_G) (hp : vg_Hp G) : vg_Ct l G vg_sh r_X11_get := by
  refine vg_meth hp vg_sh_ok r_X11_get k_X11_get rfl (fun h => by cases h) o_X11_get [] false (by decide +kernel) (by decide +kernel) ⟨_, _, rfl, rfl⟩ (fun _ h => absurd h List.not_mem_nil) (fun h => by cases h) 600 ?_
  intro as s0 hpre
  obtain ⟨r, a1, rfl, hr, i0, p0⟩ := hpre
  simp only [List.mem_cons, List.not_mem_nil, or_false] at hr
  rcases hr with rfl
  ·
    refine ⟨Nat.le_of_ble_eq_true rfl, [], ?_, fun _ h => absurd h List.not_mem_nil⟩
    ·
      refine And.intro ⟨by omega, by omega⟩ ?_
      intro v1 e2
      intro v3 e4
      show s0 = s0 ∧ (v3 = (s0.2 56 a1.toNatClampNeg).toInt32)
      exact ⟨rfl, (by subst_vars; rfl)⟩
def o_X11_copies : List vg_I := [(0, .iconst 0, 1, 0, 0, 0, 0), (1, .istore_n 2, 1, 0, 0, 0, 0), (2, .iload_n 2, 1, 0, 0, 0, 0), (3, .sipush 481, 3, 0, 0, 0, 0), (6, .if_icmp .ge 15, 3, 0, 0, 0, 0), (9, .aload_n 1, 1, 0, 0, 0, 0), (10, .iload_n 2, 1, 0, 0, 0, 0), (11, .aload_n 0, 1, 0, 0, 0, 0), (12, .iload_n 2, 1, 0, 0, 0, 0), (13, .laload, 1, 0, 0, 0, 0), (14, .lastore, 1, 0, 0, 0, 0), (15, .iinc 2 1, 3, 0, 0, 0, 0), (18, .goto (-16), 3, 0, 0, 0, 0), (21, .return_, 1, 0, 0, 0, 0)]
set_option maxRecDepth 100000 in
set_option maxHeartbeats 4000000 in
theorem c_X11_copies (l : Launch) (G : vg_G) (hp : vg_Hp G) : vg_Ct l G vg_sh r_X11_copies := by
  refine vg_meth hp vg_sh_ok r_X11_copies k_X11_copies rfl (fun h => by cases h) o_X11_copies [] false (by decide +kernel) (by decide +kernel) ⟨_, _, rfl, rfl⟩ (fun _ h => absurd h List.not_mem_nil) (fun h => by cases h) 600 ?_
  intro as s0 hpre
  obtain ⟨a1, a2, rfl, ha1, ha2, i0, p0⟩ := hpre
  simp only [List.mem_cons, List.not_mem_nil, or_false] at ha1
  rcases ha1 with rfl | rfl | rfl
  ·
    simp only [List.mem_cons, List.not_mem_nil, or_false] at ha2
    rcases ha2 with rfl | rfl | rfl
    ·
      exact absurd rfl p0
    ·
      have z0 : (Int32.ofInt 0).toInt = 0 := by decide
      have z1 : (Int32.ofInt 1).toInt = 1 := by decide
      have z481 : (Int32.ofInt 481).toInt = 481 := by decide
      refine ⟨Nat.le_of_ble_eq_true rfl, [(2, [true, true, true], (fun L t => ∃ (x2 : Int32), L = [some (.ref 56), some (.ref 57), some (.int x2)] ∧ (0 : Int) ≤ x2.toInt ∧ x2.toInt ≤ (481 : Int) ∧ (t.1 = s0.1 ∧ (∀ k, k ≠ 57 → t.2 k = s0.2 k) ∧ (∀ j : Nat, (j : Int) < x2.toInt → t.2 57 j = s0.2 56 j)) ∧ Iv t), (fun L _ => (0 + (481 - (vg_li L 2).toInt) * 1000000000000).toNat))], ?_, List.forall_mem_cons.mpr ⟨?_, fun _ h => absurd h List.not_mem_nil⟩⟩
      ·
        exact ⟨rfl, ⟨(Int32.ofInt 0), rfl, (by omega), (by omega), (by first | exact ⟨rfl, fun _ _ => rfl, fun j hj => absurd hj (by omega)⟩ | exact vg_cpstep None (by decide) (by omega) (by omega) None rfl), i0⟩, trivial⟩
      ·
        intro L s5 hL
        obtain ⟨w1, rfl, b2, b3, x4, i6⟩ := hL
        refine And.intro (fun c8 => ?_) (fun c8 => ?_)
        · have c8 : (Int32.ofInt 481).toInt ≤ w1.toInt := c8
          show (s5.1 = s0.1 ∧ s5.2 57 0 = s0.2 56 0 ∧ (∀ k, k ≠ 57 → s5.2 k = s0.2 k) ∧ ∀ j : Nat, j < 481 → s5.2 57 j = s0.2 56 j)
          exact (⟨x4.1, x4.2.2 0 (by omega), x4.2.1, fun j hj => x4.2.2 j (by omega)⟩)
        · have c8 : ¬ ((Int32.ofInt 481).toInt ≤ w1.toInt) := c8
          refine And.intro ⟨by omega, by omega⟩ ?_
          intro v9 e10
          refine And.intro ⟨by omega, by omega⟩ ?_
          intro s11 e12
          have i13 : Iv s11 := Iv.u2 i6 e12
          intro v15 e16
          have b17 := vg_add e16 (by omega) (by omega)
          exact ⟨rfl, ⟨v15, rfl, (by omega), (by omega), (by first | exact ⟨rfl, fun _ _ => rfl, fun j hj => absurd hj (by omega)⟩ | exact vg_cpstep x4 (by decide) (by omega) (by omega) e10 e12), i13⟩, (by show (0 + (481 - v15.toInt) * 1000000000000).toNat < (0 + (481 - w1.toInt) * 1000000000000).toNat; omega)⟩
    ·
      have z0 : (Int32.ofInt 0).toInt = 0 := by decide
      have z1 : (Int32.ofInt 1).toInt = 1 := by decide
      have z481 : (Int32.ofInt 481).toInt = 481 := by decide
      refine ⟨Nat.le_of_ble_eq_true rfl, [(2, [true, true, true], (fun L t => ∃ (x2 : Int32), L = [some (.ref 56), some (.ref 67), some (.int x2)] ∧ (0 : Int) ≤ x2.toInt ∧ x2.toInt ≤ (481 : Int) ∧ (t.1 = s0.1 ∧ (∀ k, k ≠ 67 → t.2 k = s0.2 k) ∧ (∀ j : Nat, (j : Int) < x2.toInt → t.2 67 j = s0.2 56 j)) ∧ Iv t), (fun L _ => (0 + (481 - (vg_li L 2).toInt) * 1000000000000).toNat))], ?_, List.forall_mem_cons.mpr ⟨?_, fun _ h => absurd h List.not_mem_nil⟩⟩
      ·
        exact ⟨rfl, ⟨(Int32.ofInt 0), rfl, (by omega), (by omega), (by first | exact ⟨rfl, fun _ _ => rfl, fun j hj => absurd hj (by omega)⟩ | exact vg_cpstep None (by decide) (by omega) (by omega) None rfl), i0⟩, trivial⟩
      ·
        intro L s5 hL
        obtain ⟨w1, rfl, b2, b3, x4, i6⟩ := hL
        refine And.intro (fun c8 => ?_) (fun c8 => ?_)
        · have c8 : (Int32.ofInt 481).toInt ≤ w1.toInt := c8
          show (s5.1 = s0.1 ∧ s5.2 67 0 = s0.2 56 0 ∧ (∀ k, k ≠ 67 → s5.2 k = s0.2 k) ∧ ∀ j : Nat, j < 481 → s5.2 67 j = s0.2 56 j)
          exact (⟨x4.1, x4.2.2 0 (by omega), x4.2.1, fun j hj => x4.2.2 j (by omega)⟩)
        · have c8 : ¬ ((Int32.ofInt 481).toInt ≤ w1.toInt) := c8
          refine And.intro ⟨by omega, by omega⟩ ?_
          intro v9 e10
          refine And.intro ⟨by omega, by omega⟩ ?_
          intro s11 e12
          have i13 : Iv s11 := Iv.u2 i6 e12
          intro v15 e16
          have b17 := vg_add e16 (by omega) (by omega)
          exact ⟨rfl, ⟨v15, rfl, (by omega), (by omega), (by first | exact ⟨rfl, fun _ _ => rfl, fun j hj => absurd hj (by omega)⟩ | exact vg_cpstep x4 (by decide) (by omega) (by omega) e10 e12), i13⟩, (by show (0 + (481 - v15.toInt) * 1000000000000).toNat < (0 + (481 - w1.toInt) * 1000000000000).toNat; omega)⟩
  ·
    simp only [List.mem_cons, List.not_mem_nil, or_false] at ha2
    rcases ha2 with rfl | rfl | rfl
    ·
      have z0 : (Int32.ofInt 0).toInt = 0 := by decide
      have z1 : (Int32.ofInt 1).toInt = 1 := by decide
      have z481 : (Int32.ofInt 481).toInt = 481 := by decide
      refine ⟨Nat.le_of_ble_eq_true rfl, [(2, [true, true, true], (fun L t => ∃ (x2 : Int32), L = [some (.ref 57), some (.ref 56), some (.int x2)] ∧ (0 : Int) ≤ x2.toInt ∧ x2.toInt ≤ (481 : Int) ∧ (t.1 = s0.1 ∧ (∀ k, k ≠ 56 → t.2 k = s0.2 k) ∧ (∀ j : Nat, (j : Int) < x2.toInt → t.2 56 j = s0.2 57 j)) ∧ Iv t), (fun L _ => (0 + (481 - (vg_li L 2).toInt) * 1000000000000).toNat))], ?_, List.forall_mem_cons.mpr ⟨?_, fun _ h => absurd h List.not_mem_nil⟩⟩
      ·
        exact ⟨rfl, ⟨(Int32.ofInt 0), rfl, (by omega), (by omega), (by first | exact ⟨rfl, fun _ _ => rfl, fun j hj => absurd hj (by omega)⟩ | exact vg_cpstep None (by decide) (by omega) (by omega) None rfl), i0⟩, trivial⟩
      ·
        intro L s5 hL
        obtain ⟨w1, rfl, b2, b3, x4, i6⟩ := hL
        refine And.intro (fun c8 => ?_) (fun c8 => ?_)
        · have c8 : (Int32.ofInt 481).toInt ≤ w1.toInt := c8
          show (s5.1 = s0.1 ∧ s5.2 56 0 = s0.2 57 0 ∧ (∀ k, k ≠ 56 → s5.2 k = s0.2 k) ∧ ∀ j : Nat, j < 481 → s5.2 56 j = s0.2 57 j)
          exact (⟨x4.1, x4.2.2 0 (by omega), x4.2.1, fun j hj => x4.2.2 j (by omega)⟩)
        · have c8 : ¬ ((Int32.ofInt 481).toInt ≤ w1.toInt) := c8
          refine And.intro ⟨by omega, by omega⟩ ?_
          intro v9 e10
          refine And.intro ⟨by omega, by omega⟩ ?_
          intro s11 e12
          have i13 : Iv s11 := Iv.u2 i6 e12
          intro v15 e16
          have b17 := vg_add e16 (by omega) (by omega)
          exact ⟨rfl, ⟨v15, rfl, (by omega), (by omega), (by first | exact ⟨rfl, fun _ _ => rfl, fun j hj => absurd hj (by omega)⟩ | exact vg_cpstep x4 (by decide) (by omega) (by omega) e10 e12), i13⟩, (by show (0 + (481 - v15.toInt) * 1000000000000).toNat < (0 + (481 - w1.toInt) * 1000000000000).toNat; omega)⟩
    ·
      exact absurd rfl p0
    ·
      have z0 : (Int32.ofInt 0).toInt = 0 := by decide
      have z1 : (Int32.ofInt 1).toInt = 1 := by decide
      have z481 : (Int32.ofInt 481).toInt = 481 := by decide
      refine ⟨Nat.le_of_ble_eq_true rfl, [(2, [true, true, true], (fun L t => ∃ (x2 : Int32), L = [some (.ref 57), some (.ref 67), some (.int x2)] ∧ (0 : Int) ≤ x2.toInt ∧ x2.toInt ≤ (481 : Int) ∧ (t.1 = s0.1 ∧ (∀ k, k ≠ 67 → t.2 k = s0.2 k) ∧ (∀ j : Nat, (j : Int) < x2.toInt → t.2 67 j = s0.2 57 j)) ∧ Iv t), (fun L _ => (0 + (481 - (vg_li L 2).toInt) * 1000000000000).toNat))], ?_, List.forall_mem_cons.mpr ⟨?_, fun _ h => absurd h List.not_mem_nil⟩⟩
      ·
        exact ⟨rfl, ⟨(Int32.ofInt 0), rfl, (by omega), (by omega), (by first | exact ⟨rfl, fun _ _ => rfl, fun j hj => absurd hj (by omega)⟩ | exact vg_cpstep None (by decide) (by omega) (by omega) None rfl), i0⟩, trivial⟩
      ·
        intro L s5 hL
        obtain ⟨w1, rfl, b2, b3, x4, i6⟩ := hL
        refine And.intro (fun c8 => ?_) (fun c8 => ?_)
        · have c8 : (Int32.ofInt 481).toInt ≤ w1.toInt := c8
          show (s5.1 = s0.1 ∧ s5.2 67 0 = s0.2 57 0 ∧ (∀ k, k ≠ 67 → s5.2 k = s0.2 k) ∧ ∀ j : Nat, j < 481 → s5.2 67 j = s0.2 57 j)
          exact (⟨x4.1, x4.2.2 0 (by omega), x4.2.1, fun j hj => x4.2.2 j (by omega)⟩)
        · have c8 : ¬ ((Int32.ofInt 481).toInt ≤ w1.toInt) := c8
          refine And.intro ⟨by omega, by omega⟩ ?_
          intro v9 e10
          refine And.intro ⟨by omega, by omega⟩ ?_
          intro s11 e12
          have i13 : Iv s11 := Iv.u2 i6 e12
          intro v15 e16
          have b17 := vg_add e16 (by omega) (by omega)
          exact ⟨rfl, ⟨v15, rfl, (by omega), (by omega), (by first | exact ⟨rfl, fun _ _ => rfl, fun j hj => absurd hj (by omega)⟩ | exact vg_cpstep x4 (by decide) (by omega) (by omega) e10 e12), i13⟩, (by show (0 + (481 - v15.toInt) * 1000000000000).toNat < (0 + (481 - w1.toInt) * 1000000000000).toNat; omega)⟩
  ·
    simp only [List.mem_cons, List.not_mem_nil, or_false] at ha2
    rcases ha2 with rfl | rfl | rfl
    ·
      have z0 : (Int32.ofInt 0).toInt = 0 := by decide
      have z1 : (Int32.ofInt 1).toInt = 1 := by decide
      have z481 : (Int32.ofInt 481).toInt = 481 := by decide
      refine ⟨Nat.le_of_ble_eq_true rfl, [(2, [true, true, true], (fun L t => ∃ (x2 : Int32), L = [some (.ref 67), some (.ref 56), some (.int x2)] ∧ (0 : Int) ≤ x2.toInt ∧ x2.toInt ≤ (481 : Int) ∧ (t.1 = s0.1 ∧ (∀ k, k ≠ 56 → t.2 k = s0.2 k) ∧ (∀ j : Nat, (j : Int) < x2.toInt → t.2 56 j = s0.2 67 j)) ∧ Iv t), (fun L _ => (0 + (481 - (vg_li L 2).toInt) * 1000000000000).toNat))], ?_, List.forall_mem_cons.mpr ⟨?_, fun _ h => absurd h List.not_mem_nil⟩⟩
      ·
        exact ⟨rfl, ⟨(Int32.ofInt 0), rfl, (by omega), (by omega), (by first | exact ⟨rfl, fun _ _ => rfl, fun j hj => absurd hj (by omega)⟩ | exact vg_cpstep None (by decide) (by omega) (by omega) None rfl), i0⟩, trivial⟩
      ·
        intro L s5 hL
        obtain ⟨w1, rfl, b2, b3, x4, i6⟩ := hL
        refine And.intro (fun c8 => ?_) (fun c8 => ?_)
        · have c8 : (Int32.ofInt 481).toInt ≤ w1.toInt := c8
          show (s5.1 = s0.1 ∧ s5.2 56 0 = s0.2 67 0 ∧ (∀ k, k ≠ 56 → s5.2 k = s0.2 k) ∧ ∀ j : Nat, j < 481 → s5.2 56 j = s0.2 67 j)
          exact (⟨x4.1, x4.2.2 0 (by omega), x4.2.1, fun j hj => x4.2.2 j (by omega)⟩)
        · have c8 : ¬ ((Int32.ofInt 481).toInt ≤ w1.toInt) := c8
          refine And.intro ⟨by omega, by omega⟩ ?_
          intro v9 e10
          refine And.intro ⟨by omega, by omega⟩ ?_
          intro s11 e12
          have i13 : Iv s11 := Iv.u2 i6 e12
          intro v15 e16
          have b17 := vg_add e16 (by omega) (by omega)
          exact ⟨rfl, ⟨v15, rfl, (by omega), (by omega), (by first | exact ⟨rfl, fun _ _ => rfl, fun j hj => absurd hj (by omega)⟩ | exact vg_cpstep x4 (by decide) (by omega) (by omega) e10 e12), i13⟩, (by show (0 + (481 - v15.toInt) * 1000000000000).toNat < (0 + (481 - w1.toInt) * 1000000000000).toNat; omega)⟩
    ·
      have z0 : (Int32.ofInt 0).toInt = 0 := by decide
      have z1 : (Int32.ofInt 1).toInt = 1 := by decide
      have z481 : (Int32.ofInt 481).toInt = 481 := by decide
      refine ⟨Nat.le_of_ble_eq_true rfl, [(2, [true, true, true], (fun L t => ∃ (x2 : Int32), L = [some (.ref 67), some (.ref 57), some (.int x2)] ∧ (0 : Int) ≤ x2.toInt ∧ x2.toInt ≤ (481 : Int) ∧ (t.1 = s0.1 ∧ (∀ k, k ≠ 57 → t.2 k = s0.2 k) ∧ (∀ j : Nat, (j : Int) < x2.toInt → t.2 57 j = s0.2 67 j)) ∧ Iv t), (fun L _ => (0 + (481 - (vg_li L 2).toInt) * 1000000000000).toNat))], ?_, List.forall_mem_cons.mpr ⟨?_, fun _ h => absurd h List.not_mem_nil⟩⟩
      ·
        exact ⟨rfl, ⟨(Int32.ofInt 0), rfl, (by omega), (by omega), (by first | exact ⟨rfl, fun _ _ => rfl, fun j hj => absurd hj (by omega)⟩ | exact vg_cpstep None (by decide) (by omega) (by omega) None rfl), i0⟩, trivial⟩
      ·
        intro L s5 hL
        obtain ⟨w1, rfl, b2, b3, x4, i6⟩ := hL
        refine And.intro (fun c8 => ?_) (fun c8 => ?_)
        · have c8 : (Int32.ofInt 481).toInt ≤ w1.toInt := c8
          show (s5.1 = s0.1 ∧ s5.2 57 0 = s0.2 67 0 ∧ (∀ k, k ≠ 57 → s5.2 k = s0.2 k) ∧ ∀ j : Nat, j < 481 → s5.2 57 j = s0.2 67 j)
          exact (⟨x4.1, x4.2.2 0 (by omega), x4.2.1, fun j hj => x4.2.2 j (by omega)⟩)
        · have c8 : ¬ ((Int32.ofInt 481).toInt ≤ w1.toInt) := c8
          refine And.intro ⟨by omega, by omega⟩ ?_
          intro v9 e10
          refine And.intro ⟨by omega, by omega⟩ ?_
          intro s11 e12
          have i13 : Iv s11 := Iv.u2 i6 e12
          intro v15 e16
          have b17 := vg_add e16 (by omega) (by omega)
          exact ⟨rfl, ⟨v15, rfl, (by omega), (by omega), (by first | exact ⟨rfl, fun _ _ => rfl, fun j hj => absurd hj (by omega)⟩ | exact vg_cpstep x4 (by decide) (by omega) (by omega) e10 e12), i13⟩, (by show (0 + (481 - v15.toInt) * 1000000000000).toNat < (0 + (481 - w1.toInt) * 1000000000000).toNat; omega)⟩
    ·
      exact absurd rfl p0
def o_X11_wipes : List vg_I := [(0, .iload_n 1, 1, 0, 0, 0, 0), (1, .istore_n 3, 1, 0, 0, 0, 0), (2, .iload_n 3, 1, 0, 0, 0, 0), (3, .iload_n 1, 1, 0, 0, 0, 0), (4, .iload_n 2, 1, 0, 0, 0, 0), (5, .iadd, 1, 0, 0, 0, 0), (6, .if_icmp .ge 16, 3, 0, 0, 0, 0), (9, .aload_n 0, 1, 0, 0, 0, 0), (10, .getfield 7, 3, 1061, 11, 0, 0), (13, .iload_n 3, 1, 0, 0, 0, 0), (14, .lconst 0, 1, 0, 0, 0, 0), (15, .lastore, 1, 0, 0, 0, 0), (16, .iinc 3 1, 3, 0, 0, 0, 0), (19, .goto (-17), 3, 0, 0, 0, 0), (22, .return_, 1, 0, 0, 0, 0)]
set_option maxRecDepth 100000 in
set_option maxHeartbeats 4000000 in
theorem c_X11_wipes (l : Launch) (G : vg_G) (hp : vg_Hp G) : vg_Ct l G vg_sh r_X11_wipes := by
  refine vg_meth hp vg_sh_ok r_X11_wipes k_X11_wipes rfl (fun h => by cases h) o_X11_wipes [] false (by decide +kernel) (by decide +kernel) ⟨_, _, rfl, rfl⟩ (fun _ h => absurd h List.not_mem_nil) (fun h => by cases h) 600 ?_
  intro as s0 hpre
  obtain ⟨r, a1, a2, rfl, hr, i0, p0⟩ := hpre
  simp only [List.mem_cons, List.not_mem_nil, or_false] at hr
  rcases hr with rfl
  ·
    have z1 : (Int32.ofInt 1).toInt = 1 := by decide
    refine ⟨Nat.le_of_ble_eq_true rfl, [(2, [true, true, true, true], (fun L t => ∃ (x3 : Int32), L = [some (.ref 55), some (.int a1), some (.int a2), some (.int x3)] ∧ (1 : Int) ≤ x3.toInt ∧ x3.toInt ≤ (481 : Int) ∧ (a1.toInt ≤ x3.toInt ∧ x3.toInt ≤ a1.toInt + a2.toInt) ∧ Iv t ∧ Kp s0 t ∧ vk t = ((vk s0).1, vr_wipe a1.toInt x3.toInt (vk s0).2)), (fun L _ => (481 - (vg_li L 3).toInt).toNat))], ?_, List.forall_mem_cons.mpr ⟨?_, fun _ h => absurd h List.not_mem_nil⟩⟩
    ·
      exact ⟨rfl, ⟨a1, rfl, (by omega), (by omega), (by omega), i0, Kx.rf, (by first | exact vk_rr rfl vr_wipe_0.symm | exact vk_rr rfl (vr_wipe_s (by omega) (by omega)))⟩, trivial⟩
    ·
      intro L s5 hL
      obtain ⟨w1, rfl, b2, b3, x4, i6, k7, u8⟩ := hL
      intro v9 e10
      have b11 := vg_add e10 (by omega) (by omega)
      refine And.intro (fun c12 => ?_) (fun c12 => ?_)
      · have c12 : v9.toInt ≤ w1.toInt := c12
        show Iv s5 ∧ Kp s0 s5 ∧ vk s5 = ((vk s0).1, vr_wipe a1.toInt (a1.toInt + a2.toInt) (vk s0).2) ∧ (True)
        exact ⟨i6, k7, vk_rr u8 (by rw [show w1.toInt = a1.toInt + a2.toInt by omega]), (trivial)⟩
      · have c12 : ¬ (v9.toInt ≤ w1.toInt) := c12
        refine And.intro ⟨by omega, by omega⟩ ?_
        intro s13 e14
        have i15 : Iv s13 := Iv.u2 i6 e14
        have k16 : Kp s0 s13 := Kx.u2 k7 e14 (vg_kq_pos (by omega)).1
        have u17 : vk s13 = ((vk s0).1, (vr_put (vr_wipe a1.toInt w1.toInt (vk s0).2) w1.toInt (Int64.ofNat 0))) := vk_k2g u8 e14 (by omega)
        intro v18 e19
        have b20 := vg_add e19 (by omega) (by omega)
        exact ⟨rfl, ⟨v18, rfl, (by omega), (by omega), (by omega), i15, k16, (by first | exact vk_rr u17 vr_wipe_0.symm | exact vk_rr u17 (vr_wipe_s (by omega) (by omega)))⟩, (by show (481 - v18.toInt).toNat < (481 - w1.toInt).toNat; omega)⟩
def o_X11_beginsLoop : List vg_I := [(0, .aload_n 0, 1, 0, 0, 0, 0), (1, .getfield 7, 3, 1061, 11, 0, 0), (4, .iconst 1, 1, 0, 0, 0, 0), (5, .aload_n 0, 1, 0, 0, 0, 0), (6, .getfield 96, 3, 1074, 11, 13, 0), (9, .i2l, 1, 0, 0, 0, 0), (10, .lastore, 1, 0, 0, 0, 0), (11, .aload_n 0, 1, 0, 0, 0, 0), (12, .iconst 2, 1, 0, 0, 0, 0), (13, .bipush 8, 2, 0, 0, 0, 0), (15, .invokevirtual 80, 3, 0, 11, 2, 1189), (18, .aload_n 0, 1, 0, 0, 0, 0), (19, .bipush 23, 2, 0, 0, 0, 0), (21, .bipush 16, 2, 0, 0, 0, 0), (23, .invokevirtual 80, 3, 0, 11, 2, 1189), (26, .aload_n 0, 1, 0, 0, 0, 0), (27, .getfield 7, 3, 1061, 11, 0, 0), (30, .sipush 144, 3, 0, 0, 0, 0), (33, .lconst 0, 1, 0, 0, 0, 0), (34, .lastore, 1, 0, 0, 0, 0), (35, .return_, 1, 0, 0, 0, 0)]
set_option maxRecDepth 100000 in
set_option maxHeartbeats 4000000 in
theorem c_X11_beginsLoop (l : Launch) (G : vg_G) (hp : vg_Hp G) : vg_Ct l G vg_sh r_X11_beginsLoop := by
  refine vg_meth hp vg_sh_ok r_X11_beginsLoop k_X11_beginsLoop rfl (fun h => by cases h) o_X11_beginsLoop [r_X11_wipes] false (by decide +kernel) (by decide +kernel) ⟨_, _, rfl, rfl⟩ (List.forall_mem_cons.mpr ⟨⟨c_X11_wipes l G hp, Nat.le_of_ble_eq_true rfl, Nat.le_of_ble_eq_true rfl⟩, fun _ h => absurd h List.not_mem_nil⟩) (fun h => by cases h) 600 ?_
  intro as s0 hpre
  obtain ⟨r, rfl, hr, i0⟩ := hpre
  simp only [List.mem_cons, List.not_mem_nil, or_false] at hr
  rcases hr with rfl
  ·
    have z1 : (Int32.ofInt 1).toInt = 1 := by decide
    have z2 : (Int32.ofInt 2).toInt = 2 := by decide
    have z8 : (Int32.ofInt 8).toInt = 8 := by decide
    have z16 : (Int32.ofInt 16).toInt = 16 := by decide
    have z23 : (Int32.ofInt 23).toInt = 23 := by decide
    have z144 : (Int32.ofInt 144).toInt = 144 := by decide
    refine ⟨Nat.le_of_ble_eq_true rfl, [], ?_, fun _ h => absurd h List.not_mem_nil⟩
    ·
      intro v1 e2
      have g3 : s0.1 55 13 = v1 := by rw [e2]
      intro v4 e5
      refine And.intro ⟨by omega, by omega⟩ ?_
      intro s6 e7
      have i8 : Iv s6 := Iv.u2 i0 e7
      have k9 : Kp s0 s6 := Kx.u2 Kx.rf e7 (vg_kq_pos (by omega)).1
      have u10 : vk s6 = ((vk s0).1, (vk s0).2) := vk_k2o rfl e7 (by omega)
      refine And.intro (Nat.le_of_ble_eq_true rfl) (And.intro ⟨55, (Int32.ofInt 2), (Int32.ofInt 8), rfl, by decide, i8, by omega⟩ ?_)
      intro s12 h11
      have h11 : Iv s12 ∧ Kp s6 s12 ∧ vk s12 = ((vk s6).1, vr_wipe (Int32.ofInt 2).toInt ((Int32.ofInt 2).toInt + (Int32.ofInt 8).toInt) (vk s6).2) ∧ (True) := h11
      have i13 := h11.1
      have k14 : Kp s0 s12 := Kx.tr k9 (h11.2.1)
      have u15 : vk s12 = ((vk s0).1, (vk s0).2) := vk_wno h11.2.2.1 u10 (by omega)
      refine And.intro (Nat.le_of_ble_eq_true rfl) (And.intro ⟨55, (Int32.ofInt 23), (Int32.ofInt 16), rfl, by decide, i13, by omega⟩ ?_)
      intro s17 h16
      have h16 : Iv s17 ∧ Kp s12 s17 ∧ vk s17 = ((vk s12).1, vr_wipe (Int32.ofInt 23).toInt ((Int32.ofInt 23).toInt + (Int32.ofInt 16).toInt) (vk s12).2) ∧ (True) := h16
      have i18 := h16.1
      have k19 : Kp s0 s17 := Kx.tr k14 (h16.2.1)
      have u20 : vk s17 = ((vk s0).1, (vk s0).2) := vk_wno h16.2.2.1 u15 (by omega)
      refine And.intro ⟨by omega, by omega⟩ ?_
      intro s21 e22
      have i23 : Iv s21 := Iv.u2 i18 e22
      have k24 : Kp s0 s21 := Kx.u2 k19 e22 (vg_kq_pos (by omega)).1
      have u25 : vk s21 = ((vk s0).1, (vk s0).2) := vk_k2o u20 e22 (by omega)
      show Iv s21 ∧ Kp s0 s21 ∧ vk s21 = ((vk s0).1, (vk s0).2) ∧ (True)
      exact ⟨i23, k24, u25, (trivial)⟩
def o_X11_beginsElements : List vg_I := [(0, .aload_n 0, 1, 0, 0, 0, 0), (1, .bipush 10, 2, 0, 0, 0, 0), (3, .iconst 3, 1, 0, 0, 0, 0), (4, .invokevirtual 80, 3, 0, 11, 2, 1189), (7, .aload_n 0, 1, 0, 0, 0, 0), (8, .bipush 39, 2, 0, 0, 0, 0), (10, .bipush 49, 2, 0, 0, 0, 0), (12, .invokevirtual 80, 3, 0, 11, 2, 1189), (15, .return_, 1, 0, 0, 0, 0)]
set_option maxRecDepth 100000 in
set_option maxHeartbeats 4000000 in
theorem c_X11_beginsElements (l : Launch) (G : vg_G) (hp : vg_Hp G) : vg_Ct l G vg_sh r_X11_beginsElements := by
  refine vg_meth hp vg_sh_ok r_X11_beginsElements k_X11_beginsElements rfl (fun h => by cases h) o_X11_beginsElements [r_X11_wipes] false (by decide +kernel) (by decide +kernel) ⟨_, _, rfl, rfl⟩ (List.forall_mem_cons.mpr ⟨⟨c_X11_wipes l G hp, Nat.le_of_ble_eq_true rfl, Nat.le_of_ble_eq_true rfl⟩, fun _ h => absurd h List.not_mem_nil⟩) (fun h => by cases h) 600 ?_
  intro as s0 hpre
  obtain ⟨r, rfl, hr, i0⟩ := hpre
  simp only [List.mem_cons, List.not_mem_nil, or_false] at hr
  rcases hr with rfl
  ·
    have z3 : (Int32.ofInt 3).toInt = 3 := by decide
    have z10 : (Int32.ofInt 10).toInt = 10 := by decide
    have z39 : (Int32.ofInt 39).toInt = 39 := by decide
    have z49 : (Int32.ofInt 49).toInt = 49 := by decide
    refine ⟨Nat.le_of_ble_eq_true rfl, [], ?_, fun _ h => absurd h List.not_mem_nil⟩
    ·
      refine And.intro (Nat.le_of_ble_eq_true rfl) (And.intro ⟨55, (Int32.ofInt 10), (Int32.ofInt 3), rfl, by decide, i0, by omega⟩ ?_)
      intro s2 h1
      have h1 : Iv s2 ∧ Kp s0 s2 ∧ vk s2 = ((vk s0).1, vr_wipe (Int32.ofInt 10).toInt ((Int32.ofInt 10).toInt + (Int32.ofInt 3).toInt) (vk s0).2) ∧ (True) := h1
      have i3 := h1.1
      have k4 : Kp s0 s2 := Kx.tr Kx.rf (h1.2.1)
      have u5 : vk s2 = ((vk s0).1, (vk s0).2) := vk_wno h1.2.2.1 rfl (by omega)
      refine And.intro (Nat.le_of_ble_eq_true rfl) (And.intro ⟨55, (Int32.ofInt 39), (Int32.ofInt 49), rfl, by decide, i3, by omega⟩ ?_)
      intro s7 h6
      have h6 : Iv s7 ∧ Kp s2 s7 ∧ vk s7 = ((vk s2).1, vr_wipe (Int32.ofInt 39).toInt ((Int32.ofInt 39).toInt + (Int32.ofInt 49).toInt) (vk s2).2) ∧ (True) := h6
      have i8 := h6.1
      have k9 : Kp s0 s7 := Kx.tr k4 (h6.2.1)
      have u10 : vk s7 = ((vk s0).1, (vk s0).2) := vk_wno h6.2.2.1 u5 (by omega)
      show Iv s7 ∧ Kp s0 s7 ∧ vk s7 = ((vk s0).1, (vk s0).2) ∧ (True)
      exact ⟨i8, k9, u10, (trivial)⟩
def o_X11_begins : List vg_I := [(0, .iload_n 1, 1, 0, 0, 0, 0), (1, .istore_n 2, 1, 0, 0, 0, 0), (2, .iload_n 2, 1, 0, 0, 0, 0), (3, .bipush 7, 2, 0, 0, 0, 0), (5, .if_icmp .ge 33, 3, 0, 0, 0, 0), (8, .aload_n 0, 1, 0, 0, 0, 0), (9, .getfield 7, 3, 1061, 11, 0, 0), (12, .bipush 16, 2, 0, 0, 0, 0), (14, .iload_n 2, 1, 0, 0, 0, 0), (15, .iadd, 1, 0, 0, 0, 0), (16, .lconst 0, 1, 0, 0, 0, 0), (17, .lastore, 1, 0, 0, 0, 0), (18, .aload_n 0, 1, 0, 0, 0, 0), (19, .sipush 145, 3, 0, 0, 0, 0), (22, .bipush 48, 2, 0, 0, 0, 0), (24, .iload_n 2, 1, 0, 0, 0, 0), (25, .imul, 1, 0, 0, 0, 0), (26, .iadd, 1, 0, 0, 0, 0), (27, .bipush 48, 2, 0, 0, 0, 0), (29, .invokevirtual 80, 3, 0, 11, 2, 1189), (32, .iinc 2 1, 3, 0, 0, 0, 0), (35, .goto (-33), 3, 0, 0, 0, 0), (38, .iload_n 1, 1, 0, 0, 0, 0), (39, .iconst 1, 1, 0, 0, 0, 0), (40, .if_icmp .gt 7, 3, 0, 0, 0, 0), (43, .aload_n 0, 1, 0, 0, 0, 0), (44, .invokevirtual 84, 3, 1, 11, 0, 1193), (47, .iload_n 1, 1, 0, 0, 0, 0), (48, .iconst 2, 1, 0, 0, 0, 0), (49, .if_icmp .gt 7, 3, 0, 0, 0, 0), (52, .aload_n 0, 1, 0, 0, 0, 0), (53, .invokevirtual 87, 3, 2, 11, 0, 1197), (56, .iload_n 1, 1, 0, 0, 0, 0), (57, .iconst 3, 1, 0, 0, 0, 0), (58, .if_icmp .gt 18, 3, 0, 0, 0, 0), (61, .aload_n 0, 1, 0, 0, 0, 0), (62, .bipush 13, 2, 0, 0, 0, 0), (64, .iconst 3, 1, 0, 0, 0, 0), (65, .invokevirtual 80, 3, 0, 11, 2, 1189), (68, .aload_n 0, 1, 0, 0, 0, 0), (69, .bipush 88, 2, 0, 0, 0, 0), (71, .bipush 20, 2, 0, 0, 0, 0), (73, .invokevirtual 80, 3, 0, 11, 2, 1189), (76, .iconst 0, 1, 0, 0, 0, 0), (77, .iload_n 1, 1, 0, 0, 0, 0), (78, .iconst 4, 1, 0, 0, 0, 0), (79, .isub, 1, 0, 0, 0, 0), (80, .invokestatic 90, 3, 3, 1, 2, 1201), (83, .istore_n 2, 1, 0, 0, 0, 0), (84, .iload_n 2, 1, 0, 0, 0, 0), (85, .iconst 3, 1, 0, 0, 0, 0), (86, .if_icmp .ge 32, 3, 0, 0, 0, 0), (89, .aload_n 0, 1, 0, 0, 0, 0), (90, .getfield 7, 3, 1061, 11, 0, 0), (93, .bipush 108, 2, 0, 0, 0, 0), (95, .iload_n 2, 1, 0, 0, 0, 0), (96, .iadd, 1, 0, 0, 0, 0), (97, .lconst 0, 1, 0, 0, 0, 0), (98, .lastore, 1, 0, 0, 0, 0), (99, .aload_n 0, 1, 0, 0, 0, 0), (100, .bipush 111, 2, 0, 0, 0, 0), (102, .bipush 11, 2, 0, 0, 0, 0), (104, .iload_n 2, 1, 0, 0, 0, 0), (105, .imul, 1, 0, 0, 0, 0), (106, .iadd, 1, 0, 0, 0, 0), (107, .bipush 11, 2, 0, 0, 0, 0), (109, .invokevirtual 80, 3, 0, 11, 2, 1189), (112, .iinc 2 1, 3, 0, 0, 0, 0), (115, .goto (-31), 3, 0, 0, 0, 0), (118, .return_, 1, 0, 0, 0, 0)]
set_option maxRecDepth 100000 in
set_option maxHeartbeats 4000000 in
theorem c_X11_begins (l : Launch) (G : vg_G) (hp : vg_Hp G) : vg_Ct l G vg_sh r_X11_begins := by
  refine vg_meth hp vg_sh_ok r_X11_begins k_X11_begins rfl (fun h => by cases h) o_X11_begins [r_X11_wipes, r_X11_beginsLoop, r_X11_beginsElements, r_J9_max_7cf53] false (by decide +kernel) (by decide +kernel) ⟨_, _, rfl, rfl⟩ (List.forall_mem_cons.mpr ⟨⟨c_X11_wipes l G hp, Nat.le_of_ble_eq_true rfl, Nat.le_of_ble_eq_true rfl⟩, List.forall_mem_cons.mpr ⟨⟨c_X11_beginsLoop l G hp, Nat.le_of_ble_eq_true rfl, Nat.le_of_ble_eq_true rfl⟩, List.forall_mem_cons.mpr ⟨⟨c_X11_beginsElements l G hp, Nat.le_of_ble_eq_true rfl, Nat.le_of_ble_eq_true rfl⟩, List.forall_mem_cons.mpr ⟨⟨c_J9_max_7cf53 l G hp, Nat.le_of_ble_eq_true rfl, Nat.le_of_ble_eq_true rfl⟩, fun _ h => absurd h List.not_mem_nil⟩⟩⟩⟩) (fun h => by cases h) 600 ?_
  intro as s0 hpre
  obtain ⟨r, a1, rfl, hr, i0, p0⟩ := hpre
  simp only [List.mem_cons, List.not_mem_nil, or_false] at hr
  rcases hr with rfl
  ·
    have z0 : (Int32.ofInt 0).toInt = 0 := by decide
    have z1 : (Int32.ofInt 1).toInt = 1 := by decide
    have z2 : (Int32.ofInt 2).toInt = 2 := by decide
    have z3 : (Int32.ofInt 3).toInt = 3 := by decide
    have z4 : (Int32.ofInt 4).toInt = 4 := by decide
    have z7 : (Int32.ofInt 7).toInt = 7 := by decide
    have z11 : (Int32.ofInt 11).toInt = 11 := by decide
    have z13 : (Int32.ofInt 13).toInt = 13 := by decide
    have z16 : (Int32.ofInt 16).toInt = 16 := by decide
    have z20 : (Int32.ofInt 20).toInt = 20 := by decide
    have z48 : (Int32.ofInt 48).toInt = 48 := by decide
    have z88 : (Int32.ofInt 88).toInt = 88 := by decide
    have z108 : (Int32.ofInt 108).toInt = 108 := by decide
    have z111 : (Int32.ofInt 111).toInt = 111 := by decide
    have z145 : (Int32.ofInt 145).toInt = 145 := by decide
    refine ⟨Nat.le_of_ble_eq_true rfl, [(2, [true, true, true], (fun L t => ∃ (x2 : Int32), L = [some (.ref 55), some (.int a1), some (.int x2)] ∧ (0 : Int) ≤ x2.toInt ∧ x2.toInt ≤ (7 : Int) ∧ (a1.toInt ≤ x2.toInt) ∧ Iv t ∧ Kp s0 t ∧ vk t = ((vk s0).1, kb1 (Int64.ofNat 0) a1.toInt x2.toInt (vk s0).2)), (fun L _ => (10000000000000000 + (7 - (vg_li L 2).toInt) * 1000000000000).toNat)), (84, [true, false, true], (fun L t => ∃ (x2 : Int32), L = [some (.ref 55), none, some (.int x2)] ∧ (0 : Int) ≤ x2.toInt ∧ x2.toInt ≤ (3 : Int) ∧ (a1.toInt ≤ 4 + x2.toInt) ∧ Iv t ∧ Kp s0 t ∧ vk t = ((vk s0).1, kb2 (Int64.ofNat 0) a1.toInt x2.toInt (vk s0).2)), (fun L _ => (0 + (3 - (vg_li L 2).toInt) * 1000000000000).toNat))], ?_, List.forall_mem_cons.mpr ⟨?_, List.forall_mem_cons.mpr ⟨?_, fun _ h => absurd h List.not_mem_nil⟩⟩⟩
    ·
      exact ⟨rfl, ⟨a1, rfl, (by omega), (by omega), (by omega), i0, Kx.rf, (by first | exact vk_rr rfl (kb1_0 (by omega)).symm | exact vk_rr rfl (kb1_s (by omega) (by omega) (by omega) (by omega)))⟩, trivial⟩
    ·
      intro L s5 hL
      obtain ⟨w1, rfl, b2, b3, x4, i6, k7, u8⟩ := hL
      refine And.intro (fun c9 => ?_) (fun c9 => ?_)
      · have c9 : (Int32.ofInt 7).toInt ≤ w1.toInt := c9
        refine And.intro (fun c10 => ?_) (fun c10 => ?_)
        · have c10 : (Int32.ofInt 1).toInt < a1.toInt := c10
          refine And.intro (fun c11 => ?_) (fun c11 => ?_)
          · have c11 : (Int32.ofInt 2).toInt < a1.toInt := c11
            refine And.intro (fun c12 => ?_) (fun c12 => ?_)
            · have c12 : (Int32.ofInt 3).toInt < a1.toInt := c12
              intro v13 e14
              have b15 := vg_sub e14 (by omega) (by omega)
              refine And.intro (Nat.le_of_ble_eq_true rfl) (And.intro ⟨(Int32.ofInt 0), v13, rfl, trivial⟩ ?_)
              intro v16 s18 h17
              have h17 : s18 = s5 ∧ ((Int32.ofInt 0).toInt ≤ v16.toInt ∧ v13.toInt ≤ v16.toInt ∧ (v16.toInt = (Int32.ofInt 0).toInt ∨ v16.toInt = v13.toInt)) := h17
              have q21 := h17.1.symm
              subst q21
              have q22 := h17.2
              exact ⟨rfl, ⟨v16, rfl, (by omega), (by omega), (by omega), i6, k7, (by first | exact vk_rr u8 (kb2_0c (by omega) (by omega) (by omega)) | exact vk_rr u8 (kb2_0b (by omega) (by omega) (by omega)) | exact vk_rr u8 (kb2_s (by omega) (by omega) (by omega) (by omega)))⟩, (by show (0 + (3 - v16.toInt) * 1000000000000).toNat < (10000000000000000 + (7 - w1.toInt) * 1000000000000).toNat; omega)⟩
            · have c12 : ¬ ((Int32.ofInt 3).toInt < a1.toInt) := c12
              refine And.intro (Nat.le_of_ble_eq_true rfl) (And.intro ⟨55, (Int32.ofInt 13), (Int32.ofInt 3), rfl, by decide, i6, by omega⟩ ?_)
              intro s24 h23
              have h23 : Iv s24 ∧ Kp s5 s24 ∧ vk s24 = ((vk s5).1, vr_wipe (Int32.ofInt 13).toInt ((Int32.ofInt 13).toInt + (Int32.ofInt 3).toInt) (vk s5).2) ∧ (True) := h23
              have i25 := h23.1
              have k26 : Kp s0 s24 := Kx.tr k7 (h23.2.1)
              have u27 : vk s24 = ((vk s0).1, (kset (kb1 (Int64.ofNat 0) a1.toInt w1.toInt (vk s0).2) 7 (Int64.ofNat 0))) := vk_w7 h23.2.2.1 u8 (by omega)
              refine And.intro (Nat.le_of_ble_eq_true rfl) (And.intro ⟨55, (Int32.ofInt 88), (Int32.ofInt 20), rfl, by decide, i25, by omega⟩ ?_)
              intro s29 h28
              have h28 : Iv s29 ∧ Kp s24 s29 ∧ vk s29 = ((vk s24).1, vr_wipe (Int32.ofInt 88).toInt ((Int32.ofInt 88).toInt + (Int32.ofInt 20).toInt) (vk s24).2) ∧ (True) := h28
              have i30 := h28.1
              have k31 : Kp s0 s29 := Kx.tr k26 (h28.2.1)
              have u32 : vk s29 = ((vk s0).1, (kset (kb1 (Int64.ofNat 0) a1.toInt w1.toInt (vk s0).2) 7 (Int64.ofNat 0))) := vk_wno h28.2.2.1 u27 (by omega)
              intro v33 e34
              have b35 := vg_sub e34 (by omega) (by omega)
              refine And.intro (Nat.le_of_ble_eq_true rfl) (And.intro ⟨(Int32.ofInt 0), v33, rfl, trivial⟩ ?_)
              intro v36 s38 h37
              have h37 : s38 = s29 ∧ ((Int32.ofInt 0).toInt ≤ v36.toInt ∧ v33.toInt ≤ v36.toInt ∧ (v36.toInt = (Int32.ofInt 0).toInt ∨ v36.toInt = v33.toInt)) := h37
              have q41 := h37.1.symm
              subst q41
              have q42 := h37.2
              exact ⟨rfl, ⟨v36, rfl, (by omega), (by omega), (by omega), i30, k31, (by first | exact vk_rr u32 (kb2_0c (by omega) (by omega) (by omega)) | exact vk_rr u32 (kb2_0b (by omega) (by omega) (by omega)) | exact vk_rr u32 (kb2_s (by omega) (by omega) (by omega) (by omega)))⟩, (by show (0 + (3 - v36.toInt) * 1000000000000).toNat < (10000000000000000 + (7 - w1.toInt) * 1000000000000).toNat; omega)⟩
          · have c11 : ¬ ((Int32.ofInt 2).toInt < a1.toInt) := c11
            refine And.intro (Nat.le_of_ble_eq_true rfl) (And.intro ⟨55, rfl, by decide, i6⟩ ?_)
            intro s44 h43
            have h43 : Iv s44 ∧ Kp s5 s44 ∧ vk s44 = ((vk s5).1, (vk s5).2) ∧ (True) := h43
            have i45 := h43.1
            have k46 : Kp s0 s44 := Kx.tr k7 (h43.2.1)
            have u47 : vk s44 = ((vk s0).1, (kb1 (Int64.ofNat 0) a1.toInt w1.toInt (vk s0).2)) := h43.2.2.1.trans u8
            refine And.intro (fun c48 => ?_) (fun c48 => ?_)
            · have c48 : (Int32.ofInt 3).toInt < a1.toInt := c48
              exfalso
              omega
            · have c48 : ¬ ((Int32.ofInt 3).toInt < a1.toInt) := c48
              refine And.intro (Nat.le_of_ble_eq_true rfl) (And.intro ⟨55, (Int32.ofInt 13), (Int32.ofInt 3), rfl, by decide, i45, by omega⟩ ?_)
              intro s50 h49
              have h49 : Iv s50 ∧ Kp s44 s50 ∧ vk s50 = ((vk s44).1, vr_wipe (Int32.ofInt 13).toInt ((Int32.ofInt 13).toInt + (Int32.ofInt 3).toInt) (vk s44).2) ∧ (True) := h49
              have i51 := h49.1
              have k52 : Kp s0 s50 := Kx.tr k46 (h49.2.1)
              have u53 : vk s50 = ((vk s0).1, (kset (kb1 (Int64.ofNat 0) a1.toInt w1.toInt (vk s0).2) 7 (Int64.ofNat 0))) := vk_w7 h49.2.2.1 u47 (by omega)
              refine And.intro (Nat.le_of_ble_eq_true rfl) (And.intro ⟨55, (Int32.ofInt 88), (Int32.ofInt 20), rfl, by decide, i51, by omega⟩ ?_)
              intro s55 h54
              have h54 : Iv s55 ∧ Kp s50 s55 ∧ vk s55 = ((vk s50).1, vr_wipe (Int32.ofInt 88).toInt ((Int32.ofInt 88).toInt + (Int32.ofInt 20).toInt) (vk s50).2) ∧ (True) := h54
              have i56 := h54.1
              have k57 : Kp s0 s55 := Kx.tr k52 (h54.2.1)
              have u58 : vk s55 = ((vk s0).1, (kset (kb1 (Int64.ofNat 0) a1.toInt w1.toInt (vk s0).2) 7 (Int64.ofNat 0))) := vk_wno h54.2.2.1 u53 (by omega)
              intro v59 e60
              have b61 := vg_sub e60 (by omega) (by omega)
              refine And.intro (Nat.le_of_ble_eq_true rfl) (And.intro ⟨(Int32.ofInt 0), v59, rfl, trivial⟩ ?_)
              intro v62 s64 h63
              have h63 : s64 = s55 ∧ ((Int32.ofInt 0).toInt ≤ v62.toInt ∧ v59.toInt ≤ v62.toInt ∧ (v62.toInt = (Int32.ofInt 0).toInt ∨ v62.toInt = v59.toInt)) := h63
              have q67 := h63.1.symm
              subst q67
              have q68 := h63.2
              exact ⟨rfl, ⟨v62, rfl, (by omega), (by omega), (by omega), i56, k57, (by first | exact vk_rr u58 (kb2_0c (by omega) (by omega) (by omega)) | exact vk_rr u58 (kb2_0b (by omega) (by omega) (by omega)) | exact vk_rr u58 (kb2_s (by omega) (by omega) (by omega) (by omega)))⟩, (by show (0 + (3 - v62.toInt) * 1000000000000).toNat < (10000000000000000 + (7 - w1.toInt) * 1000000000000).toNat; omega)⟩
        · have c10 : ¬ ((Int32.ofInt 1).toInt < a1.toInt) := c10
          refine And.intro (Nat.le_of_ble_eq_true rfl) (And.intro ⟨55, rfl, by decide, i6⟩ ?_)
          intro s70 h69
          have h69 : Iv s70 ∧ Kp s5 s70 ∧ vk s70 = ((vk s5).1, (vk s5).2) ∧ (True) := h69
          have i71 := h69.1
          have k72 : Kp s0 s70 := Kx.tr k7 (h69.2.1)
          have u73 : vk s70 = ((vk s0).1, (kb1 (Int64.ofNat 0) a1.toInt w1.toInt (vk s0).2)) := h69.2.2.1.trans u8
          refine And.intro (fun c74 => ?_) (fun c74 => ?_)
          · have c74 : (Int32.ofInt 2).toInt < a1.toInt := c74
            exfalso
            omega
          · have c74 : ¬ ((Int32.ofInt 2).toInt < a1.toInt) := c74
            refine And.intro (Nat.le_of_ble_eq_true rfl) (And.intro ⟨55, rfl, by decide, i71⟩ ?_)
            intro s76 h75
            have h75 : Iv s76 ∧ Kp s70 s76 ∧ vk s76 = ((vk s70).1, (vk s70).2) ∧ (True) := h75
            have i77 := h75.1
            have k78 : Kp s0 s76 := Kx.tr k72 (h75.2.1)
            have u79 : vk s76 = ((vk s0).1, (kb1 (Int64.ofNat 0) a1.toInt w1.toInt (vk s0).2)) := h75.2.2.1.trans u73
            refine And.intro (fun c80 => ?_) (fun c80 => ?_)
            · have c80 : (Int32.ofInt 3).toInt < a1.toInt := c80
              exfalso
              omega
            · have c80 : ¬ ((Int32.ofInt 3).toInt < a1.toInt) := c80
              refine And.intro (Nat.le_of_ble_eq_true rfl) (And.intro ⟨55, (Int32.ofInt 13), (Int32.ofInt 3), rfl, by decide, i77, by omega⟩ ?_)
              intro s82 h81
              have h81 : Iv s82 ∧ Kp s76 s82 ∧ vk s82 = ((vk s76).1, vr_wipe (Int32.ofInt 13).toInt ((Int32.ofInt 13).toInt + (Int32.ofInt 3).toInt) (vk s76).2) ∧ (True) := h81
              have i83 := h81.1
              have k84 : Kp s0 s82 := Kx.tr k78 (h81.2.1)
              have u85 : vk s82 = ((vk s0).1, (kset (kb1 (Int64.ofNat 0) a1.toInt w1.toInt (vk s0).2) 7 (Int64.ofNat 0))) := vk_w7 h81.2.2.1 u79 (by omega)
              refine And.intro (Nat.le_of_ble_eq_true rfl) (And.intro ⟨55, (Int32.ofInt 88), (Int32.ofInt 20), rfl, by decide, i83, by omega⟩ ?_)
              intro s87 h86
              have h86 : Iv s87 ∧ Kp s82 s87 ∧ vk s87 = ((vk s82).1, vr_wipe (Int32.ofInt 88).toInt ((Int32.ofInt 88).toInt + (Int32.ofInt 20).toInt) (vk s82).2) ∧ (True) := h86
              have i88 := h86.1
              have k89 : Kp s0 s87 := Kx.tr k84 (h86.2.1)
              have u90 : vk s87 = ((vk s0).1, (kset (kb1 (Int64.ofNat 0) a1.toInt w1.toInt (vk s0).2) 7 (Int64.ofNat 0))) := vk_wno h86.2.2.1 u85 (by omega)
              intro v91 e92
              have b93 := vg_sub e92 (by omega) (by omega)
              refine And.intro (Nat.le_of_ble_eq_true rfl) (And.intro ⟨(Int32.ofInt 0), v91, rfl, trivial⟩ ?_)
              intro v94 s96 h95
              have h95 : s96 = s87 ∧ ((Int32.ofInt 0).toInt ≤ v94.toInt ∧ v91.toInt ≤ v94.toInt ∧ (v94.toInt = (Int32.ofInt 0).toInt ∨ v94.toInt = v91.toInt)) := h95
              have q99 := h95.1.symm
              subst q99
              have q100 := h95.2
              exact ⟨rfl, ⟨v94, rfl, (by omega), (by omega), (by omega), i88, k89, (by first | exact vk_rr u90 (kb2_0c (by omega) (by omega) (by omega)) | exact vk_rr u90 (kb2_0b (by omega) (by omega) (by omega)) | exact vk_rr u90 (kb2_s (by omega) (by omega) (by omega) (by omega)))⟩, (by show (0 + (3 - v94.toInt) * 1000000000000).toNat < (10000000000000000 + (7 - w1.toInt) * 1000000000000).toNat; omega)⟩
      · have c9 : ¬ ((Int32.ofInt 7).toInt ≤ w1.toInt) := c9
        intro v101 e102
        have b103 := vg_add e102 (by omega) (by omega)
        have h9 : w1.toNatClampNeg = w1.toInt.toNat := rfl
        refine And.intro ⟨by omega, by omega⟩ ?_
        intro s104 e105
        have i106 : Iv s104 := Iv.u2 i6 e105
        have k107 : Kp s0 s104 := Kx.u2 k7 e105 (vg_kq_pos (by omega)).1
        have u108 : vk s104 = ((vk s0).1, (kset (kb1 (Int64.ofNat 0) a1.toInt w1.toInt (vk s0).2) w1.toNatClampNeg (Int64.ofNat 0))) := vk_k2s (q := w1.toNatClampNeg) u8 e105 (by omega)
        intro v109 e110
        have b111 : v109.toInt = (48) * w1.toInt := vg_mulL e110 (by omega) (by omega) (by omega)
        intro v112 e113
        have b114 := vg_add e113 (by omega) (by omega)
        refine And.intro (Nat.le_of_ble_eq_true rfl) (And.intro ⟨55, v112, (Int32.ofInt 48), rfl, by decide, i106, by omega⟩ ?_)
        intro s116 h115
        have h115 : Iv s116 ∧ Kp s104 s116 ∧ vk s116 = ((vk s104).1, vr_wipe v112.toInt (v112.toInt + (Int32.ofInt 48).toInt) (vk s104).2) ∧ (True) := h115
        have i117 := h115.1
        have k118 : Kp s0 s116 := Kx.tr k107 (h115.2.1)
        have u119 : vk s116 = ((vk s0).1, (kset (kb1 (Int64.ofNat 0) a1.toInt w1.toInt (vk s0).2) w1.toNatClampNeg (Int64.ofNat 0))) := vk_wno h115.2.2.1 u108 (by omega)
        intro v120 e121
        have b122 := vg_add e121 (by omega) (by omega)
        exact ⟨rfl, ⟨v120, rfl, (by omega), (by omega), (by omega), i117, k118, (by first | exact vk_rr u119 (kb1_0 (by omega)).symm | exact vk_rr u119 (kb1_s (by omega) (by omega) (by omega) (by omega)))⟩, (by show (10000000000000000 + (7 - v120.toInt) * 1000000000000).toNat < (10000000000000000 + (7 - w1.toInt) * 1000000000000).toNat; omega)⟩
    ·
      intro L s127 hL
      obtain ⟨w123, rfl, b124, b125, x126, i128, k129, u130⟩ := hL
      refine And.intro (fun c131 => ?_) (fun c131 => ?_)
      · have c131 : (Int32.ofInt 3).toInt ≤ w123.toInt := c131
        show Iv s127 ∧ Kp s0 s127 ∧ vk s127 = ((vk s0).1, kb2 (Int64.ofNat 0) a1.toInt 3 (vk s0).2) ∧ (True)
        exact ⟨i128, k129, vk_rr u130 (kb2_e (by omega)), (trivial)⟩
      · have c131 : ¬ ((Int32.ofInt 3).toInt ≤ w123.toInt) := c131
        intro v132 e133
        have b134 := vg_add e133 (by omega) (by omega)
        have h9 : w123.toNatClampNeg = w123.toInt.toNat := rfl
        refine And.intro ⟨by omega, by omega⟩ ?_
        intro s135 e136
        have i137 : Iv s135 := Iv.u2 i128 e136
        have k138 : Kp s0 s135 := Kx.u2 k129 e136 (vg_kq_pos (by omega)).1
        have u139 : vk s135 = ((vk s0).1, (kset (kb2 (Int64.ofNat 0) a1.toInt w123.toInt (vk s0).2) (8 + w123.toNatClampNeg) (Int64.ofNat 0))) := vk_k2s (q := (8 + w123.toNatClampNeg)) u130 e136 (by omega)
        intro v140 e141
        have b142 : v140.toInt = (11) * w123.toInt := vg_mulL e141 (by omega) (by omega) (by omega)
        intro v143 e144
        have b145 := vg_add e144 (by omega) (by omega)
        refine And.intro (Nat.le_of_ble_eq_true rfl) (And.intro ⟨55, v143, (Int32.ofInt 11), rfl, by decide, i137, by omega⟩ ?_)
        intro s147 h146
        have h146 : Iv s147 ∧ Kp s135 s147 ∧ vk s147 = ((vk s135).1, vr_wipe v143.toInt (v143.toInt + (Int32.ofInt 11).toInt) (vk s135).2) ∧ (True) := h146
        have i148 := h146.1
        have k149 : Kp s0 s147 := Kx.tr k138 (h146.2.1)
        have u150 : vk s147 = ((vk s0).1, (kset (kb2 (Int64.ofNat 0) a1.toInt w123.toInt (vk s0).2) (8 + w123.toNatClampNeg) (Int64.ofNat 0))) := vk_wno h146.2.2.1 u139 (by omega)
        intro v151 e152
        have b153 := vg_add e152 (by omega) (by omega)
        exact ⟨rfl, ⟨v151, rfl, (by omega), (by omega), (by omega), i148, k149, (by first | exact vk_rr u150 (kb2_0c (by omega) (by omega) (by omega)) | exact vk_rr u150 (kb2_0b (by omega) (by omega) (by omega)) | exact vk_rr u150 (kb2_s (by omega) (by omega) (by omega) (by omega)))⟩, (by show (0 + (3 - v151.toInt) * 1000000000000).toNat < (0 + (3 - w123.toInt) * 1000000000000).toNat; omega)⟩
def o_X11_elements : List vg_I := [(0, .aload_n 0, 1, 0, 0, 0, 0), (1, .getfield 99, 3, 1068, 11, 7, 0), (4, .iconst 2, 1, 0, 0, 0, 0), (5, .if_icmp .ne 21, 3, 0, 0, 0, 0), (8, .aload_n 0, 1, 0, 0, 0, 0), (9, .getfield 26, 3, 1071, 11, 10, 0), (12, .iconst 1, 1, 0, 0, 0, 0), (13, .isub, 1, 0, 0, 0, 0), (14, .iconst 1, 1, 0, 0, 0, 0), (15, .aload_n 0, 1, 0, 0, 0, 0), (16, .getfield 20, 3, 1069, 11, 8, 0), (19, .ishl, 1, 0, 0, 0, 0), (20, .iconst 1, 1, 0, 0, 0, 0), (21, .isub, 1, 0, 0, 0, 0), (22, .imul, 1, 0, 0, 0, 0), (23, .goto 9, 3, 0, 0, 0, 0), (26, .aload_n 0, 1, 0, 0, 0, 0), (27, .getfield 26, 3, 1071, 11, 10, 0), (30, .iconst 1, 1, 0, 0, 0, 0), (31, .isub, 1, 0, 0, 0, 0), (32, .ireturn, 1, 0, 0, 0, 0)]
set_option maxRecDepth 100000 in
set_option maxHeartbeats 4000000 in
theorem c_X11_elements (l : Launch) (G : vg_G) (hp : vg_Hp G) : vg_Ct l G vg_sh r_X11_elements := by
  refine vg_meth hp vg_sh_ok r_X11_elements k_X11_elements rfl (fun h => by cases h) o_X11_elements [] false (by decide +kernel) (by decide +kernel) ⟨_, _, rfl, rfl⟩ (fun _ h => absurd h List.not_mem_nil) (fun h => by cases h) 600 ?_
  intro as s0 hpre
  obtain ⟨r, rfl, hr, i0⟩ := hpre
  simp only [List.mem_cons, List.not_mem_nil, or_false] at hr
  rcases hr with rfl
  ·
    have z1 : (Int32.ofInt 1).toInt = 1 := by decide
    have z2 : (Int32.ofInt 2).toInt = 2 := by decide
    refine ⟨Nat.le_of_ble_eq_true rfl, [], ?_, fun _ h => absurd h List.not_mem_nil⟩
    ·
      intro v1 e2
      have g3 : s0.1 55 7 = v1 := by rw [e2]
      have b4 : v1.toInt = (s0.1 55 7).toInt := congrArg Int32.toInt e2
      refine And.intro (fun c5 => ?_) (fun c5 => ?_)
      · have c5 : ¬ v1.toInt = (Int32.ofInt 2).toInt := c5
        intro v6 e7
        have g8 : s0.1 55 10 = v6 := by rw [e7]
        have b9 : (2 : Int) ≤ v6.toInt ∧ v6.toInt ≤ 17 := by rw [e7]; exact Iv_55_10 i0
        intro v10 e11
        have b12 := vg_sub e11 (by omega) (by omega)
        show s0 = s0 ∧ (v10 = vg_me s0 ∧ 1 ≤ v10.toInt ∧ v10.toInt ≤ 16)
        exact ⟨rfl, (by have h9 : v10 = vg_me s0 := (by simp only [vg_me]; (first | rw [if_pos (by omega)] | rw [if_neg (by omega)]); subst_vars; rfl); have h8 := i0.2; rw [← h9] at h8; exact ⟨h9, h8⟩)⟩
      · have c5 : ¬ (¬ v1.toInt = (Int32.ofInt 2).toInt) := c5
        intro v13 e14
        have g15 : s0.1 55 10 = v13 := by rw [e14]
        have b16 : (2 : Int) ≤ v13.toInt ∧ v13.toInt ≤ 17 := by rw [e14]; exact Iv_55_10 i0
        intro v17 e18
        have b19 := vg_sub e18 (by omega) (by omega)
        intro v20 e21
        have g22 : s0.1 55 8 = v20 := by rw [e21]
        have b23 : (1 : Int) ≤ v20.toInt ∧ v20.toInt ≤ 4 := by rw [e21]; exact Iv_55_8 i0
        intro v24 e25
        have b26 := vg_shl1 e25 (by omega) (by omega) (by omega)
        intro v27 e28
        have b29 := vg_sub e28 (by omega) (by omega)
        intro v30 e31
        have b32 := (vg_mulr e31 (by omega) (by omega) (by omega) (by omega)).2
        show s0 = s0 ∧ (v30 = vg_me s0 ∧ 1 ≤ v30.toInt ∧ v30.toInt ≤ 16)
        exact ⟨rfl, (by have h9 : v30 = vg_me s0 := (by simp only [vg_me]; (first | rw [if_pos (by omega)] | rw [if_neg (by omega)]); subst_vars; rfl); have h8 := i0.2; rw [← h9] at h8; exact ⟨h9, h8⟩)⟩
def o_X11_besides : List vg_I := [(0, .aload_n 0, 1, 0, 0, 0, 0), (1, .getfield 99, 3, 1068, 11, 7, 0), (4, .iconst 2, 1, 0, 0, 0, 0), (5, .if_icmp .ne 23, 3, 0, 0, 0, 0), (8, .aload_n 0, 1, 0, 0, 0, 0), (9, .getfield 26, 3, 1071, 11, 10, 0), (12, .iconst 1, 1, 0, 0, 0, 0), (13, .isub, 1, 0, 0, 0, 0), (14, .iconst 1, 1, 0, 0, 0, 0), (15, .aload_n 0, 1, 0, 0, 0, 0), (16, .getfield 20, 3, 1069, 11, 8, 0), (19, .iconst 1, 1, 0, 0, 0, 0), (20, .isub, 1, 0, 0, 0, 0), (21, .ishl, 1, 0, 0, 0, 0), (22, .iconst 1, 1, 0, 0, 0, 0), (23, .isub, 1, 0, 0, 0, 0), (24, .imul, 1, 0, 0, 0, 0), (25, .goto 4, 3, 0, 0, 0, 0), (28, .iconst 0, 1, 0, 0, 0, 0), (29, .ireturn, 1, 0, 0, 0, 0)]
set_option maxRecDepth 100000 in
set_option maxHeartbeats 4000000 in
theorem c_X11_besides (l : Launch) (G : vg_G) (hp : vg_Hp G) : vg_Ct l G vg_sh r_X11_besides := by
  refine vg_meth hp vg_sh_ok r_X11_besides k_X11_besides rfl (fun h => by cases h) o_X11_besides [] false (by decide +kernel) (by decide +kernel) ⟨_, _, rfl, rfl⟩ (fun _ h => absurd h List.not_mem_nil) (fun h => by cases h) 600 ?_
  intro as s0 hpre
  obtain ⟨r, rfl, hr, i0⟩ := hpre
  simp only [List.mem_cons, List.not_mem_nil, or_false] at hr
  rcases hr with rfl
  ·
    have z0 : (Int32.ofInt 0).toInt = 0 := by decide
    have z1 : (Int32.ofInt 1).toInt = 1 := by decide
    have z2 : (Int32.ofInt 2).toInt = 2 := by decide
    refine ⟨Nat.le_of_ble_eq_true rfl, [], ?_, fun _ h => absurd h List.not_mem_nil⟩
    ·
      intro v1 e2
      have g3 : s0.1 55 7 = v1 := by rw [e2]
      refine And.intro (fun c4 => ?_) (fun c4 => ?_)
      · have c4 : ¬ v1.toInt = (Int32.ofInt 2).toInt := c4
        show s0 = s0 ∧ (True)
        exact ⟨rfl, (trivial)⟩
      · have c4 : ¬ (¬ v1.toInt = (Int32.ofInt 2).toInt) := c4
        intro v5 e6
        have g7 : s0.1 55 10 = v5 := by rw [e6]
        have b8 : (2 : Int) ≤ v5.toInt ∧ v5.toInt ≤ 17 := by rw [e6]; exact Iv_55_10 i0
        intro v9 e10
        have b11 := vg_sub e10 (by omega) (by omega)
        intro v12 e13
        have g14 : s0.1 55 8 = v12 := by rw [e13]
        have b15 : (1 : Int) ≤ v12.toInt ∧ v12.toInt ≤ 4 := by rw [e13]; exact Iv_55_8 i0
        intro v16 e17
        have b18 := vg_sub e17 (by omega) (by omega)
        intro v19 e20
        intro v21 e22
        intro v23 e24
        show s0 = s0 ∧ (True)
        exact ⟨rfl, (trivial)⟩
def o_X11_weight : List vg_I := [(0, .sipush 1000, 3, 0, 0, 0, 0), (3, .aload_n 0, 1, 0, 0, 0, 0), (4, .getfield 46, 3, 1084, 11, 23, 0), (7, .iload_n 1, 1, 0, 0, 0, 0), (8, .iaload, 1, 0, 0, 0, 0), (9, .iadd, 1, 0, 0, 0, 0), (10, .ireturn, 1, 0, 0, 0, 0)]
set_option maxRecDepth 100000 in
set_option maxHeartbeats 4000000 in
theorem c_X11_weight (l : Launch) (G : vg_G) (hp : vg_Hp G) : vg_Ct l G vg_sh r_X11_weight := by
  refine vg_meth hp vg_sh_ok r_X11_weight k_X11_weight rfl (fun h => by cases h) o_X11_weight [] false (by decide +kernel) (by decide +kernel) ⟨_, _, rfl, rfl⟩ (fun _ h => absurd h List.not_mem_nil) (fun h => by cases h) 600 ?_
  intro as s0 hpre
  obtain ⟨r, a1, rfl, hr, i0, p0⟩ := hpre
  simp only [List.mem_cons, List.not_mem_nil, or_false] at hr
  rcases hr with rfl
  ·
    have z1000 : (Int32.ofInt 1000).toInt = 1000 := by decide
    refine ⟨Nat.le_of_ble_eq_true rfl, [], ?_, fun _ h => absurd h List.not_mem_nil⟩
    ·
      refine And.intro ⟨by omega, by omega⟩ ?_
      intro v1 e2
      intro v3 e4
      show s0 = s0 ∧ (v3 = Int32.ofInt 1000 + s0.1 59 a1.toNatClampNeg)
      exact ⟨rfl, (by rw [e4, e2])⟩
def o_X11_weights : List vg_I := [(0, .iconst 0, 1, 0, 0, 0, 0), (1, .istore_n 1, 1, 0, 0, 0, 0), (2, .iconst 0, 1, 0, 0, 0, 0), (3, .istore_n 2, 1, 0, 0, 0, 0), (4, .iload_n 2, 1, 0, 0, 0, 0), (5, .aload_n 0, 1, 0, 0, 0, 0), (6, .invokevirtual 102, 3, 0, 11, 0, 1218), (9, .if_icmp .ge 17, 3, 0, 0, 0, 0), (12, .iload_n 1, 1, 0, 0, 0, 0), (13, .aload_n 0, 1, 0, 0, 0, 0), (14, .iload_n 2, 1, 0, 0, 0, 0), (15, .invokevirtual 106, 3, 1, 11, 1, 1242), (18, .iadd, 1, 0, 0, 0, 0), (19, .istore_n 1, 1, 0, 0, 0, 0), (20, .iinc 2 1, 3, 0, 0, 0, 0), (23, .goto (-19), 3, 0, 0, 0, 0), (26, .iload_n 1, 1, 0, 0, 0, 0), (27, .ireturn, 1, 0, 0, 0, 0)]
set_option maxRecDepth 100000 in
set_option maxHeartbeats 4000000 in
theorem c_X11_weights (l : Launch) (G : vg_G) (hp : vg_Hp G) : vg_Ct l G vg_sh r_X11_weights := by
  refine vg_meth hp vg_sh_ok r_X11_weights k_X11_weights rfl (fun h => by cases h) o_X11_weights [r_X11_elements, r_X11_weight] false (by decide +kernel) (by decide +kernel) ⟨_, _, rfl, rfl⟩ (List.forall_mem_cons.mpr ⟨⟨c_X11_elements l G hp, Nat.le_of_ble_eq_true rfl, Nat.le_of_ble_eq_true rfl⟩, List.forall_mem_cons.mpr ⟨⟨c_X11_weight l G hp, Nat.le_of_ble_eq_true rfl, Nat.le_of_ble_eq_true rfl⟩, fun _ h => absurd h List.not_mem_nil⟩⟩) (fun h => by cases h) 600 ?_
  intro as s0 hpre
  obtain ⟨r, rfl, hr, i0⟩ := hpre
  simp only [List.mem_cons, List.not_mem_nil, or_false] at hr
  rcases hr with rfl
  ·
    have z0 : (Int32.ofInt 0).toInt = 0 := by decide
    have z1 : (Int32.ofInt 1).toInt = 1 := by decide
    refine ⟨Nat.le_of_ble_eq_true rfl, [(4, [true, true, true], (fun L t => ∃ (x1 : Int32) (x2 : Int32), L = [some (.ref 55), some (.int x1), some (.int x2)] ∧ (0 : Int) ≤ x2.toInt ∧ x2.toInt ≤ (16 : Int) ∧ (x1 = vg_ws (s0.1 59) x2.toNatClampNeg ∧ x2.toInt ≤ (vg_me s0).toInt) ∧ t = s0), (fun L _ => (0 + (16 - (vg_li L 2).toInt) * 1000000000000).toNat))], ?_, List.forall_mem_cons.mpr ⟨?_, fun _ h => absurd h List.not_mem_nil⟩⟩
    ·
      exact ⟨rfl, ⟨(Int32.ofInt 0), (Int32.ofInt 0), rfl, (by omega), (by omega), (by first | exact ⟨rfl, by have h9 := i0.2; omega⟩ | exact ⟨vg_ws_step None.1 None None (by omega) (by omega), by omega⟩), rfl⟩, trivial⟩
    ·
      intro L s6 hL
      obtain ⟨w1, w2, rfl, b3, b4, x5, q9⟩ := hL
      have q9 := q9.symm
      subst q9
      refine And.intro (Nat.le_of_ble_eq_true rfl) (And.intro ⟨55, rfl, by decide, i0⟩ ?_)
      intro v10 s12 h11
      have h11 : s12 = s0 ∧ (v10 = vg_me s0 ∧ 1 ≤ v10.toInt ∧ v10.toInt ≤ 16) := h11
      have q15 := h11.1.symm
      subst q15
      have q16 := h11.2
      have y1 := congrArg Int32.toInt q16.1
      refine And.intro (fun c17 => ?_) (fun c17 => ?_)
      · have c17 : v10.toInt ≤ w2.toInt := c17
        show s0 = s0 ∧ (w1 = vg_ws (s0.1 59) (vg_me s0).toNatClampNeg)
        exact ⟨rfl, (vg_ws_at x5.1 (by omega))⟩
      · have c17 : ¬ (v10.toInt ≤ w2.toInt) := c17
        refine And.intro (Nat.le_of_ble_eq_true rfl) (And.intro ⟨55, w2, rfl, by decide, i0, by omega⟩ ?_)
        intro v18 s20 h19
        have h19 : s20 = s0 ∧ (v18 = Int32.ofInt 1000 + s0.1 59 w2.toNatClampNeg) := h19
        have q23 := h19.1.symm
        subst q23
        have q24 := h19.2
        intro v25 e26
        intro v27 e28
        have b29 := vg_add e28 (by omega) (by omega)
        exact ⟨rfl, ⟨v25, v27, rfl, (by omega), (by omega), (by first | exact ⟨rfl, by have h9 := i0.2; omega⟩ | exact ⟨vg_ws_step x5.1 q24 e26 (by omega) (by omega), by omega⟩), rfl⟩, (by show (0 + (16 - v27.toInt) * 1000000000000).toNat < (0 + (16 - w2.toInt) * 1000000000000).toNat; omega)⟩
def o_X11_tells : List vg_I := [(0, .sipush 145, 3, 0, 0, 0, 0), (3, .bipush 48, 2, 0, 0, 0, 0), (5, .iload_n 1, 1, 0, 0, 0, 0), (6, .imul, 1, 0, 0, 0, 0), (7, .iadd, 1, 0, 0, 0, 0), (8, .istore 4, 2, 0, 0, 0, 0), (10, .bipush 47, 2, 0, 0, 0, 0), (12, .istore 5, 2, 0, 0, 0, 0), (14, .iload 5, 2, 0, 0, 0, 0), (16, .ifCond .le 31, 3, 0, 0, 0, 0), (19, .aload_n 0, 1, 0, 0, 0, 0), (20, .getfield 7, 3, 1061, 11, 0, 0), (23, .iload 4, 2, 0, 0, 0, 0), (25, .iload 5, 2, 0, 0, 0, 0), (27, .iadd, 1, 0, 0, 0, 0), (28, .aload_n 0, 1, 0, 0, 0, 0), (29, .getfield 7, 3, 1061, 11, 0, 0), (32, .iload 4, 2, 0, 0, 0, 0), (34, .iload 5, 2, 0, 0, 0, 0), (36, .iadd, 1, 0, 0, 0, 0), (37, .iconst 1, 1, 0, 0, 0, 0), (38, .isub, 1, 0, 0, 0, 0), (39, .laload, 1, 0, 0, 0, 0), (40, .lastore, 1, 0, 0, 0, 0), (41, .iinc 5 (-1), 3, 0, 0, 0, 0), (44, .goto (-30), 3, 0, 0, 0, 0), (47, .aload_n 0, 1, 0, 0, 0, 0), (48, .getfield 7, 3, 1061, 11, 0, 0), (51, .iload 4, 2, 0, 0, 0, 0), (53, .lload_n 2, 1, 0, 0, 0, 0), (54, .lastore, 1, 0, 0, 0, 0), (55, .aload_n 0, 1, 0, 0, 0, 0), (56, .getfield 7, 3, 1061, 11, 0, 0), (59, .bipush 16, 2, 0, 0, 0, 0), (61, .iload_n 1, 1, 0, 0, 0, 0), (62, .iadd, 1, 0, 0, 0, 0), (63, .dup2, 1, 0, 0, 0, 0), (64, .laload, 1, 0, 0, 0, 0), (65, .lconst 1, 1, 0, 0, 0, 0), (66, .ladd, 1, 0, 0, 0, 0), (67, .lastore, 1, 0, 0, 0, 0), (68, .return_, 1, 0, 0, 0, 0)]
set_option maxRecDepth 100000 in
set_option maxHeartbeats 4000000 in
theorem c_X11_tells (l : Launch) (G : vg_G) (hp : vg_Hp G) : vg_Ct l G vg_sh r_X11_tells := by
  refine vg_meth hp vg_sh_ok r_X11_tells k_X11_tells rfl (fun h => by cases h) o_X11_tells [] false (by decide +kernel) (by decide +kernel) ⟨_, _, rfl, rfl⟩ (fun _ h => absurd h List.not_mem_nil) (fun h => by cases h) 600 ?_
  intro as s0 hpre
  obtain ⟨r, a1, a2, rfl, hr, i0, p0⟩ := hpre
  have hn1 : a1.toNatClampNeg = a1.toInt.toNat := rfl
  simp only [List.mem_cons, List.not_mem_nil, or_false] at hr
  rcases hr with rfl
  ·
    have zm1 : (Int32.ofInt (-1)).toInt = -1 := by decide
    have z1 : (Int32.ofInt 1).toInt = 1 := by decide
    have z16 : (Int32.ofInt 16).toInt = 16 := by decide
    have z47 : (Int32.ofInt 47).toInt = 47 := by decide
    have z48 : (Int32.ofInt 48).toInt = 48 := by decide
    have z145 : (Int32.ofInt 145).toInt = 145 := by decide
    refine ⟨Nat.le_of_ble_eq_true rfl, [(14, [true, true, true, false, true, true], (fun L t => ∃ (x4 : Int32) (x5 : Int32), L = [some (.ref 55), some (.int a1), some (.long a2), none, some (.int x4), some (.int x5)] ∧ (145 : Int) ≤ x4.toInt ∧ x4.toInt ≤ (433 : Int) ∧ (0 : Int) ≤ x5.toInt ∧ x5.toInt ≤ (47 : Int) ∧ Iv t ∧ Kp s0 t ∧ vk t = ((vk s0).1, (vk s0).2)), (fun L _ => (0 + ((vg_li L 5).toInt - (0)) * 1000000000000).toNat))], ?_, List.forall_mem_cons.mpr ⟨?_, fun _ h => absurd h List.not_mem_nil⟩⟩
    ·
      intro v1 e2
      have b3 : v1.toInt = (48) * a1.toInt := vg_mulL e2 (by omega) (by omega) (by omega)
      intro v4 e5
      have b6 := vg_add e5 (by omega) (by omega)
      exact ⟨rfl, ⟨v4, (Int32.ofInt 47), rfl, (by omega), (by omega), (by omega), (by omega), i0, Kx.rf, rfl⟩, trivial⟩
    ·
      intro L s13 hL
      obtain ⟨w7, w10, rfl, b8, b9, b11, b12, i14, k15, u16⟩ := hL
      refine And.intro (fun c17 => ?_) (fun c17 => ?_)
      · have c17 : w10.toInt ≤ 0 := c17
        refine And.intro ⟨by omega, by omega⟩ ?_
        intro s18 e19
        have i20 : Iv s18 := Iv.u2 i14 e19
        have k21 : Kp s0 s18 := Kx.u2 k15 e19 (vg_kq_pos (by omega)).1
        have u22 : vk s18 = ((vk s0).1, (vk s0).2) := vk_k2o u16 e19 (by omega)
        intro v23 e24
        have b25 := vg_add e24 (by omega) (by omega)
        refine And.intro ⟨by omega, by omega⟩ ?_
        intro v26 e27
        intro v28 e29
        refine And.intro ⟨by omega, by omega⟩ ?_
        intro s30 e31
        have i32 : Iv s30 := Iv.u2 i20 e31
        have k33 : Kp s0 s30 := Kx.u2 k21 e31 (vg_kq_pos (by omega)).1
        have u34 : vk s30 = ((vk s0).1, (vr_inc (vk s0).2 a1.toNatClampNeg)) := vk_k2i (q := a1.toNatClampNeg) u22 e27 e29 e31 (by omega) (by omega)
        show Iv s30 ∧ Kp s0 s30 ∧ vk s30 = ((vk s0).1, vr_inc (vk s0).2 a1.toNatClampNeg) ∧ (True)
        exact ⟨i32, k33, u34, (trivial)⟩
      · have c17 : ¬ (w10.toInt ≤ 0) := c17
        intro v35 e36
        have b37 := vg_add e36 (by omega) (by omega)
        intro v38 e39
        have b40 := vg_add e39 (by omega) (by omega)
        intro v41 e42
        have b43 := vg_sub e42 (by omega) (by omega)
        refine And.intro ⟨by omega, by omega⟩ ?_
        intro v44 e45
        refine And.intro ⟨by omega, by omega⟩ ?_
        intro s46 e47
        have i48 : Iv s46 := Iv.u2 i14 e47
        have k49 : Kp s0 s46 := Kx.u2 k15 e47 (vg_kq_pos (by omega)).1
        have u50 : vk s46 = ((vk s0).1, (vk s0).2) := vk_k2o u16 e47 (by omega)
        intro v51 e52
        have b53 := vg_add e52 (by omega) (by omega)
        exact ⟨rfl, ⟨w7, v51, rfl, (by omega), (by omega), (by omega), (by omega), i48, k49, u50⟩, (by show (0 + (v51.toInt - (0)) * 1000000000000).toNat < (0 + (w10.toInt - (0)) * 1000000000000).toNat; omega)⟩
def o_X11_many : List vg_I := [(0, .bipush 48, 2, 0, 0, 0, 0), (2, .aload_n 0, 1, 0, 0, 0, 0), (3, .bipush 16, 2, 0, 0, 0, 0), (5, .iload_n 1, 1, 0, 0, 0, 0), (6, .iadd, 1, 0, 0, 0, 0), (7, .invokevirtual 110, 3, 0, 11, 1, 1202), (10, .invokestatic 113, 3, 1, 1, 2, 1280), (13, .ireturn, 1, 0, 0, 0, 0)]
set_option maxRecDepth 100000 in
set_option maxHeartbeats 4000000 in
theorem c_X11_many (l : Launch) (G : vg_G) (hp : vg_Hp G) : vg_Ct l G vg_sh r_X11_many := by
  refine vg_meth hp vg_sh_ok r_X11_many k_X11_many rfl (fun h => by cases h) o_X11_many [r_X11_get, r_J9_min_7cf53] false (by decide +kernel) (by decide +kernel) ⟨_, _, rfl, rfl⟩ (List.forall_mem_cons.mpr ⟨⟨c_X11_get l G hp, Nat.le_of_ble_eq_true rfl, Nat.le_of_ble_eq_true rfl⟩, List.forall_mem_cons.mpr ⟨⟨c_J9_min_7cf53 l G hp, Nat.le_of_ble_eq_true rfl, Nat.le_of_ble_eq_true rfl⟩, fun _ h => absurd h List.not_mem_nil⟩⟩) (fun h => by cases h) 600 ?_
  intro as s0 hpre
  obtain ⟨r, a1, rfl, hr, i0, p0⟩ := hpre
  simp only [List.mem_cons, List.not_mem_nil, or_false] at hr
  rcases hr with rfl
  ·
    have z16 : (Int32.ofInt 16).toInt = 16 := by decide
    have z48 : (Int32.ofInt 48).toInt = 48 := by decide
    refine ⟨Nat.le_of_ble_eq_true rfl, [], ?_, fun _ h => absurd h List.not_mem_nil⟩
    ·
      intro v1 e2
      have b3 := vg_add e2 (by omega) (by omega)
      refine And.intro (Nat.le_of_ble_eq_true rfl) (And.intro ⟨55, v1, rfl, by decide, i0, by omega⟩ ?_)
      intro v4 s6 h5
      have h5 : s6 = s0 ∧ (v4 = (s0.2 56 v1.toNatClampNeg).toInt32) := h5
      have q9 := h5.1.symm
      subst q9
      have q10 := h5.2
      refine And.intro (Nat.le_of_ble_eq_true rfl) (And.intro ⟨(Int32.ofInt 48), v4, rfl, trivial⟩ ?_)
      intro v11 s13 h12
      have h12 : s13 = s0 ∧ (v11.toInt ≤ (Int32.ofInt 48).toInt ∧ v11.toInt ≤ v4.toInt ∧ (v11.toInt = (Int32.ofInt 48).toInt ∨ v11.toInt = v4.toInt)) := h12
      have q16 := h12.1.symm
      subst q16
      have q17 := h12.2
      show s0 = s0 ∧ (v11.toInt ≤ 48)
      exact ⟨rfl, (by first | trivial | omega | assumption)⟩
def o_X11_latestOf : List vg_I := [(0, .aload_n 0, 1, 0, 0, 0, 0), (1, .getfield 7, 3, 1061, 11, 0, 0), (4, .sipush 145, 3, 0, 0, 0, 0), (7, .bipush 48, 2, 0, 0, 0, 0), (9, .iload_n 1, 1, 0, 0, 0, 0), (10, .imul, 1, 0, 0, 0, 0), (11, .iadd, 1, 0, 0, 0, 0), (12, .iload_n 2, 1, 0, 0, 0, 0), (13, .iadd, 1, 0, 0, 0, 0), (14, .laload, 1, 0, 0, 0, 0), (15, .lreturn, 1, 0, 0, 0, 0)]
set_option maxRecDepth 100000 in
set_option maxHeartbeats 4000000 in
theorem c_X11_latestOf (l : Launch) (G : vg_G) (hp : vg_Hp G) : vg_Ct l G vg_sh r_X11_latestOf := by
  refine vg_meth hp vg_sh_ok r_X11_latestOf k_X11_latestOf rfl (fun h => by cases h) o_X11_latestOf [] false (by decide +kernel) (by decide +kernel) ⟨_, _, rfl, rfl⟩ (fun _ h => absurd h List.not_mem_nil) (fun h => by cases h) 600 ?_
  intro as s0 hpre
  obtain ⟨r, a1, a2, rfl, hr, i0, p0⟩ := hpre
  simp only [List.mem_cons, List.not_mem_nil, or_false] at hr
  rcases hr with rfl
  ·
    have z48 : (Int32.ofInt 48).toInt = 48 := by decide
    have z145 : (Int32.ofInt 145).toInt = 145 := by decide
    refine ⟨Nat.le_of_ble_eq_true rfl, [], ?_, fun _ h => absurd h List.not_mem_nil⟩
    ·
      intro v1 e2
      have b3 : v1.toInt = (48) * a1.toInt := vg_mulL e2 (by omega) (by omega) (by omega)
      intro v4 e5
      have b6 := vg_add e5 (by omega) (by omega)
      intro v7 e8
      have b9 := vg_add e8 (by omega) (by omega)
      refine And.intro ⟨by omega, by omega⟩ ?_
      intro v10 e11
      show s0 = s0 ∧ (True)
      exact ⟨rfl, (trivial)⟩
def o_X11_sourceAt : List vg_I := [(0, .aload_n 0, 1, 0, 0, 0, 0), (1, .getfield 116, 3, 1064, 11, 3, 0), (4, .ifCond .ne 10, 3, 0, 0, 0, 0), (7, .aload_n 0, 1, 0, 0, 0, 0), (8, .getfield 119, 3, 1065, 11, 4, 0), (11, .goto 76, 3, 0, 0, 0, 0), (14, .aload_n 0, 1, 0, 0, 0, 0), (15, .getfield 116, 3, 1064, 11, 3, 0), (18, .iconst 1, 1, 0, 0, 0, 0), (19, .if_icmp .ne 22, 3, 0, 0, 0, 0), (22, .aload_n 0, 1, 0, 0, 0, 0), (23, .getfield 119, 3, 1065, 11, 4, 0), (26, .aload_n 0, 1, 0, 0, 0, 0), (27, .getfield 122, 3, 1066, 11, 5, 0), (30, .iload_n 1, 1, 0, 0, 0, 0), (31, .aload_n 0, 1, 0, 0, 0, 0), (32, .getfield 16, 3, 1067, 11, 6, 0), (35, .irem, 1, 0, 0, 0, 0), (36, .imul, 1, 0, 0, 0, 0), (37, .iadd, 1, 0, 0, 0, 0), (38, .goto 49, 3, 0, 0, 0, 0), (41, .aload_n 0, 1, 0, 0, 0, 0), (42, .getfield 116, 3, 1064, 11, 3, 0), (45, .iconst 2, 1, 0, 0, 0, 0), (46, .if_icmp .ne 32, 3, 0, 0, 0, 0), (49, .iload_n 1, 1, 0, 0, 0, 0), (50, .iconst 2, 1, 0, 0, 0, 0), (51, .aload_n 0, 1, 0, 0, 0, 0), (52, .getfield 16, 3, 1067, 11, 6, 0), (55, .imul, 1, 0, 0, 0, 0), (56, .irem, 1, 0, 0, 0, 0), (57, .aload_n 0, 1, 0, 0, 0, 0), (58, .getfield 16, 3, 1067, 11, 6, 0), (61, .if_icmp .ge 10, 3, 0, 0, 0, 0), (64, .aload_n 0, 1, 0, 0, 0, 0), (65, .getfield 119, 3, 1065, 11, 4, 0), (68, .goto 19, 3, 0, 0, 0, 0), (71, .aload_n 0, 1, 0, 0, 0, 0), (72, .getfield 122, 3, 1066, 11, 5, 0), (75, .goto 12, 3, 0, 0, 0, 0), (78, .aload_n 0, 1, 0, 0, 0, 0), (79, .getfield 42, 3, 1083, 11, 22, 0), (82, .iload_n 1, 1, 0, 0, 0, 0), (83, .bipush 16, 2, 0, 0, 0, 0), (85, .irem, 1, 0, 0, 0, 0), (86, .iaload, 1, 0, 0, 0, 0), (87, .istore_n 2, 1, 0, 0, 0, 0), (88, .sipush (-30000), 3, 0, 0, 0, 0), (91, .sipush 30000, 3, 0, 0, 0, 0), (94, .iload_n 2, 1, 0, 0, 0, 0), (95, .invokestatic 113, 3, 0, 1, 2, 1280), (98, .invokestatic 90, 3, 1, 1, 2, 1201), (101, .ireturn, 1, 0, 0, 0, 0)]
set_option maxRecDepth 100000 in
set_option maxHeartbeats 4000000 in
theorem c_X11_sourceAt (l : Launch) (G : vg_G) (hp : vg_Hp G) : vg_Ct l G vg_sh r_X11_sourceAt := by
  refine vg_meth hp vg_sh_ok r_X11_sourceAt k_X11_sourceAt rfl (fun h => by cases h) o_X11_sourceAt [r_J9_min_7cf53, r_J9_max_7cf53] false (by decide +kernel) (by decide +kernel) ⟨_, _, rfl, rfl⟩ (List.forall_mem_cons.mpr ⟨⟨c_J9_min_7cf53 l G hp, Nat.le_of_ble_eq_true rfl, Nat.le_of_ble_eq_true rfl⟩, List.forall_mem_cons.mpr ⟨⟨c_J9_max_7cf53 l G hp, Nat.le_of_ble_eq_true rfl, Nat.le_of_ble_eq_true rfl⟩, fun _ h => absurd h List.not_mem_nil⟩⟩) (fun h => by cases h) 600 ?_
  intro as s0 hpre
  obtain ⟨r, a1, rfl, hr, i0, p0⟩ := hpre
  have ra1 := vg_rng a1
  simp only [List.mem_cons, List.not_mem_nil, or_false] at hr
  rcases hr with rfl
  ·
    have zm30000 : (Int32.ofInt (-30000)).toInt = -30000 := by decide
    have z1 : (Int32.ofInt 1).toInt = 1 := by decide
    have z2 : (Int32.ofInt 2).toInt = 2 := by decide
    have z16 : (Int32.ofInt 16).toInt = 16 := by decide
    have z30000 : (Int32.ofInt 30000).toInt = 30000 := by decide
    refine ⟨Nat.le_of_ble_eq_true rfl, [], ?_, fun _ h => absurd h List.not_mem_nil⟩
    ·
      intro v1 e2
      have g3 : s0.1 55 3 = v1 := by rw [e2]
      refine And.intro (fun c4 => ?_) (fun c4 => ?_)
      · have c4 : ¬ v1.toInt = 0 := c4
        intro v5 e6
        have w7 : v1 = v5 := by rw [e6, g3]
        subst w7
        refine And.intro (fun c8 => ?_) (fun c8 => ?_)
        · have c8 : ¬ v1.toInt = (Int32.ofInt 1).toInt := c8
          intro v9 e10
          have w11 : v1 = v9 := by rw [e10, g3]
          subst w11
          refine And.intro (fun c12 => ?_) (fun c12 => ?_)
          · have c12 : ¬ v1.toInt = (Int32.ofInt 2).toInt := c12
            refine And.intro (by omega) ?_
            intro v13 e14
            have b15 := (vg_rem e14 (by omega) (by omega)).2
            refine And.intro ⟨by omega, by omega⟩ ?_
            intro v16 e17
            refine And.intro (Nat.le_of_ble_eq_true rfl) (And.intro ⟨(Int32.ofInt 30000), v16, rfl, trivial⟩ ?_)
            intro v18 s20 h19
            have h19 : s20 = s0 ∧ (v18.toInt ≤ (Int32.ofInt 30000).toInt ∧ v18.toInt ≤ v16.toInt ∧ (v18.toInt = (Int32.ofInt 30000).toInt ∨ v18.toInt = v16.toInt)) := h19
            have q23 := h19.1.symm
            subst q23
            have q24 := h19.2
            refine And.intro (Nat.le_of_ble_eq_true rfl) (And.intro ⟨(Int32.ofInt (-30000)), v18, rfl, trivial⟩ ?_)
            intro v25 s27 h26
            have h26 : s27 = s0 ∧ ((Int32.ofInt (-30000)).toInt ≤ v25.toInt ∧ v18.toInt ≤ v25.toInt ∧ (v25.toInt = (Int32.ofInt (-30000)).toInt ∨ v25.toInt = v18.toInt)) := h26
            have q30 := h26.1.symm
            subst q30
            have q31 := h26.2
            show s0 = s0 ∧ (True)
            exact ⟨rfl, (trivial)⟩
          · have c12 : ¬ (¬ v1.toInt = (Int32.ofInt 2).toInt) := c12
            intro v32 e33
            have g34 : s0.1 55 6 = v32 := by rw [e33]
            have b35 : (1 : Int) ≤ v32.toInt ∧ v32.toInt ≤ 1000 := by rw [e33]; exact Iv_55_6 i0
            intro v36 e37
            have b38 : v36.toInt = (2) * v32.toInt := vg_mulL e37 (by omega) (by omega) (by omega)
            refine And.intro (by omega) ?_
            intro v39 e40
            have b41 := (vg_rem e40 (by omega) (by omega)).2
            intro v42 e43
            have w44 : v32 = v42 := by rw [e43, g34]
            subst w44
            refine And.intro (fun c45 => ?_) (fun c45 => ?_)
            · have c45 : v32.toInt ≤ v39.toInt := c45
              intro v46 e47
              have g48 : s0.1 55 5 = v46 := by rw [e47]
              refine And.intro (Nat.le_of_ble_eq_true rfl) (And.intro ⟨(Int32.ofInt 30000), v46, rfl, trivial⟩ ?_)
              intro v49 s51 h50
              have h50 : s51 = s0 ∧ (v49.toInt ≤ (Int32.ofInt 30000).toInt ∧ v49.toInt ≤ v46.toInt ∧ (v49.toInt = (Int32.ofInt 30000).toInt ∨ v49.toInt = v46.toInt)) := h50
              have q54 := h50.1.symm
              subst q54
              have q55 := h50.2
              refine And.intro (Nat.le_of_ble_eq_true rfl) (And.intro ⟨(Int32.ofInt (-30000)), v49, rfl, trivial⟩ ?_)
              intro v56 s58 h57
              have h57 : s58 = s0 ∧ ((Int32.ofInt (-30000)).toInt ≤ v56.toInt ∧ v49.toInt ≤ v56.toInt ∧ (v56.toInt = (Int32.ofInt (-30000)).toInt ∨ v56.toInt = v49.toInt)) := h57
              have q61 := h57.1.symm
              subst q61
              have q62 := h57.2
              show s0 = s0 ∧ (True)
              exact ⟨rfl, (trivial)⟩
            · have c45 : ¬ (v32.toInt ≤ v39.toInt) := c45
              intro v63 e64
              have g65 : s0.1 55 4 = v63 := by rw [e64]
              refine And.intro (Nat.le_of_ble_eq_true rfl) (And.intro ⟨(Int32.ofInt 30000), v63, rfl, trivial⟩ ?_)
              intro v66 s68 h67
              have h67 : s68 = s0 ∧ (v66.toInt ≤ (Int32.ofInt 30000).toInt ∧ v66.toInt ≤ v63.toInt ∧ (v66.toInt = (Int32.ofInt 30000).toInt ∨ v66.toInt = v63.toInt)) := h67
              have q71 := h67.1.symm
              subst q71
              have q72 := h67.2
              refine And.intro (Nat.le_of_ble_eq_true rfl) (And.intro ⟨(Int32.ofInt (-30000)), v66, rfl, trivial⟩ ?_)
              intro v73 s75 h74
              have h74 : s75 = s0 ∧ ((Int32.ofInt (-30000)).toInt ≤ v73.toInt ∧ v66.toInt ≤ v73.toInt ∧ (v73.toInt = (Int32.ofInt (-30000)).toInt ∨ v73.toInt = v66.toInt)) := h74
              have q78 := h74.1.symm
              subst q78
              have q79 := h74.2
              show s0 = s0 ∧ (True)
              exact ⟨rfl, (trivial)⟩
        · have c8 : ¬ (¬ v1.toInt = (Int32.ofInt 1).toInt) := c8
          intro v80 e81
          have g82 : s0.1 55 4 = v80 := by rw [e81]
          intro v83 e84
          have g85 : s0.1 55 5 = v83 := by rw [e84]
          intro v86 e87
          have g88 : s0.1 55 6 = v86 := by rw [e87]
          have b89 : (1 : Int) ≤ v86.toInt ∧ v86.toInt ≤ 1000 := by rw [e87]; exact Iv_55_6 i0
          refine And.intro (by omega) ?_
          intro v90 e91
          have b92 := (vg_rem e91 (by omega) (by omega)).2
          intro v93 e94
          intro v95 e96
          refine And.intro (Nat.le_of_ble_eq_true rfl) (And.intro ⟨(Int32.ofInt 30000), v95, rfl, trivial⟩ ?_)
          intro v97 s99 h98
          have h98 : s99 = s0 ∧ (v97.toInt ≤ (Int32.ofInt 30000).toInt ∧ v97.toInt ≤ v95.toInt ∧ (v97.toInt = (Int32.ofInt 30000).toInt ∨ v97.toInt = v95.toInt)) := h98
          have q102 := h98.1.symm
          subst q102
          have q103 := h98.2
          refine And.intro (Nat.le_of_ble_eq_true rfl) (And.intro ⟨(Int32.ofInt (-30000)), v97, rfl, trivial⟩ ?_)
          intro v104 s106 h105
          have h105 : s106 = s0 ∧ ((Int32.ofInt (-30000)).toInt ≤ v104.toInt ∧ v97.toInt ≤ v104.toInt ∧ (v104.toInt = (Int32.ofInt (-30000)).toInt ∨ v104.toInt = v97.toInt)) := h105
          have q109 := h105.1.symm
          subst q109
          have q110 := h105.2
          show s0 = s0 ∧ (True)
          exact ⟨rfl, (trivial)⟩
      · have c4 : ¬ (¬ v1.toInt = 0) := c4
        intro v111 e112
        have g113 : s0.1 55 4 = v111 := by rw [e112]
        refine And.intro (Nat.le_of_ble_eq_true rfl) (And.intro ⟨(Int32.ofInt 30000), v111, rfl, trivial⟩ ?_)
        intro v114 s116 h115
        have h115 : s116 = s0 ∧ (v114.toInt ≤ (Int32.ofInt 30000).toInt ∧ v114.toInt ≤ v111.toInt ∧ (v114.toInt = (Int32.ofInt 30000).toInt ∨ v114.toInt = v111.toInt)) := h115
        have q119 := h115.1.symm
        subst q119
        have q120 := h115.2
        refine And.intro (Nat.le_of_ble_eq_true rfl) (And.intro ⟨(Int32.ofInt (-30000)), v114, rfl, trivial⟩ ?_)
        intro v121 s123 h122
        have h122 : s123 = s0 ∧ ((Int32.ofInt (-30000)).toInt ≤ v121.toInt ∧ v114.toInt ≤ v121.toInt ∧ (v121.toInt = (Int32.ofInt (-30000)).toInt ∨ v121.toInt = v114.toInt)) := h122
        have q126 := h122.1.symm
        subst q126
        have q127 := h122.2
        show s0 = s0 ∧ (True)
        exact ⟨rfl, (trivial)⟩
def o_X11_valueOf : List vg_I := [(0, .aload_n 0, 1, 0, 0, 0, 0), (1, .getfield 23, 3, 1070, 11, 9, 0), (4, .iconst 2, 1, 0, 0, 0, 0), (5, .iload_n 1, 1, 0, 0, 0, 0), (6, .imul, 1, 0, 0, 0, 0), (7, .iconst 1, 1, 0, 0, 0, 0), (8, .iadd, 1, 0, 0, 0, 0), (9, .aload_n 0, 1, 0, 0, 0, 0), (10, .getfield 26, 3, 1071, 11, 10, 0), (13, .isub, 1, 0, 0, 0, 0), (14, .imul, 1, 0, 0, 0, 0), (15, .ireturn, 1, 0, 0, 0, 0)]
set_option maxRecDepth 100000 in
set_option maxHeartbeats 4000000 in
theorem c_X11_valueOf (l : Launch) (G : vg_G) (hp : vg_Hp G) : vg_Ct l G vg_sh r_X11_valueOf := by
  refine vg_meth hp vg_sh_ok r_X11_valueOf k_X11_valueOf rfl (fun h => by cases h) o_X11_valueOf [] false (by decide +kernel) (by decide +kernel) ⟨_, _, rfl, rfl⟩ (fun _ h => absurd h List.not_mem_nil) (fun h => by cases h) 600 ?_
  intro as s0 hpre
  obtain ⟨r, a1, rfl, hr, i0⟩ := hpre
  simp only [List.mem_cons, List.not_mem_nil, or_false] at hr
  rcases hr with rfl
  ·
    have z1 : (Int32.ofInt 1).toInt = 1 := by decide
    have z2 : (Int32.ofInt 2).toInt = 2 := by decide
    refine ⟨Nat.le_of_ble_eq_true rfl, [], ?_, fun _ h => absurd h List.not_mem_nil⟩
    ·
      intro v1 e2
      have g3 : s0.1 55 9 = v1 := by rw [e2]
      intro v4 e5
      intro v6 e7
      intro v8 e9
      have g10 : s0.1 55 10 = v8 := by rw [e9]
      have b11 : (2 : Int) ≤ v8.toInt ∧ v8.toInt ≤ 17 := by rw [e9]; exact Iv_55_10 i0
      intro v12 e13
      intro v14 e15
      show s0 = s0 ∧ (True)
      exact ⟨rfl, (trivial)⟩
def o_X11_nearest : List vg_I := [(0, .iconst 0, 1, 0, 0, 0, 0), (1, .istore_n 2, 1, 0, 0, 0, 0), (2, .iconst 1, 1, 0, 0, 0, 0), (3, .istore_n 3, 1, 0, 0, 0, 0), (4, .iload_n 3, 1, 0, 0, 0, 0), (5, .aload_n 0, 1, 0, 0, 0, 0), (6, .getfield 26, 3, 1071, 11, 10, 0), (9, .if_icmp .ge 34, 3, 0, 0, 0, 0), (12, .aload_n 0, 1, 0, 0, 0, 0), (13, .iload_n 3, 1, 0, 0, 0, 0), (14, .invokevirtual 125, 3, 0, 11, 1, 1305), (17, .iload_n 1, 1, 0, 0, 0, 0), (18, .isub, 1, 0, 0, 0, 0), (19, .invokestatic 128, 3, 1, 1, 1, 1309), (22, .aload_n 0, 1, 0, 0, 0, 0), (23, .iload_n 2, 1, 0, 0, 0, 0), (24, .invokevirtual 125, 3, 0, 11, 1, 1305), (27, .iload_n 1, 1, 0, 0, 0, 0), (28, .isub, 1, 0, 0, 0, 0), (29, .invokestatic 128, 3, 1, 1, 1, 1309), (32, .if_icmp .ge 5, 3, 0, 0, 0, 0), (35, .iload_n 3, 1, 0, 0, 0, 0), (36, .istore_n 2, 1, 0, 0, 0, 0), (37, .iinc 3 1, 3, 0, 0, 0, 0), (40, .goto (-36), 3, 0, 0, 0, 0), (43, .iload_n 2, 1, 0, 0, 0, 0), (44, .ireturn, 1, 0, 0, 0, 0)]
set_option maxRecDepth 100000 in
set_option maxHeartbeats 4000000 in
theorem c_X11_nearest (l : Launch) (G : vg_G) (hp : vg_Hp G) : vg_Ct l G vg_sh r_X11_nearest := by
  refine vg_meth hp vg_sh_ok r_X11_nearest k_X11_nearest rfl (fun h => by cases h) o_X11_nearest [r_X11_valueOf, r_J9_abs_0f7a4] false (by decide +kernel) (by decide +kernel) ⟨_, _, rfl, rfl⟩ (List.forall_mem_cons.mpr ⟨⟨c_X11_valueOf l G hp, Nat.le_of_ble_eq_true rfl, Nat.le_of_ble_eq_true rfl⟩, List.forall_mem_cons.mpr ⟨⟨c_J9_abs_0f7a4 l G hp, Nat.le_of_ble_eq_true rfl, Nat.le_of_ble_eq_true rfl⟩, fun _ h => absurd h List.not_mem_nil⟩⟩) (fun h => by cases h) 600 ?_
  intro as s0 hpre
  obtain ⟨r, a1, rfl, hr, i0⟩ := hpre
  simp only [List.mem_cons, List.not_mem_nil, or_false] at hr
  rcases hr with rfl
  ·
    have z0 : (Int32.ofInt 0).toInt = 0 := by decide
    have z1 : (Int32.ofInt 1).toInt = 1 := by decide
    refine ⟨Nat.le_of_ble_eq_true rfl, [(4, [true, true, true, true], (fun L t => ∃ (x2 : Int32) (x3 : Int32), L = [some (.ref 55), some (.int a1), some (.int x2), some (.int x3)] ∧ (1 : Int) ≤ x3.toInt ∧ x3.toInt ≤ (17 : Int) ∧ t = s0), (fun L _ => (0 + (17 - (vg_li L 3).toInt) * 1000000000000).toNat))], ?_, List.forall_mem_cons.mpr ⟨?_, fun _ h => absurd h List.not_mem_nil⟩⟩
    ·
      exact ⟨rfl, ⟨(Int32.ofInt 0), (Int32.ofInt 1), rfl, (by omega), (by omega), rfl⟩, trivial⟩
    ·
      intro L s5 hL
      obtain ⟨w1, w2, rfl, b3, b4, q8⟩ := hL
      have q8 := q8.symm
      subst q8
      intro v9 e10
      have g11 : s0.1 55 10 = v9 := by rw [e10]
      have b12 : (2 : Int) ≤ v9.toInt ∧ v9.toInt ≤ 17 := by rw [e10]; exact Iv_55_10 i0
      refine And.intro (fun c13 => ?_) (fun c13 => ?_)
      · have c13 : v9.toInt ≤ w2.toInt := c13
        show s0 = s0 ∧ (True)
        exact ⟨rfl, (trivial)⟩
      · have c13 : ¬ (v9.toInt ≤ w2.toInt) := c13
        refine And.intro (Nat.le_of_ble_eq_true rfl) (And.intro ⟨55, w2, rfl, by decide, i0⟩ ?_)
        intro v14 s16 h15
        have h15 : s16 = s0 ∧ (True) := h15
        have q19 := h15.1.symm
        subst q19
        intro v20 e21
        refine And.intro (Nat.le_of_ble_eq_true rfl) (And.intro ⟨v20, rfl, trivial⟩ ?_)
        intro v22 s24 h23
        have h23 : s24 = s0 ∧ (True) := h23
        have q27 := h23.1.symm
        subst q27
        refine And.intro (Nat.le_of_ble_eq_true rfl) (And.intro ⟨55, w1, rfl, by decide, i0⟩ ?_)
        intro v28 s30 h29
        have h29 : s30 = s0 ∧ (True) := h29
        have q33 := h29.1.symm
        subst q33
        intro v34 e35
        refine And.intro (Nat.le_of_ble_eq_true rfl) (And.intro ⟨v34, rfl, trivial⟩ ?_)
        intro v36 s38 h37
        have h37 : s38 = s0 ∧ (True) := h37
        have q41 := h37.1.symm
        subst q41
        refine And.intro (fun c42 => ?_) (fun c42 => ?_)
        · have c42 : v36.toInt ≤ v22.toInt := c42
          intro v43 e44
          have b45 := vg_add e44 (by omega) (by omega)
          exact ⟨rfl, ⟨w1, v43, rfl, (by omega), (by omega), rfl⟩, (by show (0 + (17 - v43.toInt) * 1000000000000).toNat < (0 + (17 - w2.toInt) * 1000000000000).toNat; omega)⟩
        · have c42 : ¬ (v36.toInt ≤ v22.toInt) := c42
          intro v46 e47
          have b48 := vg_add e47 (by omega) (by omega)
          exact ⟨rfl, ⟨w2, v46, rfl, (by omega), (by omega), rfl⟩, (by show (0 + (17 - v46.toInt) * 1000000000000).toNat < (0 + (17 - w2.toInt) * 1000000000000).toNat; omega)⟩
def o_X11_held : List vg_I := [(0, .aload_n 0, 1, 0, 0, 0, 0), (1, .getfield 30, 3, 1072, 11, 11, 0), (4, .ineg, 1, 0, 0, 0, 0), (5, .aload_n 0, 1, 0, 0, 0, 0), (6, .getfield 30, 3, 1072, 11, 11, 0), (9, .iload_n 1, 1, 0, 0, 0, 0), (10, .invokestatic 113, 3, 0, 1, 2, 1280), (13, .invokestatic 90, 3, 1, 1, 2, 1201), (16, .istore_n 2, 1, 0, 0, 0, 0), (17, .iload_n 2, 1, 0, 0, 0, 0), (18, .iload_n 1, 1, 0, 0, 0, 0), (19, .if_icmp .eq 35, 3, 0, 0, 0, 0), (22, .aload_n 0, 1, 0, 0, 0, 0), (23, .getfield 7, 3, 1061, 11, 0, 0), (26, .iconst 3, 1, 0, 0, 0, 0), (27, .dup2, 1, 0, 0, 0, 0), (28, .laload, 1, 0, 0, 0, 0), (29, .lconst 1, 1, 0, 0, 0, 0), (30, .ladd, 1, 0, 0, 0, 0), (31, .lastore, 1, 0, 0, 0, 0), (32, .aload_n 0, 1, 0, 0, 0, 0), (33, .getfield 7, 3, 1061, 11, 0, 0), (36, .sipush 144, 3, 0, 0, 0, 0), (39, .lconst 1, 1, 0, 0, 0, 0), (40, .lastore, 1, 0, 0, 0, 0), (41, .aload_n 0, 1, 0, 0, 0, 0), (42, .getfield 7, 3, 1061, 11, 0, 0), (45, .iconst 5, 1, 0, 0, 0, 0), (46, .dup2, 1, 0, 0, 0, 0), (47, .laload, 1, 0, 0, 0, 0), (48, .iload_n 1, 1, 0, 0, 0, 0), (49, .iload_n 2, 1, 0, 0, 0, 0), (50, .isub, 1, 0, 0, 0, 0), (51, .i2l, 1, 0, 0, 0, 0), (52, .ladd, 1, 0, 0, 0, 0), (53, .lastore, 1, 0, 0, 0, 0), (54, .iload_n 2, 1, 0, 0, 0, 0), (55, .ireturn, 1, 0, 0, 0, 0)]
set_option maxRecDepth 100000 in
set_option maxHeartbeats 4000000 in
theorem c_X11_held (l : Launch) (G : vg_G) (hp : vg_Hp G) : vg_Ct l G vg_sh r_X11_held := by
  refine vg_meth hp vg_sh_ok r_X11_held k_X11_held rfl (fun h => by cases h) o_X11_held [r_J9_min_7cf53, r_J9_max_7cf53] false (by decide +kernel) (by decide +kernel) ⟨_, _, rfl, rfl⟩ (List.forall_mem_cons.mpr ⟨⟨c_J9_min_7cf53 l G hp, Nat.le_of_ble_eq_true rfl, Nat.le_of_ble_eq_true rfl⟩, List.forall_mem_cons.mpr ⟨⟨c_J9_max_7cf53 l G hp, Nat.le_of_ble_eq_true rfl, Nat.le_of_ble_eq_true rfl⟩, fun _ h => absurd h List.not_mem_nil⟩⟩) (fun h => by cases h) 600 ?_
  intro as s0 hpre
  obtain ⟨r, a1, rfl, hr, i0⟩ := hpre
  simp only [List.mem_cons, List.not_mem_nil, or_false] at hr
  rcases hr with rfl
  ·
    have z3 : (Int32.ofInt 3).toInt = 3 := by decide
    have z5 : (Int32.ofInt 5).toInt = 5 := by decide
    have z144 : (Int32.ofInt 144).toInt = 144 := by decide
    refine ⟨Nat.le_of_ble_eq_true rfl, [], ?_, fun _ h => absurd h List.not_mem_nil⟩
    ·
      intro v1 e2
      have g3 : s0.1 55 11 = v1 := by rw [e2]
      intro v4 e5
      intro v6 e7
      have w8 : v1 = v6 := by rw [e7, g3]
      subst w8
      refine And.intro (Nat.le_of_ble_eq_true rfl) (And.intro ⟨v1, a1, rfl, trivial⟩ ?_)
      intro v9 s11 h10
      have h10 : s11 = s0 ∧ (v9.toInt ≤ v1.toInt ∧ v9.toInt ≤ a1.toInt ∧ (v9.toInt = v1.toInt ∨ v9.toInt = a1.toInt)) := h10
      have q14 := h10.1.symm
      subst q14
      have q15 := h10.2
      refine And.intro (Nat.le_of_ble_eq_true rfl) (And.intro ⟨v4, v9, rfl, trivial⟩ ?_)
      intro v16 s18 h17
      have h17 : s18 = s0 ∧ (v4.toInt ≤ v16.toInt ∧ v9.toInt ≤ v16.toInt ∧ (v16.toInt = v4.toInt ∨ v16.toInt = v9.toInt)) := h17
      have q21 := h17.1.symm
      subst q21
      have q22 := h17.2
      refine And.intro (fun c23 => ?_) (fun c23 => ?_)
      · have c23 : v16.toInt = a1.toInt := c23
        show Iv s0 ∧ Kp s0 s0 ∧ vk s0 = ((vk s0).1, (vk s0).2) ∧ (True)
        exact ⟨i0, Kx.rf, rfl, (trivial)⟩
      · have c23 : ¬ (v16.toInt = a1.toInt) := c23
        refine And.intro ⟨by omega, by omega⟩ ?_
        intro v24 e25
        intro v26 e27
        refine And.intro ⟨by omega, by omega⟩ ?_
        intro s28 e29
        have i30 : Iv s28 := Iv.u2 i0 e29
        have k31 : Kp s0 s28 := Kx.u2 Kx.rf e29 (vg_kq_pos (by omega)).1
        have u32 : vk s28 = ((vk s0).1, (vk s0).2) := vk_k2o rfl e29 (by omega)
        refine And.intro ⟨by omega, by omega⟩ ?_
        intro s33 e34
        have i35 : Iv s33 := Iv.u2 i30 e34
        have k36 : Kp s0 s33 := Kx.u2 k31 e34 (vg_kq_pos (by omega)).1
        have u37 : vk s33 = ((vk s0).1, (vk s0).2) := vk_k2o u32 e34 (by omega)
        refine And.intro ⟨by omega, by omega⟩ ?_
        intro v38 e39
        intro v40 e41
        intro v42 e43
        intro v44 e45
        refine And.intro ⟨by omega, by omega⟩ ?_
        intro s46 e47
        have i48 : Iv s46 := Iv.u2 i35 e47
        have k49 : Kp s0 s46 := Kx.u2 k36 e47 (vg_kq_pos (by omega)).1
        have u50 : vk s46 = ((vk s0).1, (vk s0).2) := vk_k2o u37 e47 (by omega)
        show Iv s46 ∧ Kp s0 s46 ∧ vk s46 = ((vk s0).1, (vk s0).2) ∧ (True)
        exact ⟨i48, k49, u50, (trivial)⟩
def o_X11_drawn : List vg_I := [(0, .aload_n 0, 1, 0, 0, 0, 0), (1, .getfield 131, 3, 1073, 11, 12, 0), (4, .ifCond .ne 5, 3, 0, 0, 0, 0), (7, .iconst 0, 1, 0, 0, 0, 0), (8, .ireturn, 1, 0, 0, 0, 0), (9, .aload_n 0, 1, 0, 0, 0, 0), (10, .getfield 7, 3, 1061, 11, 0, 0), (13, .iconst 1, 1, 0, 0, 0, 0), (14, .aload_n 0, 1, 0, 0, 0, 0), (15, .getfield 7, 3, 1061, 11, 0, 0), (18, .iconst 1, 1, 0, 0, 0, 0), (19, .laload, 1, 0, 0, 0, 0), (20, .ldc2_w 134, 3, 1289, 0, 0, 1103515245), (23, .lmul, 1, 0, 0, 0, 0), (24, .ldc2_w 136, 3, 1290, 0, 0, 12345), (27, .ladd, 1, 0, 0, 0, 0), (28, .ldc2_w 138, 3, 1291, 0, 0, 2147483648), (31, .lrem, 1, 0, 0, 0, 0), (32, .lastore, 1, 0, 0, 0, 0), (33, .aload_n 0, 1, 0, 0, 0, 0), (34, .getfield 7, 3, 1061, 11, 0, 0), (37, .iconst 1, 1, 0, 0, 0, 0), (38, .laload, 1, 0, 0, 0, 0), (39, .ldc2_w 140, 3, 1292, 0, 0, 65536), (42, .ldiv, 1, 0, 0, 0, 0), (43, .iconst 2, 1, 0, 0, 0, 0), (44, .aload_n 0, 1, 0, 0, 0, 0), (45, .getfield 131, 3, 1073, 11, 12, 0), (48, .imul, 1, 0, 0, 0, 0), (49, .iconst 1, 1, 0, 0, 0, 0), (50, .iadd, 1, 0, 0, 0, 0), (51, .i2l, 1, 0, 0, 0, 0), (52, .lrem, 1, 0, 0, 0, 0), (53, .l2i, 1, 0, 0, 0, 0), (54, .aload_n 0, 1, 0, 0, 0, 0), (55, .getfield 131, 3, 1073, 11, 12, 0), (58, .isub, 1, 0, 0, 0, 0), (59, .ireturn, 1, 0, 0, 0, 0)]
set_option maxRecDepth 100000 in
set_option maxHeartbeats 4000000 in
theorem c_X11_drawn (l : Launch) (G : vg_G) (hp : vg_Hp G) : vg_Ct l G vg_sh r_X11_drawn := by
  refine vg_meth hp vg_sh_ok r_X11_drawn k_X11_drawn rfl (fun h => by cases h) o_X11_drawn [] false (by decide +kernel) (by decide +kernel) ⟨_, _, rfl, rfl⟩ (fun _ h => absurd h List.not_mem_nil) (fun h => by cases h) 600 ?_
  intro as s0 hpre
  obtain ⟨r, rfl, hr, i0⟩ := hpre
  simp only [List.mem_cons, List.not_mem_nil, or_false] at hr
  rcases hr with rfl
  ·
    have z0 : (Int32.ofInt 0).toInt = 0 := by decide
    have z1 : (Int32.ofInt 1).toInt = 1 := by decide
    have z2 : (Int32.ofInt 2).toInt = 2 := by decide
    refine ⟨Nat.le_of_ble_eq_true rfl, [], ?_, fun _ h => absurd h List.not_mem_nil⟩
    ·
      intro v1 e2
      have g3 : s0.1 55 12 = v1 := by rw [e2]
      have b4 : (0 : Int) ≤ v1.toInt ∧ v1.toInt ≤ 5000 := by rw [e2]; exact Iv_55_12 i0
      refine And.intro (fun c5 => ?_) (fun c5 => ?_)
      · have c5 : ¬ v1.toInt = 0 := c5
        refine And.intro ⟨by omega, by omega⟩ ?_
        intro v6 e7
        intro v8 e9
        intro v10 e11
        refine And.intro (by decide) ?_
        intro v12 e13
        refine And.intro ⟨by omega, by omega⟩ ?_
        intro s14 e15
        have i16 : Iv s14 := Iv.u2 i0 e15
        have k17 : Kp s0 s14 := Kx.u2 Kx.rf e15 (vg_kq_pos (by omega)).1
        have u18 : vk s14 = ((vk s0).1, (vk s0).2) := vk_k2o rfl e15 (by omega)
        refine And.intro ⟨by omega, by omega⟩ ?_
        intro v19 e20
        refine And.intro (by decide) ?_
        intro v21 e22
        intro v23 e24
        have w25 : v1 = v23 := by rw [e24, e15, vg_u2_1, g3]
        subst w25
        intro v26 e27
        have b28 : v26.toInt = (2) * v1.toInt := vg_mulL e27 (by omega) (by omega) (by omega)
        intro v29 e30
        have b31 := vg_add e30 (by omega) (by omega)
        intro v32 e33
        have b34 := vg_i2l e33
        refine And.intro (by omega) ?_
        intro v35 e36
        intro v37 e38
        intro v39 e40
        have w41 : v1 = v39 := by rw [e40, e15, vg_u2_1, g3]
        subst w41
        intro v42 e43
        show Iv s14 ∧ Kp s0 s14 ∧ vk s14 = ((vk s0).1, (vk s0).2) ∧ (True)
        exact ⟨i16, k17, u18, (trivial)⟩
      · have c5 : ¬ (¬ v1.toInt = 0) := c5
        show Iv s0 ∧ Kp s0 s0 ∧ vk s0 = ((vk s0).1, (vk s0).2) ∧ (True)
        exact ⟨i0, Kx.rf, rfl, (trivial)⟩
def o_X11_byErrors : List vg_I := [(0, .iload_n 1, 1, 0, 0, 0, 0), (1, .istore_n 3, 1, 0, 0, 0, 0), (2, .iconst 1, 1, 0, 0, 0, 0), (3, .istore 4, 2, 0, 0, 0, 0), (5, .iconst 1, 1, 0, 0, 0, 0), (6, .istore 5, 2, 0, 0, 0, 0), (8, .iload 5, 2, 0, 0, 0, 0), (10, .aload_n 0, 1, 0, 0, 0, 0), (11, .getfield 20, 3, 1069, 11, 8, 0), (14, .if_icmp .gt 69, 3, 0, 0, 0, 0), (17, .iload 4, 2, 0, 0, 0, 0), (19, .aload_n 0, 1, 0, 0, 0, 0), (20, .getfield 20, 3, 1069, 11, 8, 0), (23, .iconst 1, 1, 0, 0, 0, 0), (24, .iadd, 1, 0, 0, 0, 0), (25, .iload 5, 2, 0, 0, 0, 0), (27, .isub, 1, 0, 0, 0, 0), (28, .imul, 1, 0, 0, 0, 0), (29, .iload 5, 2, 0, 0, 0, 0), (31, .idiv, 1, 0, 0, 0, 0), (32, .istore 4, 2, 0, 0, 0, 0), (34, .iload_n 3, 1, 0, 0, 0, 0), (35, .iload 5, 2, 0, 0, 0, 0), (37, .iconst 2, 1, 0, 0, 0, 0), (38, .irem, 1, 0, 0, 0, 0), (39, .iconst 1, 1, 0, 0, 0, 0), (40, .if_icmp .ne 20, 3, 0, 0, 0, 0), (43, .iload 4, 2, 0, 0, 0, 0), (45, .aload_n 0, 1, 0, 0, 0, 0), (46, .bipush 23, 2, 0, 0, 0, 0), (48, .iload 5, 2, 0, 0, 0, 0), (50, .iadd, 1, 0, 0, 0, 0), (51, .iconst 1, 1, 0, 0, 0, 0), (52, .isub, 1, 0, 0, 0, 0), (53, .invokevirtual 110, 3, 0, 11, 1, 1202), (56, .imul, 1, 0, 0, 0, 0), (57, .goto 18, 3, 0, 0, 0, 0), (60, .iload 4, 2, 0, 0, 0, 0), (62, .ineg, 1, 0, 0, 0, 0), (63, .aload_n 0, 1, 0, 0, 0, 0), (64, .bipush 23, 2, 0, 0, 0, 0), (66, .iload 5, 2, 0, 0, 0, 0), (68, .iadd, 1, 0, 0, 0, 0), (69, .iconst 1, 1, 0, 0, 0, 0), (70, .isub, 1, 0, 0, 0, 0), (71, .invokevirtual 110, 3, 0, 11, 1, 1202), (74, .imul, 1, 0, 0, 0, 0), (75, .iadd, 1, 0, 0, 0, 0), (76, .istore_n 3, 1, 0, 0, 0, 0), (77, .iinc 5 1, 3, 0, 0, 0, 0), (80, .goto (-72), 3, 0, 0, 0, 0), (83, .aload_n 0, 1, 0, 0, 0, 0), (84, .iload_n 3, 1, 0, 0, 0, 0), (85, .iload_n 2, 1, 0, 0, 0, 0), (86, .iadd, 1, 0, 0, 0, 0), (87, .invokevirtual 158, 3, 1, 11, 1, 1301), (90, .istore 5, 2, 0, 0, 0, 0), (92, .aload_n 0, 1, 0, 0, 0, 0), (93, .iload_n 3, 1, 0, 0, 0, 0), (94, .aload_n 0, 1, 0, 0, 0, 0), (95, .iload 5, 2, 0, 0, 0, 0), (97, .invokevirtual 125, 3, 2, 11, 1, 1305), (100, .isub, 1, 0, 0, 0, 0), (101, .invokevirtual 161, 3, 3, 11, 1, 1310), (104, .istore 6, 2, 0, 0, 0, 0), (106, .aload_n 0, 1, 0, 0, 0, 0), (107, .getfield 20, 3, 1069, 11, 8, 0), (110, .iconst 1, 1, 0, 0, 0, 0), (111, .isub, 1, 0, 0, 0, 0), (112, .istore 7, 2, 0, 0, 0, 0), (114, .iload 7, 2, 0, 0, 0, 0), (116, .ifCond .le 31, 3, 0, 0, 0, 0), (119, .aload_n 0, 1, 0, 0, 0, 0), (120, .getfield 7, 3, 1061, 11, 0, 0), (123, .bipush 23, 2, 0, 0, 0, 0), (125, .iload 7, 2, 0, 0, 0, 0), (127, .iadd, 1, 0, 0, 0, 0), (128, .aload_n 0, 1, 0, 0, 0, 0), (129, .getfield 7, 3, 1061, 11, 0, 0), (132, .bipush 23, 2, 0, 0, 0, 0), (134, .iload 7, 2, 0, 0, 0, 0), (136, .iadd, 1, 0, 0, 0, 0), (137, .iconst 1, 1, 0, 0, 0, 0), (138, .isub, 1, 0, 0, 0, 0), (139, .laload, 1, 0, 0, 0, 0), (140, .lastore, 1, 0, 0, 0, 0), (141, .iinc 7 (-1), 3, 0, 0, 0, 0), (144, .goto (-30), 3, 0, 0, 0, 0), (147, .aload_n 0, 1, 0, 0, 0, 0), (148, .getfield 7, 3, 1061, 11, 0, 0), (151, .bipush 23, 2, 0, 0, 0, 0), (153, .iload 6, 2, 0, 0, 0, 0), (155, .i2l, 1, 0, 0, 0, 0), (156, .lastore, 1, 0, 0, 0, 0), (157, .iload 5, 2, 0, 0, 0, 0), (159, .ireturn, 1, 0, 0, 0, 0)]
set_option maxRecDepth 100000 in
set_option maxHeartbeats 4000000 in
theorem c_X11_byErrors (l : Launch) (G : vg_G) (hp : vg_Hp G) : vg_Ct l G vg_sh r_X11_byErrors := by
  refine vg_meth hp vg_sh_ok r_X11_byErrors k_X11_byErrors rfl (fun h => by cases h) o_X11_byErrors [r_X11_get, r_X11_nearest, r_X11_valueOf, r_X11_held] false (by decide +kernel) (by decide +kernel) ⟨_, _, rfl, rfl⟩ (List.forall_mem_cons.mpr ⟨⟨c_X11_get l G hp, Nat.le_of_ble_eq_true rfl, Nat.le_of_ble_eq_true rfl⟩, List.forall_mem_cons.mpr ⟨⟨c_X11_nearest l G hp, Nat.le_of_ble_eq_true rfl, Nat.le_of_ble_eq_true rfl⟩, List.forall_mem_cons.mpr ⟨⟨c_X11_valueOf l G hp, Nat.le_of_ble_eq_true rfl, Nat.le_of_ble_eq_true rfl⟩, List.forall_mem_cons.mpr ⟨⟨c_X11_held l G hp, Nat.le_of_ble_eq_true rfl, Nat.le_of_ble_eq_true rfl⟩, fun _ h => absurd h List.not_mem_nil⟩⟩⟩⟩) (fun h => by cases h) 600 ?_
  intro as s0 hpre
  obtain ⟨r, a1, a2, rfl, hr, i0⟩ := hpre
  simp only [List.mem_cons, List.not_mem_nil, or_false] at hr
  rcases hr with rfl
  ·
    have zm1 : (Int32.ofInt (-1)).toInt = -1 := by decide
    have z1 : (Int32.ofInt 1).toInt = 1 := by decide
    have z2 : (Int32.ofInt 2).toInt = 2 := by decide
    have z23 : (Int32.ofInt 23).toInt = 23 := by decide
    refine ⟨Nat.le_of_ble_eq_true rfl, [(8, [true, false, true, true, true, true, false, false], (fun L t => ∃ (x3 : Int32) (x4 : Int32) (x5 : Int32), L = [some (.ref 55), none, some (.int a2), some (.int x3), some (.int x4), some (.int x5), none, none] ∧ (1 : Int) ≤ x5.toInt ∧ x5.toInt ≤ (5 : Int) ∧ Iv t ∧ Kp s0 t ∧ vk t = ((vk s0).1, (vk s0).2)), (fun L _ => (10000000000000000 + (5 - (vg_li L 5).toInt) * 1000000000000).toNat)), (114, [true, false, false, false, false, true, true, true], (fun L t => ∃ (x5 : Int32) (x6 : Int32) (x7 : Int32), L = [some (.ref 55), none, none, none, none, some (.int x5), some (.int x6), some (.int x7)] ∧ (0 : Int) ≤ x7.toInt ∧ x7.toInt ≤ (3 : Int) ∧ Iv t ∧ Kp s0 t ∧ vk t = ((vk s0).1, (vk s0).2)), (fun L _ => (0 + ((vg_li L 7).toInt - (0)) * 1000000000000).toNat))], ?_, List.forall_mem_cons.mpr ⟨?_, List.forall_mem_cons.mpr ⟨?_, fun _ h => absurd h List.not_mem_nil⟩⟩⟩
    ·
      exact ⟨rfl, ⟨a1, (Int32.ofInt 1), (Int32.ofInt 1), rfl, (by omega), (by omega), i0, Kx.rf, rfl⟩, trivial⟩
    ·
      intro L s6 hL
      obtain ⟨w1, w2, w3, rfl, b4, b5, i7, k8, u9⟩ := hL
      intro v10 e11
      have g12 : s6.1 55 8 = v10 := by rw [e11]
      have b13 : (1 : Int) ≤ v10.toInt ∧ v10.toInt ≤ 4 := by rw [e11]; exact Iv_55_8 i7
      refine And.intro (fun c14 => ?_) (fun c14 => ?_)
      · have c14 : v10.toInt < w3.toInt := c14
        intro v15 e16
        refine And.intro (Nat.le_of_ble_eq_true rfl) (And.intro ⟨55, v15, rfl, by decide, i7⟩ ?_)
        intro v17 s19 h18
        have h18 : s19 = s6 ∧ (True) := h18
        have q22 := h18.1.symm
        subst q22
        refine And.intro (Nat.le_of_ble_eq_true rfl) (And.intro ⟨55, v17, rfl, by decide, i7⟩ ?_)
        intro v23 s25 h24
        have h24 : s25 = s6 ∧ (True) := h24
        have q28 := h24.1.symm
        subst q28
        intro v29 e30
        refine And.intro (Nat.le_of_ble_eq_true rfl) (And.intro ⟨55, v29, rfl, by decide, i7⟩ ?_)
        intro v31 s33 h32
        have h32 : Iv s33 ∧ Kp s6 s33 ∧ vk s33 = ((vk s6).1, (vk s6).2) ∧ (True) := h32
        have i34 := h32.1
        have k35 : Kp s0 s33 := Kx.tr k8 (h32.2.1)
        have u36 : vk s33 = ((vk s0).1, (vk s0).2) := h32.2.2.1.trans u9
        intro v37 e38
        have g39 : s33.1 55 8 = v37 := by rw [e38]
        have b40 : (1 : Int) ≤ v37.toInt ∧ v37.toInt ≤ 4 := by rw [e38]; exact Iv_55_8 i34
        intro v41 e42
        have b43 := vg_sub e42 (by omega) (by omega)
        exact ⟨rfl, ⟨v17, v31, v41, rfl, (by omega), (by omega), i34, k35, u36⟩, (by show (0 + (v41.toInt - (0)) * 1000000000000).toNat < (10000000000000000 + (5 - w3.toInt) * 1000000000000).toNat; omega)⟩
      · have c14 : ¬ (v10.toInt < w3.toInt) := c14
        intro v44 e45
        have w46 : v10 = v44 := by rw [e45, g12]
        subst w46
        intro v47 e48
        have b49 := vg_add e48 (by omega) (by omega)
        intro v50 e51
        have b52 := vg_sub e51 (by omega) (by omega)
        intro v53 e54
        refine And.intro (by omega) ?_
        intro v55 e56
        refine And.intro (by omega) ?_
        intro v57 e58
        have b59 := (vg_rem e58 (by omega) (by omega)).2
        refine And.intro (fun c60 => ?_) (fun c60 => ?_)
        · have c60 : ¬ v57.toInt = (Int32.ofInt 1).toInt := c60
          intro v61 e62
          intro v63 e64
          have b65 := vg_add e64 (by omega) (by omega)
          intro v66 e67
          have b68 := vg_sub e67 (by omega) (by omega)
          refine And.intro (Nat.le_of_ble_eq_true rfl) (And.intro ⟨55, v66, rfl, by decide, i7, by omega⟩ ?_)
          intro v69 s71 h70
          have h70 : s71 = s6 ∧ (v69 = (s6.2 56 v66.toNatClampNeg).toInt32) := h70
          have q74 := h70.1.symm
          subst q74
          have q75 := h70.2
          intro v76 e77
          intro v78 e79
          intro v80 e81
          have b82 := vg_add e81 (by omega) (by omega)
          exact ⟨rfl, ⟨v78, v55, v80, rfl, (by omega), (by omega), i7, k8, u9⟩, (by show (10000000000000000 + (5 - v80.toInt) * 1000000000000).toNat < (10000000000000000 + (5 - w3.toInt) * 1000000000000).toNat; omega)⟩
        · have c60 : ¬ (¬ v57.toInt = (Int32.ofInt 1).toInt) := c60
          intro v83 e84
          have b85 := vg_add e84 (by omega) (by omega)
          intro v86 e87
          have b88 := vg_sub e87 (by omega) (by omega)
          refine And.intro (Nat.le_of_ble_eq_true rfl) (And.intro ⟨55, v86, rfl, by decide, i7, by omega⟩ ?_)
          intro v89 s91 h90
          have h90 : s91 = s6 ∧ (v89 = (s6.2 56 v86.toNatClampNeg).toInt32) := h90
          have q94 := h90.1.symm
          subst q94
          have q95 := h90.2
          intro v96 e97
          intro v98 e99
          intro v100 e101
          have b102 := vg_add e101 (by omega) (by omega)
          exact ⟨rfl, ⟨v98, v55, v100, rfl, (by omega), (by omega), i7, k8, u9⟩, (by show (10000000000000000 + (5 - v100.toInt) * 1000000000000).toNat < (10000000000000000 + (5 - w3.toInt) * 1000000000000).toNat; omega)⟩
    ·
      intro L s108 hL
      obtain ⟨w103, w104, w105, rfl, b106, b107, i109, k110, u111⟩ := hL
      refine And.intro (fun c112 => ?_) (fun c112 => ?_)
      · have c112 : w105.toInt ≤ 0 := c112
        intro v113 e114
        refine And.intro ⟨by omega, by omega⟩ ?_
        intro s115 e116
        have i117 : Iv s115 := Iv.u2 i109 e116
        have k118 : Kp s0 s115 := Kx.u2 k110 e116 (vg_kq_pos (by omega)).1
        have u119 : vk s115 = ((vk s0).1, (vk s0).2) := vk_k2o u111 e116 (by omega)
        show Iv s115 ∧ Kp s0 s115 ∧ vk s115 = ((vk s0).1, (vk s0).2) ∧ (True)
        exact ⟨i117, k118, u119, (trivial)⟩
      · have c112 : ¬ (w105.toInt ≤ 0) := c112
        intro v120 e121
        have b122 := vg_add e121 (by omega) (by omega)
        intro v123 e124
        have b125 := vg_add e124 (by omega) (by omega)
        intro v126 e127
        have b128 := vg_sub e127 (by omega) (by omega)
        refine And.intro ⟨by omega, by omega⟩ ?_
        intro v129 e130
        refine And.intro ⟨by omega, by omega⟩ ?_
        intro s131 e132
        have i133 : Iv s131 := Iv.u2 i109 e132
        have k134 : Kp s0 s131 := Kx.u2 k110 e132 (vg_kq_pos (by omega)).1
        have u135 : vk s131 = ((vk s0).1, (vk s0).2) := vk_k2o u111 e132 (by omega)
        intro v136 e137
        have b138 := vg_add e137 (by omega) (by omega)
        exact ⟨rfl, ⟨w103, w104, v136, rfl, (by omega), (by omega), i133, k134, u135⟩, (by show (0 + (v136.toInt - (0)) * 1000000000000).toNat < (0 + (w105.toInt - (0)) * 1000000000000).toNat; omega)⟩
def o_X11_bySums : List vg_I := [(0, .iload_n 1, 1, 0, 0, 0, 0), (1, .istore_n 3, 1, 0, 0, 0, 0), (2, .iconst 0, 1, 0, 0, 0, 0), (3, .istore 4, 2, 0, 0, 0, 0), (5, .iload 4, 2, 0, 0, 0, 0), (7, .aload_n 0, 1, 0, 0, 0, 0), (8, .getfield 20, 3, 1069, 11, 8, 0), (11, .if_icmp .ge 51, 3, 0, 0, 0, 0), (14, .aload_n 0, 1, 0, 0, 0, 0), (15, .getfield 7, 3, 1061, 11, 0, 0), (18, .bipush 23, 2, 0, 0, 0, 0), (20, .iload 4, 2, 0, 0, 0, 0), (22, .iadd, 1, 0, 0, 0, 0), (23, .aload_n 0, 1, 0, 0, 0, 0), (24, .aload_n 0, 1, 0, 0, 0, 0), (25, .bipush 23, 2, 0, 0, 0, 0), (27, .iload 4, 2, 0, 0, 0, 0), (29, .iadd, 1, 0, 0, 0, 0), (30, .invokevirtual 110, 3, 0, 11, 1, 1202), (33, .iload_n 3, 1, 0, 0, 0, 0), (34, .iadd, 1, 0, 0, 0, 0), (35, .aload_n 0, 1, 0, 0, 0, 0), (36, .iconst 2, 1, 0, 0, 0, 0), (37, .invokevirtual 110, 3, 0, 11, 1, 1202), (40, .isub, 1, 0, 0, 0, 0), (41, .invokevirtual 161, 3, 1, 11, 1, 1310), (44, .i2l, 1, 0, 0, 0, 0), (45, .lastore, 1, 0, 0, 0, 0), (46, .aload_n 0, 1, 0, 0, 0, 0), (47, .bipush 23, 2, 0, 0, 0, 0), (49, .iload 4, 2, 0, 0, 0, 0), (51, .iadd, 1, 0, 0, 0, 0), (52, .invokevirtual 110, 3, 0, 11, 1, 1202), (55, .istore_n 3, 1, 0, 0, 0, 0), (56, .iinc 4 1, 3, 0, 0, 0, 0), (59, .goto (-54), 3, 0, 0, 0, 0), (62, .aload_n 0, 1, 0, 0, 0, 0), (63, .iload_n 3, 1, 0, 0, 0, 0), (64, .iload_n 2, 1, 0, 0, 0, 0), (65, .iadd, 1, 0, 0, 0, 0), (66, .invokevirtual 158, 3, 2, 11, 1, 1301), (69, .ireturn, 1, 0, 0, 0, 0)]
set_option maxRecDepth 100000 in
set_option maxHeartbeats 4000000 in
theorem c_X11_bySums (l : Launch) (G : vg_G) (hp : vg_Hp G) : vg_Ct l G vg_sh r_X11_bySums := by
  refine vg_meth hp vg_sh_ok r_X11_bySums k_X11_bySums rfl (fun h => by cases h) o_X11_bySums [r_X11_get, r_X11_held, r_X11_nearest] false (by decide +kernel) (by decide +kernel) ⟨_, _, rfl, rfl⟩ (List.forall_mem_cons.mpr ⟨⟨c_X11_get l G hp, Nat.le_of_ble_eq_true rfl, Nat.le_of_ble_eq_true rfl⟩, List.forall_mem_cons.mpr ⟨⟨c_X11_held l G hp, Nat.le_of_ble_eq_true rfl, Nat.le_of_ble_eq_true rfl⟩, List.forall_mem_cons.mpr ⟨⟨c_X11_nearest l G hp, Nat.le_of_ble_eq_true rfl, Nat.le_of_ble_eq_true rfl⟩, fun _ h => absurd h List.not_mem_nil⟩⟩⟩) (fun h => by cases h) 600 ?_
  intro as s0 hpre
  obtain ⟨r, a1, a2, rfl, hr, i0⟩ := hpre
  simp only [List.mem_cons, List.not_mem_nil, or_false] at hr
  rcases hr with rfl
  ·
    have z0 : (Int32.ofInt 0).toInt = 0 := by decide
    have z1 : (Int32.ofInt 1).toInt = 1 := by decide
    have z2 : (Int32.ofInt 2).toInt = 2 := by decide
    have z23 : (Int32.ofInt 23).toInt = 23 := by decide
    refine ⟨Nat.le_of_ble_eq_true rfl, [(5, [true, false, true, true, true], (fun L t => ∃ (x3 : Int32) (x4 : Int32), L = [some (.ref 55), none, some (.int a2), some (.int x3), some (.int x4)] ∧ (0 : Int) ≤ x4.toInt ∧ x4.toInt ≤ (4 : Int) ∧ Iv t ∧ Kp s0 t ∧ vk t = ((vk s0).1, (vk s0).2)), (fun L _ => (0 + (4 - (vg_li L 4).toInt) * 1000000000000).toNat))], ?_, List.forall_mem_cons.mpr ⟨?_, fun _ h => absurd h List.not_mem_nil⟩⟩
    ·
      exact ⟨rfl, ⟨a1, (Int32.ofInt 0), rfl, (by omega), (by omega), i0, Kx.rf, rfl⟩, trivial⟩
    ·
      intro L s5 hL
      obtain ⟨w1, w2, rfl, b3, b4, i6, k7, u8⟩ := hL
      intro v9 e10
      have g11 : s5.1 55 8 = v9 := by rw [e10]
      have b12 : (1 : Int) ≤ v9.toInt ∧ v9.toInt ≤ 4 := by rw [e10]; exact Iv_55_8 i6
      refine And.intro (fun c13 => ?_) (fun c13 => ?_)
      · have c13 : v9.toInt ≤ w2.toInt := c13
        intro v14 e15
        refine And.intro (Nat.le_of_ble_eq_true rfl) (And.intro ⟨55, v14, rfl, by decide, i6⟩ ?_)
        intro v16 s18 h17
        have h17 : s18 = s5 ∧ (True) := h17
        have q21 := h17.1.symm
        subst q21
        show Iv s5 ∧ Kp s0 s5 ∧ vk s5 = ((vk s0).1, (vk s0).2) ∧ (True)
        exact ⟨i6, k7, u8, (trivial)⟩
      · have c13 : ¬ (v9.toInt ≤ w2.toInt) := c13
        intro v22 e23
        have b24 := vg_add e23 (by omega) (by omega)
        intro v25 e26
        have b27 := vg_add e26 (by omega) (by omega)
        refine And.intro (Nat.le_of_ble_eq_true rfl) (And.intro ⟨55, v25, rfl, by decide, i6, by omega⟩ ?_)
        intro v28 s30 h29
        have h29 : s30 = s5 ∧ (v28 = (s5.2 56 v25.toNatClampNeg).toInt32) := h29
        have q33 := h29.1.symm
        subst q33
        have q34 := h29.2
        intro v35 e36
        refine And.intro (Nat.le_of_ble_eq_true rfl) (And.intro ⟨55, (Int32.ofInt 2), rfl, by decide, i6, by omega⟩ ?_)
        intro v37 s39 h38
        have h38 : s39 = s5 ∧ (v37 = (s5.2 56 (Int32.ofInt 2).toNatClampNeg).toInt32) := h38
        have q42 := h38.1.symm
        subst q42
        have q43 := h38.2
        intro v44 e45
        refine And.intro (Nat.le_of_ble_eq_true rfl) (And.intro ⟨55, v44, rfl, by decide, i6⟩ ?_)
        intro v46 s48 h47
        have h47 : Iv s48 ∧ Kp s5 s48 ∧ vk s48 = ((vk s5).1, (vk s5).2) ∧ (True) := h47
        have i49 := h47.1
        have k50 : Kp s0 s48 := Kx.tr k7 (h47.2.1)
        have u51 : vk s48 = ((vk s0).1, (vk s0).2) := h47.2.2.1.trans u8
        intro v52 e53
        refine And.intro ⟨by omega, by omega⟩ ?_
        intro s54 e55
        have i56 : Iv s54 := Iv.u2 i49 e55
        have k57 : Kp s0 s54 := Kx.u2 k50 e55 (vg_kq_pos (by omega)).1
        have u58 : vk s54 = ((vk s0).1, (vk s0).2) := vk_k2o u51 e55 (by omega)
        intro v59 e60
        have b61 := vg_add e60 (by omega) (by omega)
        refine And.intro (Nat.le_of_ble_eq_true rfl) (And.intro ⟨55, v59, rfl, by decide, i56, by omega⟩ ?_)
        intro v62 s64 h63
        have h63 : s64 = s54 ∧ (v62 = (s54.2 56 v59.toNatClampNeg).toInt32) := h63
        have q67 := h63.1.symm
        subst q67
        have q68 := h63.2
        intro v69 e70
        have b71 := vg_add e70 (by omega) (by omega)
        exact ⟨rfl, ⟨v62, v69, rfl, (by omega), (by omega), i56, k57, u58⟩, (by show (0 + (4 - v69.toInt) * 1000000000000).toNat < (0 + (4 - w2.toInt) * 1000000000000).toNat; omega)⟩
def o_X11_byCascade : List vg_I := [(0, .iload_n 1, 1, 0, 0, 0, 0), (1, .istore_n 3, 1, 0, 0, 0, 0), (2, .aload_n 0, 1, 0, 0, 0, 0), (3, .invokevirtual 151, 3, 0, 11, 0, 1322), (6, .istore 4, 2, 0, 0, 0, 0), (8, .iconst 0, 1, 0, 0, 0, 0), (9, .istore 5, 2, 0, 0, 0, 0), (11, .iload 5, 2, 0, 0, 0, 0), (13, .aload_n 0, 1, 0, 0, 0, 0), (14, .getfield 20, 3, 1069, 11, 8, 0), (17, .if_icmp .ge 241, 3, 0, 0, 0, 0), (20, .iload_n 3, 1, 0, 0, 0, 0), (21, .aload_n 0, 1, 0, 0, 0, 0), (22, .bipush 23, 2, 0, 0, 0, 0), (24, .iload 5, 2, 0, 0, 0, 0), (26, .iadd, 1, 0, 0, 0, 0), (27, .invokevirtual 110, 3, 1, 11, 1, 1202), (30, .iadd, 1, 0, 0, 0, 0), (31, .istore 6, 2, 0, 0, 0, 0), (33, .aload_n 0, 1, 0, 0, 0, 0), (34, .iload 5, 2, 0, 0, 0, 0), (36, .ifCond .ne 10, 3, 0, 0, 0, 0), (39, .iload 6, 2, 0, 0, 0, 0), (41, .iload_n 2, 1, 0, 0, 0, 0), (42, .iadd, 1, 0, 0, 0, 0), (43, .goto 5, 3, 0, 0, 0, 0), (46, .iload 6, 2, 0, 0, 0, 0), (48, .invokevirtual 158, 3, 2, 11, 1, 1301), (51, .istore 7, 2, 0, 0, 0, 0), (53, .aload_n 0, 1, 0, 0, 0, 0), (54, .getfield 7, 3, 1061, 11, 0, 0), (57, .bipush 23, 2, 0, 0, 0, 0), (59, .iload 5, 2, 0, 0, 0, 0), (61, .iadd, 1, 0, 0, 0, 0), (62, .aload_n 0, 1, 0, 0, 0, 0), (63, .iload 6, 2, 0, 0, 0, 0), (65, .aload_n 0, 1, 0, 0, 0, 0), (66, .iload 7, 2, 0, 0, 0, 0), (68, .invokevirtual 125, 3, 3, 11, 1, 1305), (71, .isub, 1, 0, 0, 0, 0), (72, .invokevirtual 161, 3, 4, 11, 1, 1310), (75, .i2l, 1, 0, 0, 0, 0), (76, .lastore, 1, 0, 0, 0, 0), (77, .aload_n 0, 1, 0, 0, 0, 0), (78, .bipush 23, 2, 0, 0, 0, 0), (80, .iload 5, 2, 0, 0, 0, 0), (82, .iadd, 1, 0, 0, 0, 0), (83, .invokevirtual 110, 3, 1, 11, 1, 1202), (86, .istore_n 3, 1, 0, 0, 0, 0), (87, .iload 4, 2, 0, 0, 0, 0), (89, .iload 7, 2, 0, 0, 0, 0), (91, .iadd, 1, 0, 0, 0, 0), (92, .istore 4, 2, 0, 0, 0, 0), (94, .iconst 1, 1, 0, 0, 0, 0), (95, .istore 8, 2, 0, 0, 0, 0), (97, .iconst 1, 1, 0, 0, 0, 0), (98, .istore 9, 2, 0, 0, 0, 0), (100, .iload 9, 2, 0, 0, 0, 0), (102, .iload 5, 2, 0, 0, 0, 0), (104, .if_icmp .gt 79, 3, 0, 0, 0, 0), (107, .iload 8, 2, 0, 0, 0, 0), (109, .iload 5, 2, 0, 0, 0, 0), (111, .iconst 1, 1, 0, 0, 0, 0), (112, .iadd, 1, 0, 0, 0, 0), (113, .iload 9, 2, 0, 0, 0, 0), (115, .isub, 1, 0, 0, 0, 0), (116, .imul, 1, 0, 0, 0, 0), (117, .iload 9, 2, 0, 0, 0, 0), (119, .idiv, 1, 0, 0, 0, 0), (120, .istore 8, 2, 0, 0, 0, 0), (122, .iload 4, 2, 0, 0, 0, 0), (124, .iload 9, 2, 0, 0, 0, 0), (126, .iconst 2, 1, 0, 0, 0, 0), (127, .irem, 1, 0, 0, 0, 0), (128, .iconst 1, 1, 0, 0, 0, 0), (129, .if_icmp .ne 26, 3, 0, 0, 0, 0), (132, .iload 8, 2, 0, 0, 0, 0), (134, .ineg, 1, 0, 0, 0, 0), (135, .aload_n 0, 1, 0, 0, 0, 0), (136, .bipush 27, 2, 0, 0, 0, 0), (138, .iconst 3, 1, 0, 0, 0, 0), (139, .iload 5, 2, 0, 0, 0, 0), (141, .imul, 1, 0, 0, 0, 0), (142, .iadd, 1, 0, 0, 0, 0), (143, .iload 9, 2, 0, 0, 0, 0), (145, .iadd, 1, 0, 0, 0, 0), (146, .iconst 1, 1, 0, 0, 0, 0), (147, .isub, 1, 0, 0, 0, 0), (148, .invokevirtual 110, 3, 1, 11, 1, 1202), (151, .imul, 1, 0, 0, 0, 0), (152, .goto 22, 3, 0, 0, 0, 0), (155, .iload 8, 2, 0, 0, 0, 0), (157, .aload_n 0, 1, 0, 0, 0, 0), (158, .bipush 27, 2, 0, 0, 0, 0), (160, .iconst 3, 1, 0, 0, 0, 0), (161, .iload 5, 2, 0, 0, 0, 0), (163, .imul, 1, 0, 0, 0, 0), (164, .iadd, 1, 0, 0, 0, 0), (165, .iload 9, 2, 0, 0, 0, 0), (167, .iadd, 1, 0, 0, 0, 0), (168, .iconst 1, 1, 0, 0, 0, 0), (169, .isub, 1, 0, 0, 0, 0), (170, .invokevirtual 110, 3, 1, 11, 1, 1202), (173, .imul, 1, 0, 0, 0, 0), (174, .iadd, 1, 0, 0, 0, 0), (175, .istore 4, 2, 0, 0, 0, 0), (177, .iinc 9 1, 3, 0, 0, 0, 0), (180, .goto (-80), 3, 0, 0, 0, 0), (183, .iload 5, 2, 0, 0, 0, 0), (185, .iconst 1, 1, 0, 0, 0, 0), (186, .isub, 1, 0, 0, 0, 0), (187, .istore 9, 2, 0, 0, 0, 0), (189, .iload 9, 2, 0, 0, 0, 0), (191, .ifCond .le 41, 3, 0, 0, 0, 0), (194, .aload_n 0, 1, 0, 0, 0, 0), (195, .getfield 7, 3, 1061, 11, 0, 0), (198, .bipush 27, 2, 0, 0, 0, 0), (200, .iconst 3, 1, 0, 0, 0, 0), (201, .iload 5, 2, 0, 0, 0, 0), (203, .imul, 1, 0, 0, 0, 0), (204, .iadd, 1, 0, 0, 0, 0), (205, .iload 9, 2, 0, 0, 0, 0), (207, .iadd, 1, 0, 0, 0, 0), (208, .aload_n 0, 1, 0, 0, 0, 0), (209, .getfield 7, 3, 1061, 11, 0, 0), (212, .bipush 27, 2, 0, 0, 0, 0), (214, .iconst 3, 1, 0, 0, 0, 0), (215, .iload 5, 2, 0, 0, 0, 0), (217, .imul, 1, 0, 0, 0, 0), (218, .iadd, 1, 0, 0, 0, 0), (219, .iload 9, 2, 0, 0, 0, 0), (221, .iadd, 1, 0, 0, 0, 0), (222, .iconst 1, 1, 0, 0, 0, 0), (223, .isub, 1, 0, 0, 0, 0), (224, .laload, 1, 0, 0, 0, 0), (225, .lastore, 1, 0, 0, 0, 0), (226, .iinc 9 (-1), 3, 0, 0, 0, 0), (229, .goto (-40), 3, 0, 0, 0, 0), (232, .iload 5, 2, 0, 0, 0, 0), (234, .ifCond .le 18, 3, 0, 0, 0, 0), (237, .aload_n 0, 1, 0, 0, 0, 0), (238, .getfield 7, 3, 1061, 11, 0, 0), (241, .bipush 27, 2, 0, 0, 0, 0), (243, .iconst 3, 1, 0, 0, 0, 0), (244, .iload 5, 2, 0, 0, 0, 0), (246, .imul, 1, 0, 0, 0, 0), (247, .iadd, 1, 0, 0, 0, 0), (248, .iload 7, 2, 0, 0, 0, 0), (250, .i2l, 1, 0, 0, 0, 0), (251, .lastore, 1, 0, 0, 0, 0), (252, .iinc 5 1, 3, 0, 0, 0, 0), (255, .goto (-244), 3, 0, 0, 0, 0), (258, .iload 4, 2, 0, 0, 0, 0), (260, .ireturn, 1, 0, 0, 0, 0)]
set_option maxRecDepth 100000 in
set_option maxHeartbeats 4000000 in
theorem c_X11_byCascade (l : Launch) (G : vg_G) (hp : vg_Hp G) : vg_Ct l G vg_sh r_X11_byCascade := by
  refine vg_meth hp vg_sh_ok r_X11_byCascade k_X11_byCascade rfl (fun h => by cases h) o_X11_byCascade [r_X11_besides, r_X11_get, r_X11_nearest, r_X11_valueOf, r_X11_held] false (by decide +kernel) (by decide +kernel) ⟨_, _, rfl, rfl⟩ (List.forall_mem_cons.mpr ⟨⟨c_X11_besides l G hp, Nat.le_of_ble_eq_true rfl, Nat.le_of_ble_eq_true rfl⟩, List.forall_mem_cons.mpr ⟨⟨c_X11_get l G hp, Nat.le_of_ble_eq_true rfl, Nat.le_of_ble_eq_true rfl⟩, List.forall_mem_cons.mpr ⟨⟨c_X11_nearest l G hp, Nat.le_of_ble_eq_true rfl, Nat.le_of_ble_eq_true rfl⟩, List.forall_mem_cons.mpr ⟨⟨c_X11_valueOf l G hp, Nat.le_of_ble_eq_true rfl, Nat.le_of_ble_eq_true rfl⟩, List.forall_mem_cons.mpr ⟨⟨c_X11_held l G hp, Nat.le_of_ble_eq_true rfl, Nat.le_of_ble_eq_true rfl⟩, fun _ h => absurd h List.not_mem_nil⟩⟩⟩⟩⟩) (fun h => by cases h) 600 ?_
  intro as s0 hpre
  obtain ⟨r, a1, a2, rfl, hr, i0⟩ := hpre
  simp only [List.mem_cons, List.not_mem_nil, or_false] at hr
  rcases hr with rfl
  ·
    have zm1 : (Int32.ofInt (-1)).toInt = -1 := by decide
    have z0 : (Int32.ofInt 0).toInt = 0 := by decide
    have z1 : (Int32.ofInt 1).toInt = 1 := by decide
    have z2 : (Int32.ofInt 2).toInt = 2 := by decide
    have z3 : (Int32.ofInt 3).toInt = 3 := by decide
    have z23 : (Int32.ofInt 23).toInt = 23 := by decide
    have z27 : (Int32.ofInt 27).toInt = 27 := by decide
    refine ⟨Nat.le_of_ble_eq_true rfl, [(11, [true, false, true, true, true, true, false, false, false, false], (fun L t => ∃ (x3 : Int32) (x4 : Int32) (x5 : Int32), L = [some (.ref 55), none, some (.int a2), some (.int x3), some (.int x4), some (.int x5), none, none, none, none] ∧ (0 : Int) ≤ x5.toInt ∧ x5.toInt ≤ (4 : Int) ∧ Iv t ∧ Kp s0 t ∧ vk t = ((vk s0).1, (vk s0).2)), (fun L _ => (0 + (4 - (vg_li L 5).toInt) * 1000000000000).toNat)), (100, [true, false, true, true, true, true, false, true, true, true], (fun L t => ∃ (x3 : Int32) (x4 : Int32) (x5 : Int32) (x7 : Int32) (x8 : Int32) (x9 : Int32), L = [some (.ref 55), none, some (.int a2), some (.int x3), some (.int x4), some (.int x5), none, some (.int x7), some (.int x8), some (.int x9)] ∧ (0 : Int) ≤ x5.toInt ∧ x5.toInt ≤ (3 : Int) ∧ (1 : Int) ≤ x9.toInt ∧ x9.toInt ≤ (4 : Int) ∧ Iv t ∧ Kp s0 t ∧ vk t = ((vk s0).1, (vk s0).2)), (fun L _ => (0 + (4 - (vg_li L 5).toInt) * 1000000000000 - 1000000000000 + 10000000000 + (4 - (vg_li L 9).toInt) * 100000 + 1).toNat)), (189, [true, false, true, true, true, true, false, true, false, true], (fun L t => ∃ (x3 : Int32) (x4 : Int32) (x5 : Int32) (x7 : Int32) (x9 : Int32), L = [some (.ref 55), none, some (.int a2), some (.int x3), some (.int x4), some (.int x5), none, some (.int x7), none, some (.int x9)] ∧ (0 : Int) ≤ x5.toInt ∧ x5.toInt ≤ (3 : Int) ∧ (-1 : Int) ≤ x9.toInt ∧ x9.toInt ≤ (2 : Int) ∧ Iv t ∧ Kp s0 t ∧ vk t = ((vk s0).1, (vk s0).2)), (fun L _ => (0 + (4 - (vg_li L 5).toInt) * 1000000000000 - 1000000000000 + 0 + ((vg_li L 9).toInt - (-1)) * 100000 + 1).toNat))], ?_, List.forall_mem_cons.mpr ⟨?_, List.forall_mem_cons.mpr ⟨?_, List.forall_mem_cons.mpr ⟨?_, fun _ h => absurd h List.not_mem_nil⟩⟩⟩⟩
    ·
      refine And.intro (Nat.le_of_ble_eq_true rfl) (And.intro ⟨55, rfl, by decide, i0⟩ ?_)
      intro v1 s3 h2
      have h2 : s3 = s0 ∧ (True) := h2
      have q6 := h2.1.symm
      subst q6
      exact ⟨rfl, ⟨a1, v1, (Int32.ofInt 0), rfl, (by omega), (by omega), i0, Kx.rf, rfl⟩, trivial⟩
    ·
      intro L s12 hL
      obtain ⟨w7, w8, w9, rfl, b10, b11, i13, k14, u15⟩ := hL
      intro v16 e17
      have g18 : s12.1 55 8 = v16 := by rw [e17]
      have b19 : (1 : Int) ≤ v16.toInt ∧ v16.toInt ≤ 4 := by rw [e17]; exact Iv_55_8 i13
      refine And.intro (fun c20 => ?_) (fun c20 => ?_)
      · have c20 : v16.toInt ≤ w9.toInt := c20
        show Iv s12 ∧ Kp s0 s12 ∧ vk s12 = ((vk s0).1, (vk s0).2) ∧ (True)
        exact ⟨i13, k14, u15, (trivial)⟩
      · have c20 : ¬ (v16.toInt ≤ w9.toInt) := c20
        intro v21 e22
        have b23 := vg_add e22 (by omega) (by omega)
        refine And.intro (Nat.le_of_ble_eq_true rfl) (And.intro ⟨55, v21, rfl, by decide, i13, by omega⟩ ?_)
        intro v24 s26 h25
        have h25 : s26 = s12 ∧ (v24 = (s12.2 56 v21.toNatClampNeg).toInt32) := h25
        have q29 := h25.1.symm
        subst q29
        have q30 := h25.2
        intro v31 e32
        refine And.intro (fun c33 => ?_) (fun c33 => ?_)
        · have c33 : ¬ w9.toInt = 0 := c33
          refine And.intro (Nat.le_of_ble_eq_true rfl) (And.intro ⟨55, v31, rfl, by decide, i13⟩ ?_)
          intro v34 s36 h35
          have h35 : s36 = s12 ∧ (True) := h35
          have q39 := h35.1.symm
          subst q39
          intro v40 e41
          have b42 := vg_add e41 (by omega) (by omega)
          refine And.intro (Nat.le_of_ble_eq_true rfl) (And.intro ⟨55, v34, rfl, by decide, i13⟩ ?_)
          intro v43 s45 h44
          have h44 : s45 = s12 ∧ (True) := h44
          have q48 := h44.1.symm
          subst q48
          intro v49 e50
          refine And.intro (Nat.le_of_ble_eq_true rfl) (And.intro ⟨55, v49, rfl, by decide, i13⟩ ?_)
          intro v51 s53 h52
          have h52 : Iv s53 ∧ Kp s12 s53 ∧ vk s53 = ((vk s12).1, (vk s12).2) ∧ (True) := h52
          have i54 := h52.1
          have k55 : Kp s0 s53 := Kx.tr k14 (h52.2.1)
          have u56 : vk s53 = ((vk s0).1, (vk s0).2) := h52.2.2.1.trans u15
          intro v57 e58
          refine And.intro ⟨by omega, by omega⟩ ?_
          intro s59 e60
          have i61 : Iv s59 := Iv.u2 i54 e60
          have k62 : Kp s0 s59 := Kx.u2 k55 e60 (vg_kq_pos (by omega)).1
          have u63 : vk s59 = ((vk s0).1, (vk s0).2) := vk_k2o u56 e60 (by omega)
          intro v64 e65
          have b66 := vg_add e65 (by omega) (by omega)
          refine And.intro (Nat.le_of_ble_eq_true rfl) (And.intro ⟨55, v64, rfl, by decide, i61, by omega⟩ ?_)
          intro v67 s69 h68
          have h68 : s69 = s59 ∧ (v67 = (s59.2 56 v64.toNatClampNeg).toInt32) := h68
          have q72 := h68.1.symm
          subst q72
          have q73 := h68.2
          intro v74 e75
          exact ⟨rfl, ⟨v67, v74, w9, v34, (Int32.ofInt 1), (Int32.ofInt 1), rfl, (by omega), (by omega), (by omega), (by omega), i61, k62, u63⟩, (by show (0 + (4 - w9.toInt) * 1000000000000 - 1000000000000 + 10000000000 + (4 - (Int32.ofInt 1).toInt) * 100000 + 1).toNat < (0 + (4 - w9.toInt) * 1000000000000).toNat; omega)⟩
        · have c33 : ¬ (¬ w9.toInt = 0) := c33
          intro v76 e77
          refine And.intro (Nat.le_of_ble_eq_true rfl) (And.intro ⟨55, v76, rfl, by decide, i13⟩ ?_)
          intro v78 s80 h79
          have h79 : s80 = s12 ∧ (True) := h79
          have q83 := h79.1.symm
          subst q83
          intro v84 e85
          have b86 := vg_add e85 (by omega) (by omega)
          refine And.intro (Nat.le_of_ble_eq_true rfl) (And.intro ⟨55, v78, rfl, by decide, i13⟩ ?_)
          intro v87 s89 h88
          have h88 : s89 = s12 ∧ (True) := h88
          have q92 := h88.1.symm
          subst q92
          intro v93 e94
          refine And.intro (Nat.le_of_ble_eq_true rfl) (And.intro ⟨55, v93, rfl, by decide, i13⟩ ?_)
          intro v95 s97 h96
          have h96 : Iv s97 ∧ Kp s12 s97 ∧ vk s97 = ((vk s12).1, (vk s12).2) ∧ (True) := h96
          have i98 := h96.1
          have k99 : Kp s0 s97 := Kx.tr k14 (h96.2.1)
          have u100 : vk s97 = ((vk s0).1, (vk s0).2) := h96.2.2.1.trans u15
          intro v101 e102
          refine And.intro ⟨by omega, by omega⟩ ?_
          intro s103 e104
          have i105 : Iv s103 := Iv.u2 i98 e104
          have k106 : Kp s0 s103 := Kx.u2 k99 e104 (vg_kq_pos (by omega)).1
          have u107 : vk s103 = ((vk s0).1, (vk s0).2) := vk_k2o u100 e104 (by omega)
          intro v108 e109
          have b110 := vg_add e109 (by omega) (by omega)
          refine And.intro (Nat.le_of_ble_eq_true rfl) (And.intro ⟨55, v108, rfl, by decide, i105, by omega⟩ ?_)
          intro v111 s113 h112
          have h112 : s113 = s103 ∧ (v111 = (s103.2 56 v108.toNatClampNeg).toInt32) := h112
          have q116 := h112.1.symm
          subst q116
          have q117 := h112.2
          intro v118 e119
          exact ⟨rfl, ⟨v111, v118, w9, v78, (Int32.ofInt 1), (Int32.ofInt 1), rfl, (by omega), (by omega), (by omega), (by omega), i105, k106, u107⟩, (by show (0 + (4 - w9.toInt) * 1000000000000 - 1000000000000 + 10000000000 + (4 - (Int32.ofInt 1).toInt) * 100000 + 1).toNat < (0 + (4 - w9.toInt) * 1000000000000).toNat; omega)⟩
    ·
      intro L s130 hL
      obtain ⟨w120, w121, w122, w125, w126, w127, rfl, b123, b124, b128, b129, i131, k132, u133⟩ := hL
      refine And.intro (fun c134 => ?_) (fun c134 => ?_)
      · have c134 : w122.toInt < w127.toInt := c134
        intro v135 e136
        have b137 := vg_sub e136 (by omega) (by omega)
        exact ⟨rfl, ⟨w120, w121, w122, w125, v135, rfl, (by omega), (by omega), (by omega), (by omega), i131, k132, u133⟩, (by show (0 + (4 - w122.toInt) * 1000000000000 - 1000000000000 + 0 + (v135.toInt - (-1)) * 100000 + 1).toNat < (0 + (4 - w122.toInt) * 1000000000000 - 1000000000000 + 10000000000 + (4 - w127.toInt) * 100000 + 1).toNat; omega)⟩
      · have c134 : ¬ (w122.toInt < w127.toInt) := c134
        intro v138 e139
        have b140 := vg_add e139 (by omega) (by omega)
        intro v141 e142
        have b143 := vg_sub e142 (by omega) (by omega)
        intro v144 e145
        refine And.intro (by omega) ?_
        intro v146 e147
        refine And.intro (by omega) ?_
        intro v148 e149
        have b150 := (vg_rem e149 (by omega) (by omega)).2
        refine And.intro (fun c151 => ?_) (fun c151 => ?_)
        · have c151 : ¬ v148.toInt = (Int32.ofInt 1).toInt := c151
          intro v152 e153
          have b154 : v152.toInt = (3) * w122.toInt := vg_mulL e153 (by omega) (by omega) (by omega)
          intro v155 e156
          have b157 := vg_add e156 (by omega) (by omega)
          intro v158 e159
          have b160 := vg_add e159 (by omega) (by omega)
          intro v161 e162
          have b163 := vg_sub e162 (by omega) (by omega)
          refine And.intro (Nat.le_of_ble_eq_true rfl) (And.intro ⟨55, v161, rfl, by decide, i131, by omega⟩ ?_)
          intro v164 s166 h165
          have h165 : s166 = s130 ∧ (v164 = (s130.2 56 v161.toNatClampNeg).toInt32) := h165
          have q169 := h165.1.symm
          subst q169
          have q170 := h165.2
          intro v171 e172
          intro v173 e174
          intro v175 e176
          have b177 := vg_add e176 (by omega) (by omega)
          exact ⟨rfl, ⟨w120, v173, w122, w125, v146, v175, rfl, (by omega), (by omega), (by omega), (by omega), i131, k132, u133⟩, (by show (0 + (4 - w122.toInt) * 1000000000000 - 1000000000000 + 10000000000 + (4 - v175.toInt) * 100000 + 1).toNat < (0 + (4 - w122.toInt) * 1000000000000 - 1000000000000 + 10000000000 + (4 - w127.toInt) * 100000 + 1).toNat; omega)⟩
        · have c151 : ¬ (¬ v148.toInt = (Int32.ofInt 1).toInt) := c151
          intro v178 e179
          intro v180 e181
          have b182 : v180.toInt = (3) * w122.toInt := vg_mulL e181 (by omega) (by omega) (by omega)
          intro v183 e184
          have b185 := vg_add e184 (by omega) (by omega)
          intro v186 e187
          have b188 := vg_add e187 (by omega) (by omega)
          intro v189 e190
          have b191 := vg_sub e190 (by omega) (by omega)
          refine And.intro (Nat.le_of_ble_eq_true rfl) (And.intro ⟨55, v189, rfl, by decide, i131, by omega⟩ ?_)
          intro v192 s194 h193
          have h193 : s194 = s130 ∧ (v192 = (s130.2 56 v189.toNatClampNeg).toInt32) := h193
          have q197 := h193.1.symm
          subst q197
          have q198 := h193.2
          intro v199 e200
          intro v201 e202
          intro v203 e204
          have b205 := vg_add e204 (by omega) (by omega)
          exact ⟨rfl, ⟨w120, v201, w122, w125, v146, v203, rfl, (by omega), (by omega), (by omega), (by omega), i131, k132, u133⟩, (by show (0 + (4 - w122.toInt) * 1000000000000 - 1000000000000 + 10000000000 + (4 - v203.toInt) * 100000 + 1).toNat < (0 + (4 - w122.toInt) * 1000000000000 - 1000000000000 + 10000000000 + (4 - w127.toInt) * 100000 + 1).toNat; omega)⟩
    ·
      intro L s215 hL
      obtain ⟨w206, w207, w208, w211, w212, rfl, b209, b210, b213, b214, i216, k217, u218⟩ := hL
      refine And.intro (fun c219 => ?_) (fun c219 => ?_)
      · have c219 : w212.toInt ≤ 0 := c219
        refine And.intro (fun c220 => ?_) (fun c220 => ?_)
        · have c220 : w208.toInt ≤ 0 := c220
          intro v221 e222
          have b223 := vg_add e222 (by omega) (by omega)
          exact ⟨rfl, ⟨w206, w207, v221, rfl, (by omega), (by omega), i216, k217, u218⟩, (by show (0 + (4 - v221.toInt) * 1000000000000).toNat < (0 + (4 - w208.toInt) * 1000000000000 - 1000000000000 + 0 + (w212.toInt - (-1)) * 100000 + 1).toNat; omega)⟩
        · have c220 : ¬ (w208.toInt ≤ 0) := c220
          intro v224 e225
          have b226 : v224.toInt = (3) * w208.toInt := vg_mulL e225 (by omega) (by omega) (by omega)
          intro v227 e228
          have b229 := vg_add e228 (by omega) (by omega)
          intro v230 e231
          refine And.intro ⟨by omega, by omega⟩ ?_
          intro s232 e233
          have i234 : Iv s232 := Iv.u2 i216 e233
          have k235 : Kp s0 s232 := Kx.u2 k217 e233 (vg_kq_pos (by omega)).1
          have u236 : vk s232 = ((vk s0).1, (vk s0).2) := vk_k2o u218 e233 (by omega)
          intro v237 e238
          have b239 := vg_add e238 (by omega) (by omega)
          exact ⟨rfl, ⟨w206, w207, v237, rfl, (by omega), (by omega), i234, k235, u236⟩, (by show (0 + (4 - v237.toInt) * 1000000000000).toNat < (0 + (4 - w208.toInt) * 1000000000000 - 1000000000000 + 0 + (w212.toInt - (-1)) * 100000 + 1).toNat; omega)⟩
      · have c219 : ¬ (w212.toInt ≤ 0) := c219
        intro v240 e241
        have b242 : v240.toInt = (3) * w208.toInt := vg_mulL e241 (by omega) (by omega) (by omega)
        intro v243 e244
        have b245 := vg_add e244 (by omega) (by omega)
        intro v246 e247
        have b248 := vg_add e247 (by omega) (by omega)
        intro v249 e250
        have b251 : v249.toInt = (3) * w208.toInt := vg_mulL e250 (by omega) (by omega) (by omega)
        intro v252 e253
        have b254 := vg_add e253 (by omega) (by omega)
        intro v255 e256
        have b257 := vg_add e256 (by omega) (by omega)
        intro v258 e259
        have b260 := vg_sub e259 (by omega) (by omega)
        refine And.intro ⟨by omega, by omega⟩ ?_
        intro v261 e262
        refine And.intro ⟨by omega, by omega⟩ ?_
        intro s263 e264
        have i265 : Iv s263 := Iv.u2 i216 e264
        have k266 : Kp s0 s263 := Kx.u2 k217 e264 (vg_kq_pos (by omega)).1
        have u267 : vk s263 = ((vk s0).1, (vk s0).2) := vk_k2o u218 e264 (by omega)
        intro v268 e269
        have b270 := vg_add e269 (by omega) (by omega)
        exact ⟨rfl, ⟨w206, w207, w208, w211, v268, rfl, (by omega), (by omega), (by omega), (by omega), i265, k266, u267⟩, (by show (0 + (4 - w208.toInt) * 1000000000000 - 1000000000000 + 0 + (v268.toInt - (-1)) * 100000 + 1).toNat < (0 + (4 - w208.toInt) * 1000000000000 - 1000000000000 + 0 + (w212.toInt - (-1)) * 100000 + 1).toNat; omega)⟩
def o_X11_loops : List vg_I := [(0, .aload_n 0, 1, 0, 0, 0, 0), (1, .getfield 7, 3, 1061, 11, 0, 0), (4, .sipush 144, 3, 0, 0, 0, 0), (7, .lconst 0, 1, 0, 0, 0, 0), (8, .lastore, 1, 0, 0, 0, 0), (9, .aload_n 0, 1, 0, 0, 0, 0), (10, .getfield 99, 3, 1068, 11, 7, 0), (13, .ifCond .ne 12, 3, 0, 0, 0, 0), (16, .aload_n 0, 1, 0, 0, 0, 0), (17, .iload_n 1, 1, 0, 0, 0, 0), (18, .iload_n 2, 1, 0, 0, 0, 0), (19, .invokevirtual 142, 3, 0, 11, 2, 1297), (22, .goto 26, 3, 0, 0, 0, 0), (25, .aload_n 0, 1, 0, 0, 0, 0), (26, .getfield 99, 3, 1068, 11, 7, 0), (29, .iconst 1, 1, 0, 0, 0, 0), (30, .if_icmp .ne 12, 3, 0, 0, 0, 0), (33, .aload_n 0, 1, 0, 0, 0, 0), (34, .iload_n 1, 1, 0, 0, 0, 0), (35, .iload_n 2, 1, 0, 0, 0, 0), (36, .invokevirtual 145, 3, 1, 11, 2, 1314), (39, .goto 9, 3, 0, 0, 0, 0), (42, .aload_n 0, 1, 0, 0, 0, 0), (43, .iload_n 1, 1, 0, 0, 0, 0), (44, .iload_n 2, 1, 0, 0, 0, 0), (45, .invokevirtual 148, 3, 2, 11, 2, 1318), (48, .istore_n 3, 1, 0, 0, 0, 0), (49, .aload_n 0, 1, 0, 0, 0, 0), (50, .getfield 7, 3, 1061, 11, 0, 0), (53, .iconst 2, 1, 0, 0, 0, 0), (54, .aload_n 0, 1, 0, 0, 0, 0), (55, .getfield 23, 3, 1070, 11, 9, 0), (58, .iconst 2, 1, 0, 0, 0, 0), (59, .iload_n 3, 1, 0, 0, 0, 0), (60, .imul, 1, 0, 0, 0, 0), (61, .iconst 1, 1, 0, 0, 0, 0), (62, .iadd, 1, 0, 0, 0, 0), (63, .aload_n 0, 1, 0, 0, 0, 0), (64, .getfield 26, 3, 1071, 11, 10, 0), (67, .isub, 1, 0, 0, 0, 0), (68, .iconst 2, 1, 0, 0, 0, 0), (69, .aload_n 0, 1, 0, 0, 0, 0), (70, .invokevirtual 151, 3, 3, 11, 0, 1322), (73, .imul, 1, 0, 0, 0, 0), (74, .isub, 1, 0, 0, 0, 0), (75, .imul, 1, 0, 0, 0, 0), (76, .i2l, 1, 0, 0, 0, 0), (77, .lastore, 1, 0, 0, 0, 0), (78, .aload_n 0, 1, 0, 0, 0, 0), (79, .getfield 154, 3, 1075, 11, 14, 0), (82, .ifCond .eq 23, 3, 0, 0, 0, 0), (85, .aload_n 0, 1, 0, 0, 0, 0), (86, .getfield 7, 3, 1061, 11, 0, 0), (89, .sipush 144, 3, 0, 0, 0, 0), (92, .laload, 1, 0, 0, 0, 0), (93, .lconst 1, 1, 0, 0, 0, 0), (94, .lcmp, 1, 0, 0, 0, 0), (95, .ifCond .ne 10, 3, 0, 0, 0, 0), (98, .aload_n 0, 1, 0, 0, 0, 0), (99, .bipush 23, 2, 0, 0, 0, 0), (101, .iconst 4, 1, 0, 0, 0, 0), (102, .invokevirtual 80, 3, 4, 11, 2, 1189), (105, .iload_n 3, 1, 0, 0, 0, 0), (106, .ireturn, 1, 0, 0, 0, 0)]
set_option maxRecDepth 100000 in
set_option maxHeartbeats 4000000 in
theorem c_X11_loops (l : Launch) (G : vg_G) (hp : vg_Hp G) : vg_Ct l G vg_sh r_X11_loops := by
  refine vg_meth hp vg_sh_ok r_X11_loops k_X11_loops rfl (fun h => by cases h) o_X11_loops [r_X11_byErrors, r_X11_bySums, r_X11_byCascade, r_X11_besides, r_X11_wipes] false (by decide +kernel) (by decide +kernel) ⟨_, _, rfl, rfl⟩ (List.forall_mem_cons.mpr ⟨⟨c_X11_byErrors l G hp, Nat.le_of_ble_eq_true rfl, Nat.le_of_ble_eq_true rfl⟩, List.forall_mem_cons.mpr ⟨⟨c_X11_bySums l G hp, Nat.le_of_ble_eq_true rfl, Nat.le_of_ble_eq_true rfl⟩, List.forall_mem_cons.mpr ⟨⟨c_X11_byCascade l G hp, Nat.le_of_ble_eq_true rfl, Nat.le_of_ble_eq_true rfl⟩, List.forall_mem_cons.mpr ⟨⟨c_X11_besides l G hp, Nat.le_of_ble_eq_true rfl, Nat.le_of_ble_eq_true rfl⟩, List.forall_mem_cons.mpr ⟨⟨c_X11_wipes l G hp, Nat.le_of_ble_eq_true rfl, Nat.le_of_ble_eq_true rfl⟩, fun _ h => absurd h List.not_mem_nil⟩⟩⟩⟩⟩) (fun h => by cases h) 600 ?_
  intro as s0 hpre
  obtain ⟨r, a1, a2, rfl, hr, i0⟩ := hpre
  simp only [List.mem_cons, List.not_mem_nil, or_false] at hr
  rcases hr with rfl
  ·
    have z1 : (Int32.ofInt 1).toInt = 1 := by decide
    have z2 : (Int32.ofInt 2).toInt = 2 := by decide
    have z4 : (Int32.ofInt 4).toInt = 4 := by decide
    have z23 : (Int32.ofInt 23).toInt = 23 := by decide
    have z144 : (Int32.ofInt 144).toInt = 144 := by decide
    refine ⟨Nat.le_of_ble_eq_true rfl, [], ?_, fun _ h => absurd h List.not_mem_nil⟩
    ·
      refine And.intro ⟨by omega, by omega⟩ ?_
      intro s1 e2
      have i3 : Iv s1 := Iv.u2 i0 e2
      have k4 : Kp s0 s1 := Kx.u2 Kx.rf e2 (vg_kq_pos (by omega)).1
      have u5 : vk s1 = ((vk s0).1, (vk s0).2) := vk_k2o rfl e2 (by omega)
      intro v6 e7
      have g8 : s0.1 55 7 = v6 := by rw [e7, e2, vg_u2_1]
      refine And.intro (fun c9 => ?_) (fun c9 => ?_)
      · have c9 : ¬ v6.toInt = 0 := c9
        intro v10 e11
        have w12 : v6 = v10 := by rw [e11, e2, vg_u2_1, g8]
        subst w12
        refine And.intro (fun c13 => ?_) (fun c13 => ?_)
        · have c13 : ¬ v6.toInt = (Int32.ofInt 1).toInt := c13
          refine And.intro (Nat.le_of_ble_eq_true rfl) (And.intro ⟨55, a1, a2, rfl, by decide, i3⟩ ?_)
          intro v14 s16 h15
          have h15 : Iv s16 ∧ Kp s1 s16 ∧ vk s16 = ((vk s1).1, (vk s1).2) ∧ (True) := h15
          have i17 := h15.1
          have k18 : Kp s0 s16 := Kx.tr k4 (h15.2.1)
          have u19 : vk s16 = ((vk s0).1, (vk s0).2) := h15.2.2.1.trans u5
          intro v20 e21
          have g22 : s16.1 55 9 = v20 := by rw [e21]
          intro v23 e24
          intro v25 e26
          intro v27 e28
          have g29 : s16.1 55 10 = v27 := by rw [e28]
          have b30 : (2 : Int) ≤ v27.toInt ∧ v27.toInt ≤ 17 := by rw [e28]; exact Iv_55_10 i17
          intro v31 e32
          refine And.intro (Nat.le_of_ble_eq_true rfl) (And.intro ⟨55, rfl, by decide, i17⟩ ?_)
          intro v33 s35 h34
          have h34 : s35 = s16 ∧ (True) := h34
          have q38 := h34.1.symm
          subst q38
          intro v39 e40
          intro v41 e42
          intro v43 e44
          intro v45 e46
          refine And.intro ⟨by omega, by omega⟩ ?_
          intro s47 e48
          have i49 : Iv s47 := Iv.u2 i17 e48
          have k50 : Kp s0 s47 := Kx.u2 k18 e48 (vg_kq_pos (by omega)).1
          have u51 : vk s47 = ((vk s0).1, (vk s0).2) := vk_k2o u19 e48 (by omega)
          intro v52 e53
          have g54 : s16.1 55 14 = v52 := by rw [e53, e48, vg_u2_1]
          refine And.intro (fun c55 => ?_) (fun c55 => ?_)
          · have c55 : v52.toInt = 0 := c55
            show Iv s47 ∧ Kp s0 s47 ∧ vk s47 = ((vk s0).1, (vk s0).2) ∧ (True)
            exact ⟨i49, k50, u51, (trivial)⟩
          · have c55 : ¬ (v52.toInt = 0) := c55
            refine And.intro ⟨by omega, by omega⟩ ?_
            intro v56 e57
            intro v58 e59
            refine And.intro (fun c60 => ?_) (fun c60 => ?_)
            · have c60 : ¬ v58.toInt = 0 := c60
              show Iv s47 ∧ Kp s0 s47 ∧ vk s47 = ((vk s0).1, (vk s0).2) ∧ (True)
              exact ⟨i49, k50, u51, (trivial)⟩
            · have c60 : ¬ (¬ v58.toInt = 0) := c60
              refine And.intro (Nat.le_of_ble_eq_true rfl) (And.intro ⟨55, (Int32.ofInt 23), (Int32.ofInt 4), rfl, by decide, i49, by omega⟩ ?_)
              intro s62 h61
              have h61 : Iv s62 ∧ Kp s47 s62 ∧ vk s62 = ((vk s47).1, vr_wipe (Int32.ofInt 23).toInt ((Int32.ofInt 23).toInt + (Int32.ofInt 4).toInt) (vk s47).2) ∧ (True) := h61
              have i63 := h61.1
              have k64 : Kp s0 s62 := Kx.tr k50 (h61.2.1)
              have u65 : vk s62 = ((vk s0).1, (vk s0).2) := vk_wno h61.2.2.1 u51 (by omega)
              show Iv s62 ∧ Kp s0 s62 ∧ vk s62 = ((vk s0).1, (vk s0).2) ∧ (True)
              exact ⟨i63, k64, u65, (trivial)⟩
        · have c13 : ¬ (¬ v6.toInt = (Int32.ofInt 1).toInt) := c13
          refine And.intro (Nat.le_of_ble_eq_true rfl) (And.intro ⟨55, a1, a2, rfl, by decide, i3⟩ ?_)
          intro v66 s68 h67
          have h67 : Iv s68 ∧ Kp s1 s68 ∧ vk s68 = ((vk s1).1, (vk s1).2) ∧ (True) := h67
          have i69 := h67.1
          have k70 : Kp s0 s68 := Kx.tr k4 (h67.2.1)
          have u71 : vk s68 = ((vk s0).1, (vk s0).2) := h67.2.2.1.trans u5
          intro v72 e73
          have g74 : s68.1 55 9 = v72 := by rw [e73]
          intro v75 e76
          intro v77 e78
          intro v79 e80
          have g81 : s68.1 55 10 = v79 := by rw [e80]
          have b82 : (2 : Int) ≤ v79.toInt ∧ v79.toInt ≤ 17 := by rw [e80]; exact Iv_55_10 i69
          intro v83 e84
          refine And.intro (Nat.le_of_ble_eq_true rfl) (And.intro ⟨55, rfl, by decide, i69⟩ ?_)
          intro v85 s87 h86
          have h86 : s87 = s68 ∧ (True) := h86
          have q90 := h86.1.symm
          subst q90
          intro v91 e92
          intro v93 e94
          intro v95 e96
          intro v97 e98
          refine And.intro ⟨by omega, by omega⟩ ?_
          intro s99 e100
          have i101 : Iv s99 := Iv.u2 i69 e100
          have k102 : Kp s0 s99 := Kx.u2 k70 e100 (vg_kq_pos (by omega)).1
          have u103 : vk s99 = ((vk s0).1, (vk s0).2) := vk_k2o u71 e100 (by omega)
          intro v104 e105
          have g106 : s68.1 55 14 = v104 := by rw [e105, e100, vg_u2_1]
          refine And.intro (fun c107 => ?_) (fun c107 => ?_)
          · have c107 : v104.toInt = 0 := c107
            show Iv s99 ∧ Kp s0 s99 ∧ vk s99 = ((vk s0).1, (vk s0).2) ∧ (True)
            exact ⟨i101, k102, u103, (trivial)⟩
          · have c107 : ¬ (v104.toInt = 0) := c107
            refine And.intro ⟨by omega, by omega⟩ ?_
            intro v108 e109
            intro v110 e111
            refine And.intro (fun c112 => ?_) (fun c112 => ?_)
            · have c112 : ¬ v110.toInt = 0 := c112
              show Iv s99 ∧ Kp s0 s99 ∧ vk s99 = ((vk s0).1, (vk s0).2) ∧ (True)
              exact ⟨i101, k102, u103, (trivial)⟩
            · have c112 : ¬ (¬ v110.toInt = 0) := c112
              refine And.intro (Nat.le_of_ble_eq_true rfl) (And.intro ⟨55, (Int32.ofInt 23), (Int32.ofInt 4), rfl, by decide, i101, by omega⟩ ?_)
              intro s114 h113
              have h113 : Iv s114 ∧ Kp s99 s114 ∧ vk s114 = ((vk s99).1, vr_wipe (Int32.ofInt 23).toInt ((Int32.ofInt 23).toInt + (Int32.ofInt 4).toInt) (vk s99).2) ∧ (True) := h113
              have i115 := h113.1
              have k116 : Kp s0 s114 := Kx.tr k102 (h113.2.1)
              have u117 : vk s114 = ((vk s0).1, (vk s0).2) := vk_wno h113.2.2.1 u103 (by omega)
              show Iv s114 ∧ Kp s0 s114 ∧ vk s114 = ((vk s0).1, (vk s0).2) ∧ (True)
              exact ⟨i115, k116, u117, (trivial)⟩
      · have c9 : ¬ (¬ v6.toInt = 0) := c9
        refine And.intro (Nat.le_of_ble_eq_true rfl) (And.intro ⟨55, a1, a2, rfl, by decide, i3⟩ ?_)
        intro v118 s120 h119
        have h119 : Iv s120 ∧ Kp s1 s120 ∧ vk s120 = ((vk s1).1, (vk s1).2) ∧ (True) := h119
        have i121 := h119.1
        have k122 : Kp s0 s120 := Kx.tr k4 (h119.2.1)
        have u123 : vk s120 = ((vk s0).1, (vk s0).2) := h119.2.2.1.trans u5
        intro v124 e125
        have g126 : s120.1 55 9 = v124 := by rw [e125]
        intro v127 e128
        intro v129 e130
        intro v131 e132
        have g133 : s120.1 55 10 = v131 := by rw [e132]
        have b134 : (2 : Int) ≤ v131.toInt ∧ v131.toInt ≤ 17 := by rw [e132]; exact Iv_55_10 i121
        intro v135 e136
        refine And.intro (Nat.le_of_ble_eq_true rfl) (And.intro ⟨55, rfl, by decide, i121⟩ ?_)
        intro v137 s139 h138
        have h138 : s139 = s120 ∧ (True) := h138
        have q142 := h138.1.symm
        subst q142
        intro v143 e144
        intro v145 e146
        intro v147 e148
        intro v149 e150
        refine And.intro ⟨by omega, by omega⟩ ?_
        intro s151 e152
        have i153 : Iv s151 := Iv.u2 i121 e152
        have k154 : Kp s0 s151 := Kx.u2 k122 e152 (vg_kq_pos (by omega)).1
        have u155 : vk s151 = ((vk s0).1, (vk s0).2) := vk_k2o u123 e152 (by omega)
        intro v156 e157
        have g158 : s120.1 55 14 = v156 := by rw [e157, e152, vg_u2_1]
        refine And.intro (fun c159 => ?_) (fun c159 => ?_)
        · have c159 : v156.toInt = 0 := c159
          show Iv s151 ∧ Kp s0 s151 ∧ vk s151 = ((vk s0).1, (vk s0).2) ∧ (True)
          exact ⟨i153, k154, u155, (trivial)⟩
        · have c159 : ¬ (v156.toInt = 0) := c159
          refine And.intro ⟨by omega, by omega⟩ ?_
          intro v160 e161
          intro v162 e163
          refine And.intro (fun c164 => ?_) (fun c164 => ?_)
          · have c164 : ¬ v162.toInt = 0 := c164
            show Iv s151 ∧ Kp s0 s151 ∧ vk s151 = ((vk s0).1, (vk s0).2) ∧ (True)
            exact ⟨i153, k154, u155, (trivial)⟩
          · have c164 : ¬ (¬ v162.toInt = 0) := c164
            refine And.intro (Nat.le_of_ble_eq_true rfl) (And.intro ⟨55, (Int32.ofInt 23), (Int32.ofInt 4), rfl, by decide, i153, by omega⟩ ?_)
            intro s166 h165
            have h165 : Iv s166 ∧ Kp s151 s166 ∧ vk s166 = ((vk s151).1, vr_wipe (Int32.ofInt 23).toInt ((Int32.ofInt 23).toInt + (Int32.ofInt 4).toInt) (vk s151).2) ∧ (True) := h165
            have i167 := h165.1
            have k168 : Kp s0 s166 := Kx.tr k154 (h165.2.1)
            have u169 : vk s166 = ((vk s0).1, (vk s0).2) := vk_wno h165.2.2.1 u155 (by omega)
            show Iv s166 ∧ Kp s0 s166 ∧ vk s166 = ((vk s0).1, (vk s0).2) ∧ (True)
            exact ⟨i167, k168, u169, (trivial)⟩
