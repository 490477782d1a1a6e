def o_X11_status : List vg_I := [(0, .aload_n 0, 1, 0, 0, 0, 0), (1, .getfield 73, 3, 1063, 11, 2, 0), (4, .ireturn, 1, 0, 0, 0, 0)]
set_option maxRecDepth 100000 in
set_option maxHeartbeats 4000000 in
theorem c_X11_status (l : Launch) (G : vg_G) (hp : vg_Hp G) : vg_Ct l G vg_sh r_X11_status := by
  refine vg_meth hp vg_sh_ok r_X11_status k_X11_status rfl (fun h => by cases h) o_X11_status [] false (by decide +kernel) (by decide +kernel) ⟨_, _, rfl, rfl⟩ (fun _ h => absurd h List.not_mem_nil) (fun h => by cases h) 600 ?_
  intro as s0 hpre
  obtain ⟨r, rfl, hr, i0⟩ := hpre
  simp only [List.mem_cons, List.not_mem_nil, or_false] at hr
  rcases hr with rfl
  ·
    refine ⟨Nat.le_of_ble_eq_true rfl, [], ?_, fun _ h => absurd h List.not_mem_nil⟩
    ·
      intro v1 e2
      have g3 : s0.1 55 2 = v1 := by rw [e2]
      show s0 = s0 ∧ (True)
      exact ⟨rfl, (trivial)⟩
def o_X11_refuse : List vg_I := [(0, .aload_n 0, 1, 0, 0, 0, 0), (1, .iload_n 1, 1, 0, 0, 0, 0), (2, .putfield 73, 3, 1063, 11, 2, 0), (5, .iconst (-1), 1, 0, 0, 0, 0), (6, .ireturn, 1, 0, 0, 0, 0)]
set_option maxRecDepth 100000 in
set_option maxHeartbeats 4000000 in
theorem c_X11_refuse (l : Launch) (G : vg_G) (hp : vg_Hp G) : vg_Ct l G vg_sh r_X11_refuse := by
  refine vg_meth hp vg_sh_ok r_X11_refuse k_X11_refuse rfl (fun h => by cases h) o_X11_refuse [] false (by decide +kernel) (by decide +kernel) ⟨_, _, rfl, rfl⟩ (fun _ h => absurd h List.not_mem_nil) (fun h => by cases h) 600 ?_
  intro as s0 hpre
  obtain ⟨r, a1, rfl, hr, i0⟩ := hpre
  simp only [List.mem_cons, List.not_mem_nil, or_false] at hr
  rcases hr with rfl
  ·
    have zm1 : (Int32.ofInt (-1)).toInt = -1 := by decide
    refine ⟨Nat.le_of_ble_eq_true rfl, [], ?_, fun _ h => absurd h List.not_mem_nil⟩
    ·
      intro s1 e2
      have i3 : Iv s1 := Iv.u1 i0 e2 rfl
      have k4 : Kp s0 s1 := Kx.u1 Kx.rf e2 rfl
      show Iv s1 ∧ Kp s0 s1 ∧ ((Int32.ofInt (-1)).toInt = -1)
      exact ⟨i3, k4, (by first | trivial | omega | assumption)⟩
def o_X11_gives : List vg_I := [(0, .aload_n 0, 1, 0, 0, 0, 0), (1, .iconst 0, 1, 0, 0, 0, 0), (2, .putfield 73, 3, 1063, 11, 2, 0), (5, .iload_n 1, 1, 0, 0, 0, 0), (6, .ireturn, 1, 0, 0, 0, 0)]
set_option maxRecDepth 100000 in
set_option maxHeartbeats 4000000 in
theorem c_X11_gives (l : Launch) (G : vg_G) (hp : vg_Hp G) : vg_Ct l G vg_sh r_X11_gives := by
  refine vg_meth hp vg_sh_ok r_X11_gives k_X11_gives rfl (fun h => by cases h) o_X11_gives [] false (by decide +kernel) (by decide +kernel) ⟨_, _, rfl, rfl⟩ (fun _ h => absurd h List.not_mem_nil) (fun h => by cases h) 600 ?_
  intro as s0 hpre
  obtain ⟨r, a1, rfl, hr, i0⟩ := hpre
  simp only [List.mem_cons, List.not_mem_nil, or_false] at hr
  rcases hr with rfl
  ·
    have z0 : (Int32.ofInt 0).toInt = 0 := by decide
    refine ⟨Nat.le_of_ble_eq_true rfl, [], ?_, fun _ h => absurd h List.not_mem_nil⟩
    ·
      intro s1 e2
      have i3 : Iv s1 := Iv.u1 i0 e2 rfl
      have k4 : Kp s0 s1 := Kx.u1 Kx.rf e2 rfl
      show Iv s1 ∧ Kp s0 s1 ∧ (a1 = a1 ∧ a1.toInt = a1.toInt)
      exact ⟨i3, k4, (by exact ⟨rfl, rfl⟩)⟩
def o_X11_givesLong : List vg_I := [(0, .aload_n 0, 1, 0, 0, 0, 0), (1, .iconst 0, 1, 0, 0, 0, 0), (2, .putfield 73, 3, 1063, 11, 2, 0), (5, .lload_n 1, 1, 0, 0, 0, 0), (6, .lreturn, 1, 0, 0, 0, 0)]
set_option maxRecDepth 100000 in
set_option maxHeartbeats 4000000 in
theorem c_X11_givesLong (l : Launch) (G : vg_G) (hp : vg_Hp G) : vg_Ct l G vg_sh r_X11_givesLong := by
  refine vg_meth hp vg_sh_ok r_X11_givesLong k_X11_givesLong rfl (fun h => by cases h) o_X11_givesLong [] false (by decide +kernel) (by decide +kernel) ⟨_, _, rfl, rfl⟩ (fun _ h => absurd h List.not_mem_nil) (fun h => by cases h) 600 ?_
  intro as s0 hpre
  obtain ⟨r, a1, rfl, hr, i0⟩ := hpre
  simp only [List.mem_cons, List.not_mem_nil, or_false] at hr
  rcases hr with rfl
  ·
    have z0 : (Int32.ofInt 0).toInt = 0 := by decide
    refine ⟨Nat.le_of_ble_eq_true rfl, [], ?_, fun _ h => absurd h List.not_mem_nil⟩
    ·
      intro s1 e2
      have i3 : Iv s1 := Iv.u1 i0 e2 rfl
      have k4 : Kp s0 s1 := Kx.u1 Kx.rf e2 rfl
      show Iv s1 ∧ Kp s0 s1 ∧ (a1 = a1)
      exact ⟨i3, k4, (by first | trivial | omega | assumption)⟩
def o_X11_isFrom : List vg_I := [(0, .iload_n 0, 1, 0, 0, 0, 0), (1, .iload_n 1, 1, 0, 0, 0, 0), (2, .if_icmp .lt 12, 3, 0, 0, 0, 0), (5, .iload_n 0, 1, 0, 0, 0, 0), (6, .iload_n 2, 1, 0, 0, 0, 0), (7, .if_icmp .gt 7, 3, 0, 0, 0, 0), (10, .iconst 1, 1, 0, 0, 0, 0), (11, .goto 4, 3, 0, 0, 0, 0), (14, .iconst 0, 1, 0, 0, 0, 0), (15, .ireturn, 1, 0, 0, 0, 1)]
set_option maxRecDepth 100000 in
set_option maxHeartbeats 4000000 in
theorem c_X11_isFrom (l : Launch) (G : vg_G) (hp : vg_Hp G) : vg_Ct l G vg_sh r_X11_isFrom := by
  refine vg_meth hp vg_sh_ok r_X11_isFrom k_X11_isFrom rfl (fun h => by cases h) o_X11_isFrom [] false (by decide +kernel) (by decide +kernel) ⟨_, _, rfl, rfl⟩ (fun _ h => absurd h List.not_mem_nil) (fun h => by cases h) 600 ?_
  intro as s0 hpre
  obtain ⟨a1, a2, a3, rfl, -⟩ := hpre
  have z0 : (Int32.ofInt 0).toInt = 0 := by decide
  have z1 : (Int32.ofInt 1).toInt = 1 := by decide
  refine ⟨Nat.le_of_ble_eq_true rfl, [], ?_, fun _ h => absurd h List.not_mem_nil⟩
  ·
    refine And.intro (fun c1 => ?_) (fun c1 => ?_)
    · have c1 : a1.toInt < a2.toInt := c1
      refine And.intro (by first | exact Or.inl rfl | exact Or.inr rfl | exact vg_01 (by omega) (by omega)) ?_
      show s0 = s0 ∧ (((Int32.ofInt 0).toInt = 1 ∧ a2.toInt ≤ a1.toInt ∧ a1.toInt ≤ a3.toInt) ∨ ((Int32.ofInt 0).toInt = 0 ∧ (a1.toInt < a2.toInt ∨ a3.toInt < a1.toInt)))
      exact ⟨rfl, (by first | trivial | omega | assumption)⟩
    · have c1 : ¬ (a1.toInt < a2.toInt) := c1
      refine And.intro (fun c2 => ?_) (fun c2 => ?_)
      · have c2 : a3.toInt < a1.toInt := c2
        refine And.intro (by first | exact Or.inl rfl | exact Or.inr rfl | exact vg_01 (by omega) (by omega)) ?_
        show s0 = s0 ∧ (((Int32.ofInt 0).toInt = 1 ∧ a2.toInt ≤ a1.toInt ∧ a1.toInt ≤ a3.toInt) ∨ ((Int32.ofInt 0).toInt = 0 ∧ (a1.toInt < a2.toInt ∨ a3.toInt < a1.toInt)))
        exact ⟨rfl, (by first | trivial | omega | assumption)⟩
      · have c2 : ¬ (a3.toInt < a1.toInt) := c2
        refine And.intro (by first | exact Or.inl rfl | exact Or.inr rfl | exact vg_01 (by omega) (by omega)) ?_
        show s0 = s0 ∧ (((Int32.ofInt 1).toInt = 1 ∧ a2.toInt ≤ a1.toInt ∧ a1.toInt ≤ a3.toInt) ∨ ((Int32.ofInt 1).toInt = 0 ∧ (a1.toInt < a2.toInt ∨ a3.toInt < a1.toInt)))
        exact ⟨rfl, (by first | trivial | omega | assumption)⟩
def o_X11_isFar : List vg_I := [(0, .iload_n 0, 1, 0, 0, 0, 0), (1, .sipush (-30000), 3, 0, 0, 0, 0), (4, .sipush 30000, 3, 0, 0, 0, 0), (7, .invokestatic 76, 3, 0, 1, 3, 1175), (10, .ireturn, 1, 0, 0, 0, 1)]
set_option maxRecDepth 100000 in
set_option maxHeartbeats 4000000 in
theorem c_X11_isFar (l : Launch) (G : vg_G) (hp : vg_Hp G) : vg_Ct l G vg_sh r_X11_isFar := by
  refine vg_meth hp vg_sh_ok r_X11_isFar k_X11_isFar rfl (fun h => by cases h) o_X11_isFar [r_X11_isFrom] false (by decide +kernel) (by decide +kernel) ⟨_, _, rfl, rfl⟩ (List.forall_mem_cons.mpr ⟨⟨c_X11_isFrom l G hp, Nat.le_of_ble_eq_true rfl, Nat.le_of_ble_eq_true rfl⟩, fun _ h => absurd h List.not_mem_nil⟩) (fun h => by cases h) 600 ?_
  intro as s0 hpre
  obtain ⟨a1, rfl, -⟩ := hpre
  have zm30000 : (Int32.ofInt (-30000)).toInt = -30000 := by decide
  have z30000 : (Int32.ofInt 30000).toInt = 30000 := by decide
  refine ⟨Nat.le_of_ble_eq_true rfl, [], ?_, fun _ h => absurd h List.not_mem_nil⟩
  ·
    refine And.intro (Nat.le_of_ble_eq_true rfl) (And.intro ⟨a1, (Int32.ofInt (-30000)), (Int32.ofInt 30000), rfl, trivial⟩ ?_)
    intro v1 s3 h2
    have h2 : s3 = s0 ∧ ((v1.toInt = 1 ∧ (Int32.ofInt (-30000)).toInt ≤ a1.toInt ∧ a1.toInt ≤ (Int32.ofInt 30000).toInt) ∨ (v1.toInt = 0 ∧ (a1.toInt < (Int32.ofInt (-30000)).toInt ∨ (Int32.ofInt 30000).toInt < a1.toInt))) := h2
    have q6 := h2.1.symm
    subst q6
    have q7 := h2.2
    refine And.intro (by first | exact Or.inl rfl | exact Or.inr rfl | exact vg_01 (by omega) (by omega)) ?_
    show s0 = s0 ∧ ((v1.toInt = 1 ∧ -30000 ≤ a1.toInt ∧ a1.toInt ≤ 30000) ∨ (v1.toInt = 0 ∧ (a1.toInt < -30000 ∨ 30000 < a1.toInt)))
    exact ⟨rfl, (by first | trivial | omega | assumption)⟩
def o_X11_isTap : List vg_I := [(0, .iload_n 0, 1, 0, 0, 0, 0), (1, .sipush (-999), 3, 0, 0, 0, 0), (4, .sipush 999, 3, 0, 0, 0, 0), (7, .invokestatic 76, 3, 0, 1, 3, 1175), (10, .ireturn, 1, 0, 0, 0, 1)]
set_option maxRecDepth 100000 in
set_option maxHeartbeats 4000000 in
theorem c_X11_isTap (l : Launch) (G : vg_G) (hp : vg_Hp G) : vg_Ct l G vg_sh r_X11_isTap := by
  refine vg_meth hp vg_sh_ok r_X11_isTap k_X11_isTap rfl (fun h => by cases h) o_X11_isTap [r_X11_isFrom] false (by decide +kernel) (by decide +kernel) ⟨_, _, rfl, rfl⟩ (List.forall_mem_cons.mpr ⟨⟨c_X11_isFrom l G hp, Nat.le_of_ble_eq_true rfl, Nat.le_of_ble_eq_true rfl⟩, fun _ h => absurd h List.not_mem_nil⟩) (fun h => by cases h) 600 ?_
  intro as s0 hpre
  obtain ⟨a1, rfl, -⟩ := hpre
  have zm999 : (Int32.ofInt (-999)).toInt = -999 := by decide
  have z999 : (Int32.ofInt 999).toInt = 999 := by decide
  refine ⟨Nat.le_of_ble_eq_true rfl, [], ?_, fun _ h => absurd h List.not_mem_nil⟩
  ·
    refine And.intro (Nat.le_of_ble_eq_true rfl) (And.intro ⟨a1, (Int32.ofInt (-999)), (Int32.ofInt 999), rfl, trivial⟩ ?_)
    intro v1 s3 h2
    have h2 : s3 = s0 ∧ ((v1.toInt = 1 ∧ (Int32.ofInt (-999)).toInt ≤ a1.toInt ∧ a1.toInt ≤ (Int32.ofInt 999).toInt) ∨ (v1.toInt = 0 ∧ (a1.toInt < (Int32.ofInt (-999)).toInt ∨ (Int32.ofInt 999).toInt < a1.toInt))) := h2
    have q6 := h2.1.symm
    subst q6
    have q7 := h2.2
    refine And.intro (by first | exact Or.inl rfl | exact Or.inr rfl | exact vg_01 (by omega) (by omega)) ?_
    show s0 = s0 ∧ ((v1.toInt = 1 ∧ -999 ≤ a1.toInt ∧ a1.toInt ≤ 999) ∨ (v1.toInt = 0 ∧ (a1.toInt < -999 ∨ 999 < a1.toInt)))
    exact ⟨rfl, (by first | trivial | omega | assumption)⟩
def o_X11_isStage : List vg_I := [(0, .iload_n 0, 1, 0, 0, 0, 0), (1, .iconst 0, 1, 0, 0, 0, 0), (2, .bipush 6, 2, 0, 0, 0, 0), (4, .invokestatic 76, 3, 0, 1, 3, 1175), (7, .ireturn, 1, 0, 0, 0, 1)]
set_option maxRecDepth 100000 in
set_option maxHeartbeats 4000000 in
theorem c_X11_isStage (l : Launch) (G : vg_G) (hp : vg_Hp G) : vg_Ct l G vg_sh r_X11_isStage := by
  refine vg_meth hp vg_sh_ok r_X11_isStage k_X11_isStage rfl (fun h => by cases h) o_X11_isStage [r_X11_isFrom] false (by decide +kernel) (by decide +kernel) ⟨_, _, rfl, rfl⟩ (List.forall_mem_cons.mpr ⟨⟨c_X11_isFrom l G hp, Nat.le_of_ble_eq_true rfl, Nat.le_of_ble_eq_true rfl⟩, fun _ h => absurd h List.not_mem_nil⟩) (fun h => by cases h) 600 ?_
  intro as s0 hpre
  obtain ⟨a1, rfl, -⟩ := hpre
  have z0 : (Int32.ofInt 0).toInt = 0 := by decide
  have z6 : (Int32.ofInt 6).toInt = 6 := by decide
  refine ⟨Nat.le_of_ble_eq_true rfl, [], ?_, fun _ h => absurd h List.not_mem_nil⟩
  ·
    refine And.intro (Nat.le_of_ble_eq_true rfl) (And.intro ⟨a1, (Int32.ofInt 0), (Int32.ofInt 6), rfl, trivial⟩ ?_)
    intro v1 s3 h2
    have h2 : s3 = s0 ∧ ((v1.toInt = 1 ∧ (Int32.ofInt 0).toInt ≤ a1.toInt ∧ a1.toInt ≤ (Int32.ofInt 6).toInt) ∨ (v1.toInt = 0 ∧ (a1.toInt < (Int32.ofInt 0).toInt ∨ (Int32.ofInt 6).toInt < a1.toInt))) := h2
    have q6 := h2.1.symm
    subst q6
    have q7 := h2.2
    refine And.intro (by first | exact Or.inl rfl | exact Or.inr rfl | exact vg_01 (by omega) (by omega)) ?_
    show s0 = s0 ∧ ((v1.toInt = 1 ∧ 0 ≤ a1.toInt ∧ a1.toInt ≤ 6) ∨ (v1.toInt = 0 ∧ (a1.toInt < 0 ∨ 6 < a1.toInt)))
    exact ⟨rfl, (by first | trivial | omega | assumption)⟩
def o_X11_get : List vg_I := [(0, .aload_n 0, 1, 0, 0, 0, 0), (1, .getfield 7, 3, 1061, 11, 0, 0), (4, .iload_n 1, 1, 0, 0, 0, 0), (5, .laload, 1, 0, 0, 0, 0), (6, .l2i, 1, 0, 0, 0, 0), (7, .ireturn, 1, 0, 0, 0, 0)]
set_option maxRecDepth 100000 in
set_option maxHeartbeats 4000000 in
theorem c_X11_get (l : Launch) (G : vg_G) (hp : vg_Hp G) : vg_Ct l G vg_sh r_X11_get := by
  refine vg_meth hp vg_sh_ok r_X11_get k_X11_get rfl (fun h => by cases h) o_X11_get [] false (by decide +kernel) (by decide +kernel) ⟨_, _, rfl, rfl⟩ (fun _ h => absurd h List.not_mem_nil) (fun h => by cases h) 600 ?_
  intro as s0 hpre
  obtain ⟨r, a1, rfl, hr, i0, p0⟩ := hpre
  simp only [List.mem_cons, List.not_mem_nil, or_false] at hr
  rcases hr with rfl
  ·
    refine ⟨Nat.le_of_ble_eq_true rfl, [], ?_, fun _ h => absurd h List.not_mem_nil⟩
    ·
      refine And.intro ⟨by omega, by omega⟩ ?_
      intro v1 e2
      intro v3 e4
      show s0 = s0 ∧ (v3 = (s0.2 56 a1.toNatClampNeg).toInt32)
      exact ⟨rfl, (by subst_vars; rfl)⟩
def o_X11_copies : List vg_I := [(0, .iconst 0, 1, 0, 0, 0, 0), (1, .istore_n 2, 1, 0, 0, 0, 0), (2, .iload_n 2, 1, 0, 0, 0, 0), (3, .sipush 481, 3, 0, 0, 0, 0), (6, .if_icmp .ge 15, 3, 0, 0, 0, 0), (9, .aload_n 1, 1, 0, 0, 0, 0), (10, .iload_n 2, 1, 0, 0, 0, 0), (11, .aload_n 0, 1, 0, 0, 0, 0), (12, .iload_n 2, 1, 0, 0, 0, 0), (13, .laload, 1, 0, 0, 0, 0), (14, .lastore, 1, 0, 0, 0, 0), (15, .iinc 2 1, 3, 0, 0, 0, 0), (18, .goto (-16), 3, 0, 0, 0, 0), (21, .return_, 1, 0, 0, 0, 0)]
set_option maxRecDepth 100000 in
set_option maxHeartbeats 4000000 in
theorem c_X11_copies (l : Launch) (G : vg_G) (hp : vg_Hp G) : vg_Ct l G vg_sh r_X11_copies := by
  refine vg_meth hp vg_sh_ok r_X11_copies k_X11_copies rfl (fun h => by cases h) o_X11_copies [] false (by decide +kernel) (by decide +kernel) ⟨_, _, rfl, rfl⟩ (fun _ h => absurd h List.not_mem_nil) (fun h => by cases h) 600 ?_
  intro as s0 hpre
  obtain ⟨a1, a2, rfl, ha1, ha2, i0, p0⟩ := hpre
  simp only [List.mem_cons, List.not_mem_nil, or_false] at ha1
  rcases ha1 with rfl | rfl | rfl
  ·
    simp only [List.mem_cons, List.not_mem_nil, or_false] at ha2
    rcases ha2 with rfl | rfl | rfl
    ·
      exact absurd rfl p0
    ·
      have z0 : (Int32.ofInt 0).toInt = 0 := by decide
      have z1 : (Int32.ofInt 1).toInt = 1 := by decide
      have z481 : (Int32.ofInt 481).toInt = 481 := by decide
      refine ⟨Nat.le_of_ble_eq_true rfl, [(2, [true, true, true], (fun L t => ∃ (x2 : Int32), L = [some (.ref 56), some (.ref 57), some (.int x2)] ∧ (0 : Int) ≤ x2.toInt ∧ x2.toInt ≤ (481 : Int) ∧ (t.1 = s0.1 ∧ (∀ k, k ≠ 57 → t.2 k = s0.2 k) ∧ (0 < x2.toInt → t.2 57 0 = s0.2 56 0)) ∧ Iv t), (fun L _ => (0 + (481 - (vg_li L 2).toInt) * 1000000000000).toNat))], ?_, List.forall_mem_cons.mpr ⟨?_, fun _ h => absurd h List.not_mem_nil⟩⟩
      ·
        exact ⟨rfl, ⟨(Int32.ofInt 0), rfl, (by omega), (by omega), (by first | exact ⟨rfl, fun _ _ => rfl, fun h9 => absurd h9 (by omega)⟩ | exact vg_cpstep None (by decide) (by omega) None rfl), i0⟩, trivial⟩
      ·
        intro L s5 hL
        obtain ⟨w1, rfl, b2, b3, x4, i6⟩ := hL
        refine And.intro (fun c8 => ?_) (fun c8 => ?_)
        · have c8 : (Int32.ofInt 481).toInt ≤ w1.toInt := c8
          show (s5.1 = s0.1 ∧ s5.2 57 0 = s0.2 56 0 ∧ ∀ k, k ≠ 57 → s5.2 k = s0.2 k)
          exact (⟨x4.1, x4.2.2 (by omega), x4.2.1⟩)
        · have c8 : ¬ ((Int32.ofInt 481).toInt ≤ w1.toInt) := c8
          refine And.intro ⟨by omega, by omega⟩ ?_
          intro v9 e10
          refine And.intro ⟨by omega, by omega⟩ ?_
          intro s11 e12
          have i13 : Iv s11 := Iv.u2 i6 e12
          intro v15 e16
          have b17 := vg_add e16 (by omega) (by omega)
          exact ⟨rfl, ⟨v15, rfl, (by omega), (by omega), (by first | exact ⟨rfl, fun _ _ => rfl, fun h9 => absurd h9 (by omega)⟩ | exact vg_cpstep x4 (by decide) (by omega) e10 e12), i13⟩, (by show (0 + (481 - v15.toInt) * 1000000000000).toNat < (0 + (481 - w1.toInt) * 1000000000000).toNat; omega)⟩
    ·
      have z0 : (Int32.ofInt 0).toInt = 0 := by decide
      have z1 : (Int32.ofInt 1).toInt = 1 := by decide
      have z481 : (Int32.ofInt 481).toInt = 481 := by decide
      refine ⟨Nat.le_of_ble_eq_true rfl, [(2, [true, true, true], (fun L t => ∃ (x2 : Int32), L = [some (.ref 56), some (.ref 67), some (.int x2)] ∧ (0 : Int) ≤ x2.toInt ∧ x2.toInt ≤ (481 : Int) ∧ (t.1 = s0.1 ∧ (∀ k, k ≠ 67 → t.2 k = s0.2 k) ∧ (0 < x2.toInt → t.2 67 0 = s0.2 56 0)) ∧ Iv t), (fun L _ => (0 + (481 - (vg_li L 2).toInt) * 1000000000000).toNat))], ?_, List.forall_mem_cons.mpr ⟨?_, fun _ h => absurd h List.not_mem_nil⟩⟩
      ·
        exact ⟨rfl, ⟨(Int32.ofInt 0), rfl, (by omega), (by omega), (by first | exact ⟨rfl, fun _ _ => rfl, fun h9 => absurd h9 (by omega)⟩ | exact vg_cpstep None (by decide) (by omega) None rfl), i0⟩, trivial⟩
      ·
        intro L s5 hL
        obtain ⟨w1, rfl, b2, b3, x4, i6⟩ := hL
        refine And.intro (fun c8 => ?_) (fun c8 => ?_)
        · have c8 : (Int32.ofInt 481).toInt ≤ w1.toInt := c8
          show (s5.1 = s0.1 ∧ s5.2 67 0 = s0.2 56 0 ∧ ∀ k, k ≠ 67 → s5.2 k = s0.2 k)
          exact (⟨x4.1, x4.2.2 (by omega), x4.2.1⟩)
        · have c8 : ¬ ((Int32.ofInt 481).toInt ≤ w1.toInt) := c8
          refine And.intro ⟨by omega, by omega⟩ ?_
          intro v9 e10
          refine And.intro ⟨by omega, by omega⟩ ?_
          intro s11 e12
          have i13 : Iv s11 := Iv.u2 i6 e12
          intro v15 e16
          have b17 := vg_add e16 (by omega) (by omega)
          exact ⟨rfl, ⟨v15, rfl, (by omega), (by omega), (by first | exact ⟨rfl, fun _ _ => rfl, fun h9 => absurd h9 (by omega)⟩ | exact vg_cpstep x4 (by decide) (by omega) e10 e12), i13⟩, (by show (0 + (481 - v15.toInt) * 1000000000000).toNat < (0 + (481 - w1.toInt) * 1000000000000).toNat; omega)⟩
  ·
    simp only [List.mem_cons, List.not_mem_nil, or_false] at ha2
    rcases ha2 with rfl | rfl | rfl
    ·
      have z0 : (Int32.ofInt 0).toInt = 0 := by decide
      have z1 : (Int32.ofInt 1).toInt = 1 := by decide
      have z481 : (Int32.ofInt 481).toInt = 481 := by decide
      refine ⟨Nat.le_of_ble_eq_true rfl, [(2, [true, true, true], (fun L t => ∃ (x2 : Int32), L = [some (.ref 57), some (.ref 56), some (.int x2)] ∧ (0 : Int) ≤ x2.toInt ∧ x2.toInt ≤ (481 : Int) ∧ (t.1 = s0.1 ∧ (∀ k, k ≠ 56 → t.2 k = s0.2 k) ∧ (0 < x2.toInt → t.2 56 0 = s0.2 57 0)) ∧ Iv t), (fun L _ => (0 + (481 - (vg_li L 2).toInt) * 1000000000000).toNat))], ?_, List.forall_mem_cons.mpr ⟨?_, fun _ h => absurd h List.not_mem_nil⟩⟩
      ·
        exact ⟨rfl, ⟨(Int32.ofInt 0), rfl, (by omega), (by omega), (by first | exact ⟨rfl, fun _ _ => rfl, fun h9 => absurd h9 (by omega)⟩ | exact vg_cpstep None (by decide) (by omega) None rfl), i0⟩, trivial⟩
      ·
        intro L s5 hL
        obtain ⟨w1, rfl, b2, b3, x4, i6⟩ := hL
        refine And.intro (fun c8 => ?_) (fun c8 => ?_)
        · have c8 : (Int32.ofInt 481).toInt ≤ w1.toInt := c8
          show (s5.1 = s0.1 ∧ s5.2 56 0 = s0.2 57 0 ∧ ∀ k, k ≠ 56 → s5.2 k = s0.2 k)
          exact (⟨x4.1, x4.2.2 (by omega), x4.2.1⟩)
        · have c8 : ¬ ((Int32.ofInt 481).toInt ≤ w1.toInt) := c8
          refine And.intro ⟨by omega, by omega⟩ ?_
          intro v9 e10
          refine And.intro ⟨by omega, by omega⟩ ?_
          intro s11 e12
          have i13 : Iv s11 := Iv.u2 i6 e12
          intro v15 e16
          have b17 := vg_add e16 (by omega) (by omega)
          exact ⟨rfl, ⟨v15, rfl, (by omega), (by omega), (by first | exact ⟨rfl, fun _ _ => rfl, fun h9 => absurd h9 (by omega)⟩ | exact vg_cpstep x4 (by decide) (by omega) e10 e12), i13⟩, (by show (0 + (481 - v15.toInt) * 1000000000000).toNat < (0 + (481 - w1.toInt) * 1000000000000).toNat; omega)⟩
    ·
      exact absurd rfl p0
    ·
      have z0 : (Int32.ofInt 0).toInt = 0 := by decide
      have z1 : (Int32.ofInt 1).toInt = 1 := by decide
      have z481 : (Int32.ofInt 481).toInt = 481 := by decide
      refine ⟨Nat.le_of_ble_eq_true rfl, [(2, [true, true, true], (fun L t => ∃ (x2 : Int32), L = [some (.ref 57), some (.ref 67), some (.int x2)] ∧ (0 : Int) ≤ x2.toInt ∧ x2.toInt ≤ (481 : Int) ∧ (t.1 = s0.1 ∧ (∀ k, k ≠ 67 → t.2 k = s0.2 k) ∧ (0 < x2.toInt → t.2 67 0 = s0.2 57 0)) ∧ Iv t), (fun L _ => (0 + (481 - (vg_li L 2).toInt) * 1000000000000).toNat))], ?_, List.forall_mem_cons.mpr ⟨?_, fun _ h => absurd h List.not_mem_nil⟩⟩
      ·
        exact ⟨rfl, ⟨(Int32.ofInt 0), rfl, (by omega), (by omega), (by first | exact ⟨rfl, fun _ _ => rfl, fun h9 => absurd h9 (by omega)⟩ | exact vg_cpstep None (by decide) (by omega) None rfl), i0⟩, trivial⟩
      ·
        intro L s5 hL
        obtain ⟨w1, rfl, b2, b3, x4, i6⟩ := hL
        refine And.intro (fun c8 => ?_) (fun c8 => ?_)
        · have c8 : (Int32.ofInt 481).toInt ≤ w1.toInt := c8
          show (s5.1 = s0.1 ∧ s5.2 67 0 = s0.2 57 0 ∧ ∀ k, k ≠ 67 → s5.2 k = s0.2 k)
          exact (⟨x4.1, x4.2.2 (by omega), x4.2.1⟩)
        · have c8 : ¬ ((Int32.ofInt 481).toInt ≤ w1.toInt) := c8
          refine And.intro ⟨by omega, by omega⟩ ?_
          intro v9 e10
          refine And.intro ⟨by omega, by omega⟩ ?_
          intro s11 e12
          have i13 : Iv s11 := Iv.u2 i6 e12
          intro v15 e16
          have b17 := vg_add e16 (by omega) (by omega)
          exact ⟨rfl, ⟨v15, rfl, (by omega), (by omega), (by first | exact ⟨rfl, fun _ _ => rfl, fun h9 => absurd h9 (by omega)⟩ | exact vg_cpstep x4 (by decide) (by omega) e10 e12), i13⟩, (by show (0 + (481 - v15.toInt) * 1000000000000).toNat < (0 + (481 - w1.toInt) * 1000000000000).toNat; omega)⟩
  ·
    simp only [List.mem_cons, List.not_mem_nil, or_false] at ha2
    rcases ha2 with rfl | rfl | rfl
    ·
      have z0 : (Int32.ofInt 0).toInt = 0 := by decide
      have z1 : (Int32.ofInt 1).toInt = 1 := by decide
      have z481 : (Int32.ofInt 481).toInt = 481 := by decide
      refine ⟨Nat.le_of_ble_eq_true rfl, [(2, [true, true, true], (fun L t => ∃ (x2 : Int32), L = [some (.ref 67), some (.ref 56), some (.int x2)] ∧ (0 : Int) ≤ x2.toInt ∧ x2.toInt ≤ (481 : Int) ∧ (t.1 = s0.1 ∧ (∀ k, k ≠ 56 → t.2 k = s0.2 k) ∧ (0 < x2.toInt → t.2 56 0 = s0.2 67 0)) ∧ Iv t), (fun L _ => (0 + (481 - (vg_li L 2).toInt) * 1000000000000).toNat))], ?_, List.forall_mem_cons.mpr ⟨?_, fun _ h => absurd h List.not_mem_nil⟩⟩
      ·
        exact ⟨rfl, ⟨(Int32.ofInt 0), rfl, (by omega), (by omega), (by first | exact ⟨rfl, fun _ _ => rfl, fun h9 => absurd h9 (by omega)⟩ | exact vg_cpstep None (by decide) (by omega) None rfl), i0⟩, trivial⟩
      ·
        intro L s5 hL
        obtain ⟨w1, rfl, b2, b3, x4, i6⟩ := hL
        refine And.intro (fun c8 => ?_) (fun c8 => ?_)
        · have c8 : (Int32.ofInt 481).toInt ≤ w1.toInt := c8
          show (s5.1 = s0.1 ∧ s5.2 56 0 = s0.2 67 0 ∧ ∀ k, k ≠ 56 → s5.2 k = s0.2 k)
          exact (⟨x4.1, x4.2.2 (by omega), x4.2.1⟩)
        · have c8 : ¬ ((Int32.ofInt 481).toInt ≤ w1.toInt) := c8
          refine And.intro ⟨by omega, by omega⟩ ?_
          intro v9 e10
          refine And.intro ⟨by omega, by omega⟩ ?_
          intro s11 e12
          have i13 : Iv s11 := Iv.u2 i6 e12
          intro v15 e16
          have b17 := vg_add e16 (by omega) (by omega)
          exact ⟨rfl, ⟨v15, rfl, (by omega), (by omega), (by first | exact ⟨rfl, fun _ _ => rfl, fun h9 => absurd h9 (by omega)⟩ | exact vg_cpstep x4 (by decide) (by omega) e10 e12), i13⟩, (by show (0 + (481 - v15.toInt) * 1000000000000).toNat < (0 + (481 - w1.toInt) * 1000000000000).toNat; omega)⟩
    ·
      have z0 : (Int32.ofInt 0).toInt = 0 := by decide
      have z1 : (Int32.ofInt 1).toInt = 1 := by decide
      have z481 : (Int32.ofInt 481).toInt = 481 := by decide
      refine ⟨Nat.le_of_ble_eq_true rfl, [(2, [true, true, true], (fun L t => ∃ (x2 : Int32), L = [some (.ref 67), some (.ref 57), some (.int x2)] ∧ (0 : Int) ≤ x2.toInt ∧ x2.toInt ≤ (481 : Int) ∧ (t.1 = s0.1 ∧ (∀ k, k ≠ 57 → t.2 k = s0.2 k) ∧ (0 < x2.toInt → t.2 57 0 = s0.2 67 0)) ∧ Iv t), (fun L _ => (0 + (481 - (vg_li L 2).toInt) * 1000000000000).toNat))], ?_, List.forall_mem_cons.mpr ⟨?_, fun _ h => absurd h List.not_mem_nil⟩⟩
      ·
        exact ⟨rfl, ⟨(Int32.ofInt 0), rfl, (by omega), (by omega), (by first | exact ⟨rfl, fun _ _ => rfl, fun h9 => absurd h9 (by omega)⟩ | exact vg_cpstep None (by decide) (by omega) None rfl), i0⟩, trivial⟩
      ·
        intro L s5 hL
        obtain ⟨w1, rfl, b2, b3, x4, i6⟩ := hL
        refine And.intro (fun c8 => ?_) (fun c8 => ?_)
        · have c8 : (Int32.ofInt 481).toInt ≤ w1.toInt := c8
          show (s5.1 = s0.1 ∧ s5.2 57 0 = s0.2 67 0 ∧ ∀ k, k ≠ 57 → s5.2 k = s0.2 k)
          exact (⟨x4.1, x4.2.2 (by omega), x4.2.1⟩)
        · have c8 : ¬ ((Int32.ofInt 481).toInt ≤ w1.toInt) := c8
          refine And.intro ⟨by omega, by omega⟩ ?_
          intro v9 e10
          refine And.intro ⟨by omega, by omega⟩ ?_
          intro s11 e12
          have i13 : Iv s11 := Iv.u2 i6 e12
          intro v15 e16
          have b17 := vg_add e16 (by omega) (by omega)
          exact ⟨rfl, ⟨v15, rfl, (by omega), (by omega), (by first | exact ⟨rfl, fun _ _ => rfl, fun h9 => absurd h9 (by omega)⟩ | exact vg_cpstep x4 (by decide) (by omega) e10 e12), i13⟩, (by show (0 + (481 - v15.toInt) * 1000000000000).toNat < (0 + (481 - w1.toInt) * 1000000000000).toNat; omega)⟩
    ·
      exact absurd rfl p0
def o_X11_wipes : List vg_I := [(0, .iload_n 1, 1, 0, 0, 0, 0), (1, .istore_n 3, 1, 0, 0, 0, 0), (2, .iload_n 3, 1, 0, 0, 0, 0), (3, .iload_n 1, 1, 0, 0, 0, 0), (4, .iload_n 2, 1, 0, 0, 0, 0), (5, .iadd, 1, 0, 0, 0, 0), (6, .if_icmp .ge 16, 3, 0, 0, 0, 0), (9, .aload_n 0, 1, 0, 0, 0, 0), (10, .getfield 7, 3, 1061, 11, 0, 0), (13, .iload_n 3, 1, 0, 0, 0, 0), (14, .lconst 0, 1, 0, 0, 0, 0), (15, .lastore, 1, 0, 0, 0, 0), (16, .iinc 3 1, 3, 0, 0, 0, 0), (19, .goto (-17), 3, 0, 0, 0, 0), (22, .return_, 1, 0, 0, 0, 0)]
set_option maxRecDepth 100000 in
set_option maxHeartbeats 4000000 in
theorem c_X11_wipes (l : Launch) (G : vg_G) (hp : vg_Hp G) : vg_Ct l G vg_sh r_X11_wipes := by
  refine vg_meth hp vg_sh_ok r_X11_wipes k_X11_wipes rfl (fun h => by cases h) o_X11_wipes [] false (by decide +kernel) (by decide +kernel) ⟨_, _, rfl, rfl⟩ (fun _ h => absurd h List.not_mem_nil) (fun h => by cases h) 600 ?_
  intro as s0 hpre
  obtain ⟨r, a1, a2, rfl, hr, i0, p0⟩ := hpre
  simp only [List.mem_cons, List.not_mem_nil, or_false] at hr
  rcases hr with rfl
  ·
    have z1 : (Int32.ofInt 1).toInt = 1 := by decide
    refine ⟨Nat.le_of_ble_eq_true rfl, [(2, [true, true, true, true], (fun L t => ∃ (x3 : Int32), L = [some (.ref 55), some (.int a1), some (.int a2), some (.int x3)] ∧ (1 : Int) ≤ x3.toInt ∧ x3.toInt ≤ (481 : Int) ∧ Iv t ∧ Kp s0 t), (fun L _ => (481 - (vg_li L 3).toInt).toNat))], ?_, List.forall_mem_cons.mpr ⟨?_, fun _ h => absurd h List.not_mem_nil⟩⟩
    ·
      exact ⟨rfl, ⟨a1, rfl, (by omega), (by omega), i0, Kx.rf⟩, trivial⟩
    ·
      intro L s4 hL
      obtain ⟨w1, rfl, b2, b3, i5, k6⟩ := hL
      intro v7 e8
      have b9 := vg_add e8 (by omega) (by omega)
      refine And.intro (fun c10 => ?_) (fun c10 => ?_)
      · have c10 : v7.toInt ≤ w1.toInt := c10
        show Iv s4 ∧ Kp s0 s4 ∧ (True)
        exact ⟨i5, k6, (trivial)⟩
      · have c10 : ¬ (v7.toInt ≤ w1.toInt) := c10
        refine And.intro ⟨by omega, by omega⟩ ?_
        intro s11 e12
        have i13 : Iv s11 := Iv.u2 i5 e12
        have k14 : Kp s0 s11 := Kx.u2 k6 e12 (vg_kq_pos (by omega)).1
        intro v15 e16
        have b17 := vg_add e16 (by omega) (by omega)
        exact ⟨rfl, ⟨v15, rfl, (by omega), (by omega), i13, k14⟩, (by show (481 - v15.toInt).toNat < (481 - w1.toInt).toNat; omega)⟩
def o_X11_beginsLoop : List vg_I := [(0, .aload_n 0, 1, 0, 0, 0, 0), (1, .getfield 7, 3, 1061, 11, 0, 0), (4, .iconst 1, 1, 0, 0, 0, 0), (5, .aload_n 0, 1, 0, 0, 0, 0), (6, .getfield 96, 3, 1074, 11, 13, 0), (9, .i2l, 1, 0, 0, 0, 0), (10, .lastore, 1, 0, 0, 0, 0), (11, .aload_n 0, 1, 0, 0, 0, 0), (12, .iconst 2, 1, 0, 0, 0, 0), (13, .bipush 8, 2, 0, 0, 0, 0), (15, .invokevirtual 80, 3, 0, 11, 2, 1189), (18, .aload_n 0, 1, 0, 0, 0, 0), (19, .bipush 23, 2, 0, 0, 0, 0), (21, .bipush 16, 2, 0, 0, 0, 0), (23, .invokevirtual 80, 3, 0, 11, 2, 1189), (26, .aload_n 0, 1, 0, 0, 0, 0), (27, .getfield 7, 3, 1061, 11, 0, 0), (30, .sipush 144, 3, 0, 0, 0, 0), (33, .lconst 0, 1, 0, 0, 0, 0), (34, .lastore, 1, 0, 0, 0, 0), (35, .return_, 1, 0, 0, 0, 0)]
set_option maxRecDepth 100000 in
set_option maxHeartbeats 4000000 in
theorem c_X11_beginsLoop (l : Launch) (G : vg_G) (hp : vg_Hp G) : vg_Ct l G vg_sh r_X11_beginsLoop := by
  refine vg_meth hp vg_sh_ok r_X11_beginsLoop k_X11_beginsLoop rfl (fun h => by cases h) o_X11_beginsLoop [r_X11_wipes] false (by decide +kernel) (by decide +kernel) ⟨_, _, rfl, rfl⟩ (List.forall_mem_cons.mpr ⟨⟨c_X11_wipes l G hp, Nat.le_of_ble_eq_true rfl, Nat.le_of_ble_eq_true rfl⟩, fun _ h => absurd h List.not_mem_nil⟩) (fun h => by cases h) 600 ?_
  intro as s0 hpre
  obtain ⟨r, rfl, hr, i0⟩ := hpre
  simp only [List.mem_cons, List.not_mem_nil, or_false] at hr
  rcases hr with rfl
  ·
    have z1 : (Int32.ofInt 1).toInt = 1 := by decide
    have z2 : (Int32.ofInt 2).toInt = 2 := by decide
    have z8 : (Int32.ofInt 8).toInt = 8 := by decide
    have z16 : (Int32.ofInt 16).toInt = 16 := by decide
    have z23 : (Int32.ofInt 23).toInt = 23 := by decide
    have z144 : (Int32.ofInt 144).toInt = 144 := by decide
    refine ⟨Nat.le_of_ble_eq_true rfl, [], ?_, fun _ h => absurd h List.not_mem_nil⟩
    ·
      intro v1 e2
      have g3 : s0.1 55 13 = v1 := by rw [e2]
      intro v4 e5
      refine And.intro ⟨by omega, by omega⟩ ?_
      intro s6 e7
      have i8 : Iv s6 := Iv.u2 i0 e7
      have k9 : Kp s0 s6 := Kx.u2 Kx.rf e7 (vg_kq_pos (by omega)).1
      refine And.intro (Nat.le_of_ble_eq_true rfl) (And.intro ⟨55, (Int32.ofInt 2), (Int32.ofInt 8), rfl, by decide, i8, by omega⟩ ?_)
      intro s11 h10
      have h10 : Iv s11 ∧ Kp s6 s11 ∧ (True) := h10
      have i12 := h10.1
      have k13 : Kp s0 s11 := Kx.tr k9 (h10.2.1)
      refine And.intro (Nat.le_of_ble_eq_true rfl) (And.intro ⟨55, (Int32.ofInt 23), (Int32.ofInt 16), rfl, by decide, i12, by omega⟩ ?_)
      intro s15 h14
      have h14 : Iv s15 ∧ Kp s11 s15 ∧ (True) := h14
      have i16 := h14.1
      have k17 : Kp s0 s15 := Kx.tr k13 (h14.2.1)
      refine And.intro ⟨by omega, by omega⟩ ?_
      intro s18 e19
      have i20 : Iv s18 := Iv.u2 i16 e19
      have k21 : Kp s0 s18 := Kx.u2 k17 e19 (vg_kq_pos (by omega)).1
      show Iv s18 ∧ Kp s0 s18 ∧ (True)
      exact ⟨i20, k21, (trivial)⟩
def o_X11_beginsElements : List vg_I := [(0, .aload_n 0, 1, 0, 0, 0, 0), (1, .bipush 10, 2, 0, 0, 0, 0), (3, .iconst 3, 1, 0, 0, 0, 0), (4, .invokevirtual 80, 3, 0, 11, 2, 1189), (7, .aload_n 0, 1, 0, 0, 0, 0), (8, .bipush 39, 2, 0, 0, 0, 0), (10, .bipush 49, 2, 0, 0, 0, 0), (12, .invokevirtual 80, 3, 0, 11, 2, 1189), (15, .return_, 1, 0, 0, 0, 0)]
set_option maxRecDepth 100000 in
set_option maxHeartbeats 4000000 in
theorem c_X11_beginsElements (l : Launch) (G : vg_G) (hp : vg_Hp G) : vg_Ct l G vg_sh r_X11_beginsElements := by
  refine vg_meth hp vg_sh_ok r_X11_beginsElements k_X11_beginsElements rfl (fun h => by cases h) o_X11_beginsElements [r_X11_wipes] false (by decide +kernel) (by decide +kernel) ⟨_, _, rfl, rfl⟩ (List.forall_mem_cons.mpr ⟨⟨c_X11_wipes l G hp, Nat.le_of_ble_eq_true rfl, Nat.le_of_ble_eq_true rfl⟩, fun _ h => absurd h List.not_mem_nil⟩) (fun h => by cases h) 600 ?_
  intro as s0 hpre
  obtain ⟨r, rfl, hr, i0⟩ := hpre
  simp only [List.mem_cons, List.not_mem_nil, or_false] at hr
  rcases hr with rfl
  ·
    have z3 : (Int32.ofInt 3).toInt = 3 := by decide
    have z10 : (Int32.ofInt 10).toInt = 10 := by decide
    have z39 : (Int32.ofInt 39).toInt = 39 := by decide
    have z49 : (Int32.ofInt 49).toInt = 49 := by decide
    refine ⟨Nat.le_of_ble_eq_true rfl, [], ?_, fun _ h => absurd h List.not_mem_nil⟩
    ·
      refine And.intro (Nat.le_of_ble_eq_true rfl) (And.intro ⟨55, (Int32.ofInt 10), (Int32.ofInt 3), rfl, by decide, i0, by omega⟩ ?_)
      intro s2 h1
      have h1 : Iv s2 ∧ Kp s0 s2 ∧ (True) := h1
      have i3 := h1.1
      have k4 : Kp s0 s2 := Kx.tr Kx.rf (h1.2.1)
      refine And.intro (Nat.le_of_ble_eq_true rfl) (And.intro ⟨55, (Int32.ofInt 39), (Int32.ofInt 49), rfl, by decide, i3, by omega⟩ ?_)
      intro s6 h5
      have h5 : Iv s6 ∧ Kp s2 s6 ∧ (True) := h5
      have i7 := h5.1
      have k8 : Kp s0 s6 := Kx.tr k4 (h5.2.1)
      show Iv s6 ∧ Kp s0 s6 ∧ (True)
      exact ⟨i7, k8, (trivial)⟩
def o_X11_begins : List vg_I := [(0, .iload_n 1, 1, 0, 0, 0, 0), (1, .istore_n 2, 1, 0, 0, 0, 0), (2, .iload_n 2, 1, 0, 0, 0, 0), (3, .bipush 7, 2, 0, 0, 0, 0), (5, .if_icmp .ge 33, 3, 0, 0, 0, 0), (8, .aload_n 0, 1, 0, 0, 0, 0), (9, .getfield 7, 3, 1061, 11, 0, 0), (12, .bipush 16, 2, 0, 0, 0, 0), (14, .iload_n 2, 1, 0, 0, 0, 0), (15, .iadd, 1, 0, 0, 0, 0), (16, .lconst 0, 1, 0, 0, 0, 0), (17, .lastore, 1, 0, 0, 0, 0), (18, .aload_n 0, 1, 0, 0, 0, 0), (19, .sipush 145, 3, 0, 0, 0, 0), (22, .bipush 48, 2, 0, 0, 0, 0), (24, .iload_n 2, 1, 0, 0, 0, 0), (25, .imul, 1, 0, 0, 0, 0), (26, .iadd, 1, 0, 0, 0, 0), (27, .bipush 48, 2, 0, 0, 0, 0), (29, .invokevirtual 80, 3, 0, 11, 2, 1189), (32, .iinc 2 1, 3, 0, 0, 0, 0), (35, .goto (-33), 3, 0, 0, 0, 0), (38, .iload_n 1, 1, 0, 0, 0, 0), (39, .iconst 1, 1, 0, 0, 0, 0), (40, .if_icmp .gt 7, 3, 0, 0, 0, 0), (43, .aload_n 0, 1, 0, 0, 0, 0), (44, .invokevirtual 84, 3, 1, 11, 0, 1193), (47, .iload_n 1, 1, 0, 0, 0, 0), (48, .iconst 2, 1, 0, 0, 0, 0), (49, .if_icmp .gt 7, 3, 0, 0, 0, 0), (52, .aload_n 0, 1, 0, 0, 0, 0), (53, .invokevirtual 87, 3, 2, 11, 0, 1197), (56, .iload_n 1, 1, 0, 0, 0, 0), (57, .iconst 3, 1, 0, 0, 0, 0), (58, .if_icmp .gt 18, 3, 0, 0, 0, 0), (61, .aload_n 0, 1, 0, 0, 0, 0), (62, .bipush 13, 2, 0, 0, 0, 0), (64, .iconst 3, 1, 0, 0, 0, 0), (65, .invokevirtual 80, 3, 0, 11, 2, 1189), (68, .aload_n 0, 1, 0, 0, 0, 0), (69, .bipush 88, 2, 0, 0, 0, 0), (71, .bipush 20, 2, 0, 0, 0, 0), (73, .invokevirtual 80, 3, 0, 11, 2, 1189), (76, .iconst 0, 1, 0, 0, 0, 0), (77, .iload_n 1, 1, 0, 0, 0, 0), (78, .iconst 4, 1, 0, 0, 0, 0), (79, .isub, 1, 0, 0, 0, 0), (80, .invokestatic 90, 3, 3, 1, 2, 1201), (83, .istore_n 2, 1, 0, 0, 0, 0), (84, .iload_n 2, 1, 0, 0, 0, 0), (85, .iconst 3, 1, 0, 0, 0, 0), (86, .if_icmp .ge 32, 3, 0, 0, 0, 0), (89, .aload_n 0, 1, 0, 0, 0, 0), (90, .getfield 7, 3, 1061, 11, 0, 0), (93, .bipush 108, 2, 0, 0, 0, 0), (95, .iload_n 2, 1, 0, 0, 0, 0), (96, .iadd, 1, 0, 0, 0, 0), (97, .lconst 0, 1, 0, 0, 0, 0), (98, .lastore, 1, 0, 0, 0, 0), (99, .aload_n 0, 1, 0, 0, 0, 0), (100, .bipush 111, 2, 0, 0, 0, 0), (102, .bipush 11, 2, 0, 0, 0, 0), (104, .iload_n 2, 1, 0, 0, 0, 0), (105, .imul, 1, 0, 0, 0, 0), (106, .iadd, 1, 0, 0, 0, 0), (107, .bipush 11, 2, 0, 0, 0, 0), (109, .invokevirtual 80, 3, 0, 11, 2, 1189), (112, .iinc 2 1, 3, 0, 0, 0, 0), (115, .goto (-31), 3, 0, 0, 0, 0), (118, .return_, 1, 0, 0, 0, 0)]
set_option maxRecDepth 100000 in
set_option maxHeartbeats 4000000 in
theorem c_X11_begins (l : Launch) (G : vg_G) (hp : vg_Hp G) : vg_Ct l G vg_sh r_X11_begins := by
  refine vg_meth hp vg_sh_ok r_X11_begins k_X11_begins rfl (fun h => by cases h) o_X11_begins [r_X11_wipes, r_X11_beginsLoop, r_X11_beginsElements, r_J9_max_7cf53] false (by decide +kernel) (by decide +kernel) ⟨_, _, rfl, rfl⟩ (List.forall_mem_cons.mpr ⟨⟨c_X11_wipes l G hp, Nat.le_of_ble_eq_true rfl, Nat.le_of_ble_eq_true rfl⟩, List.forall_mem_cons.mpr ⟨⟨c_X11_beginsLoop l G hp, Nat.le_of_ble_eq_true rfl, Nat.le_of_ble_eq_true rfl⟩, List.forall_mem_cons.mpr ⟨⟨c_X11_beginsElements l G hp, Nat.le_of_ble_eq_true rfl, Nat.le_of_ble_eq_true rfl⟩, List.forall_mem_cons.mpr ⟨⟨c_J9_max_7cf53 l G hp, Nat.le_of_ble_eq_true rfl, Nat.le_of_ble_eq_true rfl⟩, fun _ h => absurd h List.not_mem_nil⟩⟩⟩⟩) (fun h => by cases h) 600 ?_
  intro as s0 hpre
  obtain ⟨r, a1, rfl, hr, i0, p0⟩ := hpre
  simp only [List.mem_cons, List.not_mem_nil, or_false] at hr
  rcases hr with rfl
  ·
    have z0 : (Int32.ofInt 0).toInt = 0 := by decide
    have z1 : (Int32.ofInt 1).toInt = 1 := by decide
    have z2 : (Int32.ofInt 2).toInt = 2 := by decide
    have z3 : (Int32.ofInt 3).toInt = 3 := by decide
    have z4 : (Int32.ofInt 4).toInt = 4 := by decide
    have z7 : (Int32.ofInt 7).toInt = 7 := by decide
    have z11 : (Int32.ofInt 11).toInt = 11 := by decide
    have z13 : (Int32.ofInt 13).toInt = 13 := by decide
    have z16 : (Int32.ofInt 16).toInt = 16 := by decide
    have z20 : (Int32.ofInt 20).toInt = 20 := by decide
    have z48 : (Int32.ofInt 48).toInt = 48 := by decide
    have z88 : (Int32.ofInt 88).toInt = 88 := by decide
    have z108 : (Int32.ofInt 108).toInt = 108 := by decide
    have z111 : (Int32.ofInt 111).toInt = 111 := by decide
    have z145 : (Int32.ofInt 145).toInt = 145 := by decide
    refine ⟨Nat.le_of_ble_eq_true rfl, [(2, [true, true, true], (fun L t => ∃ (x2 : Int32), L = [some (.ref 55), some (.int a1), some (.int x2)] ∧ (0 : Int) ≤ x2.toInt ∧ x2.toInt ≤ (7 : Int) ∧ Iv t ∧ Kp s0 t), (fun L _ => (10000000000000000 + (7 - (vg_li L 2).toInt) * 1000000000000).toNat)), (84, [true, false, true], (fun L t => ∃ (x2 : Int32), L = [some (.ref 55), none, some (.int x2)] ∧ (0 : Int) ≤ x2.toInt ∧ x2.toInt ≤ (3 : Int) ∧ Iv t ∧ Kp s0 t), (fun L _ => (0 + (3 - (vg_li L 2).toInt) * 1000000000000).toNat))], ?_, List.forall_mem_cons.mpr ⟨?_, List.forall_mem_cons.mpr ⟨?_, fun _ h => absurd h List.not_mem_nil⟩⟩⟩
    ·
      exact ⟨rfl, ⟨a1, rfl, (by omega), (by omega), i0, Kx.rf⟩, trivial⟩
    ·
      intro L s4 hL
      obtain ⟨w1, rfl, b2, b3, i5, k6⟩ := hL
      refine And.intro (fun c7 => ?_) (fun c7 => ?_)
      · have c7 : (Int32.ofInt 7).toInt ≤ w1.toInt := c7
        refine And.intro (fun c8 => ?_) (fun c8 => ?_)
        · have c8 : (Int32.ofInt 1).toInt < a1.toInt := c8
          refine And.intro (fun c9 => ?_) (fun c9 => ?_)
          · have c9 : (Int32.ofInt 2).toInt < a1.toInt := c9
            refine And.intro (fun c10 => ?_) (fun c10 => ?_)
            · have c10 : (Int32.ofInt 3).toInt < a1.toInt := c10
              intro v11 e12
              have b13 := vg_sub e12 (by omega) (by omega)
              refine And.intro (Nat.le_of_ble_eq_true rfl) (And.intro ⟨(Int32.ofInt 0), v11, rfl, trivial⟩ ?_)
              intro v14 s16 h15
              have h15 : s16 = s4 ∧ ((Int32.ofInt 0).toInt ≤ v14.toInt ∧ v11.toInt ≤ v14.toInt ∧ (v14.toInt = (Int32.ofInt 0).toInt ∨ v14.toInt = v11.toInt)) := h15
              have q19 := h15.1.symm
              subst q19
              have q20 := h15.2
              exact ⟨rfl, ⟨v14, rfl, (by omega), (by omega), i5, k6⟩, (by show (0 + (3 - v14.toInt) * 1000000000000).toNat < (10000000000000000 + (7 - w1.toInt) * 1000000000000).toNat; omega)⟩
            · have c10 : ¬ ((Int32.ofInt 3).toInt < a1.toInt) := c10
              refine And.intro (Nat.le_of_ble_eq_true rfl) (And.intro ⟨55, (Int32.ofInt 13), (Int32.ofInt 3), rfl, by decide, i5, by omega⟩ ?_)
              intro s22 h21
              have h21 : Iv s22 ∧ Kp s4 s22 ∧ (True) := h21
              have i23 := h21.1
              have k24 : Kp s0 s22 := Kx.tr k6 (h21.2.1)
              refine And.intro (Nat.le_of_ble_eq_true rfl) (And.intro ⟨55, (Int32.ofInt 88), (Int32.ofInt 20), rfl, by decide, i23, by omega⟩ ?_)
              intro s26 h25
              have h25 : Iv s26 ∧ Kp s22 s26 ∧ (True) := h25
              have i27 := h25.1
              have k28 : Kp s0 s26 := Kx.tr k24 (h25.2.1)
              intro v29 e30
              have b31 := vg_sub e30 (by omega) (by omega)
              refine And.intro (Nat.le_of_ble_eq_true rfl) (And.intro ⟨(Int32.ofInt 0), v29, rfl, trivial⟩ ?_)
              intro v32 s34 h33
              have h33 : s34 = s26 ∧ ((Int32.ofInt 0).toInt ≤ v32.toInt ∧ v29.toInt ≤ v32.toInt ∧ (v32.toInt = (Int32.ofInt 0).toInt ∨ v32.toInt = v29.toInt)) := h33
              have q37 := h33.1.symm
              subst q37
              have q38 := h33.2
              exact ⟨rfl, ⟨v32, rfl, (by omega), (by omega), i27, k28⟩, (by show (0 + (3 - v32.toInt) * 1000000000000).toNat < (10000000000000000 + (7 - w1.toInt) * 1000000000000).toNat; omega)⟩
          · have c9 : ¬ ((Int32.ofInt 2).toInt < a1.toInt) := c9
            refine And.intro (Nat.le_of_ble_eq_true rfl) (And.intro ⟨55, rfl, by decide, i5⟩ ?_)
            intro s40 h39
            have h39 : Iv s40 ∧ Kp s4 s40 ∧ (True) := h39
            have i41 := h39.1
            have k42 : Kp s0 s40 := Kx.tr k6 (h39.2.1)
            refine And.intro (fun c43 => ?_) (fun c43 => ?_)
            · have c43 : (Int32.ofInt 3).toInt < a1.toInt := c43
              exfalso
              omega
            · have c43 : ¬ ((Int32.ofInt 3).toInt < a1.toInt) := c43
              refine And.intro (Nat.le_of_ble_eq_true rfl) (And.intro ⟨55, (Int32.ofInt 13), (Int32.ofInt 3), rfl, by decide, i41, by omega⟩ ?_)
              intro s45 h44
              have h44 : Iv s45 ∧ Kp s40 s45 ∧ (True) := h44
              have i46 := h44.1
              have k47 : Kp s0 s45 := Kx.tr k42 (h44.2.1)
              refine And.intro (Nat.le_of_ble_eq_true rfl) (And.intro ⟨55, (Int32.ofInt 88), (Int32.ofInt 20), rfl, by decide, i46, by omega⟩ ?_)
              intro s49 h48
              have h48 : Iv s49 ∧ Kp s45 s49 ∧ (True) := h48
              have i50 := h48.1
              have k51 : Kp s0 s49 := Kx.tr k47 (h48.2.1)
              intro v52 e53
              have b54 := vg_sub e53 (by omega) (by omega)
              refine And.intro (Nat.le_of_ble_eq_true rfl) (And.intro ⟨(Int32.ofInt 0), v52, rfl, trivial⟩ ?_)
              intro v55 s57 h56
              have h56 : s57 = s49 ∧ ((Int32.ofInt 0).toInt ≤ v55.toInt ∧ v52.toInt ≤ v55.toInt ∧ (v55.toInt = (Int32.ofInt 0).toInt ∨ v55.toInt = v52.toInt)) := h56
              have q60 := h56.1.symm
              subst q60
              have q61 := h56.2
              exact ⟨rfl, ⟨v55, rfl, (by omega), (by omega), i50, k51⟩, (by show (0 + (3 - v55.toInt) * 1000000000000).toNat < (10000000000000000 + (7 - w1.toInt) * 1000000000000).toNat; omega)⟩
        · have c8 : ¬ ((Int32.ofInt 1).toInt < a1.toInt) := c8
          refine And.intro (Nat.le_of_ble_eq_true rfl) (And.intro ⟨55, rfl, by decide, i5⟩ ?_)
          intro s63 h62
          have h62 : Iv s63 ∧ Kp s4 s63 ∧ (True) := h62
          have i64 := h62.1
          have k65 : Kp s0 s63 := Kx.tr k6 (h62.2.1)
          refine And.intro (fun c66 => ?_) (fun c66 => ?_)
          · have c66 : (Int32.ofInt 2).toInt < a1.toInt := c66
            exfalso
            omega
          · have c66 : ¬ ((Int32.ofInt 2).toInt < a1.toInt) := c66
            refine And.intro (Nat.le_of_ble_eq_true rfl) (And.intro ⟨55, rfl, by decide, i64⟩ ?_)
            intro s68 h67
            have h67 : Iv s68 ∧ Kp s63 s68 ∧ (True) := h67
            have i69 := h67.1
            have k70 : Kp s0 s68 := Kx.tr k65 (h67.2.1)
            refine And.intro (fun c71 => ?_) (fun c71 => ?_)
            · have c71 : (Int32.ofInt 3).toInt < a1.toInt := c71
              exfalso
              omega
            · have c71 : ¬ ((Int32.ofInt 3).toInt < a1.toInt) := c71
              refine And.intro (Nat.le_of_ble_eq_true rfl) (And.intro ⟨55, (Int32.ofInt 13), (Int32.ofInt 3), rfl, by decide, i69, by omega⟩ ?_)
              intro s73 h72
              have h72 : Iv s73 ∧ Kp s68 s73 ∧ (True) := h72
              have i74 := h72.1
              have k75 : Kp s0 s73 := Kx.tr k70 (h72.2.1)
              refine And.intro (Nat.le_of_ble_eq_true rfl) (And.intro ⟨55, (Int32.ofInt 88), (Int32.ofInt 20), rfl, by decide, i74, by omega⟩ ?_)
              intro s77 h76
              have h76 : Iv s77 ∧ Kp s73 s77 ∧ (True) := h76
              have i78 := h76.1
              have k79 : Kp s0 s77 := Kx.tr k75 (h76.2.1)
              intro v80 e81
              have b82 := vg_sub e81 (by omega) (by omega)
              refine And.intro (Nat.le_of_ble_eq_true rfl) (And.intro ⟨(Int32.ofInt 0), v80, rfl, trivial⟩ ?_)
              intro v83 s85 h84
              have h84 : s85 = s77 ∧ ((Int32.ofInt 0).toInt ≤ v83.toInt ∧ v80.toInt ≤ v83.toInt ∧ (v83.toInt = (Int32.ofInt 0).toInt ∨ v83.toInt = v80.toInt)) := h84
              have q88 := h84.1.symm
              subst q88
              have q89 := h84.2
              exact ⟨rfl, ⟨v83, rfl, (by omega), (by omega), i78, k79⟩, (by show (0 + (3 - v83.toInt) * 1000000000000).toNat < (10000000000000000 + (7 - w1.toInt) * 1000000000000).toNat; omega)⟩
      · have c7 : ¬ ((Int32.ofInt 7).toInt ≤ w1.toInt) := c7
        intro v90 e91
        have b92 := vg_add e91 (by omega) (by omega)
        refine And.intro ⟨by omega, by omega⟩ ?_
        intro s93 e94
        have i95 : Iv s93 := Iv.u2 i5 e94
        have k96 : Kp s0 s93 := Kx.u2 k6 e94 (vg_kq_pos (by omega)).1
        intro v97 e98
        have b99 : v97.toInt = (48) * w1.toInt := vg_mulL e98 (by omega) (by omega) (by omega)
        intro v100 e101
        have b102 := vg_add e101 (by omega) (by omega)
        refine And.intro (Nat.le_of_ble_eq_true rfl) (And.intro ⟨55, v100, (Int32.ofInt 48), rfl, by decide, i95, by omega⟩ ?_)
        intro s104 h103
        have h103 : Iv s104 ∧ Kp s93 s104 ∧ (True) := h103
        have i105 := h103.1
        have k106 : Kp s0 s104 := Kx.tr k96 (h103.2.1)
        intro v107 e108
        have b109 := vg_add e108 (by omega) (by omega)
        exact ⟨rfl, ⟨v107, rfl, (by omega), (by omega), i105, k106⟩, (by show (10000000000000000 + (7 - v107.toInt) * 1000000000000).toNat < (10000000000000000 + (7 - w1.toInt) * 1000000000000).toNat; omega)⟩
    ·
      intro L s113 hL
      obtain ⟨w110, rfl, b111, b112, i114, k115⟩ := hL
      refine And.intro (fun c116 => ?_) (fun c116 => ?_)
      · have c116 : (Int32.ofInt 3).toInt ≤ w110.toInt := c116
        show Iv s113 ∧ Kp s0 s113 ∧ (True)
        exact ⟨i114, k115, (trivial)⟩
      · have c116 : ¬ ((Int32.ofInt 3).toInt ≤ w110.toInt) := c116
        intro v117 e118
        have b119 := vg_add e118 (by omega) (by omega)
        refine And.intro ⟨by omega, by omega⟩ ?_
        intro s120 e121
        have i122 : Iv s120 := Iv.u2 i114 e121
        have k123 : Kp s0 s120 := Kx.u2 k115 e121 (vg_kq_pos (by omega)).1
        intro v124 e125
        have b126 : v124.toInt = (11) * w110.toInt := vg_mulL e125 (by omega) (by omega) (by omega)
        intro v127 e128
        have b129 := vg_add e128 (by omega) (by omega)
        refine And.intro (Nat.le_of_ble_eq_true rfl) (And.intro ⟨55, v127, (Int32.ofInt 11), rfl, by decide, i122, by omega⟩ ?_)
        intro s131 h130
        have h130 : Iv s131 ∧ Kp s120 s131 ∧ (True) := h130
        have i132 := h130.1
        have k133 : Kp s0 s131 := Kx.tr k123 (h130.2.1)
        intro v134 e135
        have b136 := vg_add e135 (by omega) (by omega)
        exact ⟨rfl, ⟨v134, rfl, (by omega), (by omega), i132, k133⟩, (by show (0 + (3 - v134.toInt) * 1000000000000).toNat < (0 + (3 - w110.toInt) * 1000000000000).toNat; omega)⟩
def o_X11_elements : List vg_I := [(0, .aload_n 0, 1, 0, 0, 0, 0), (1, .getfield 99, 3, 1068, 11, 7, 0), (4, .iconst 2, 1, 0, 0, 0, 0), (5, .if_icmp .ne 21, 3, 0, 0, 0, 0), (8, .aload_n 0, 1, 0, 0, 0, 0), (9, .getfield 26, 3, 1071, 11, 10, 0), (12, .iconst 1, 1, 0, 0, 0, 0), (13, .isub, 1, 0, 0, 0, 0), (14, .iconst 1, 1, 0, 0, 0, 0), (15, .aload_n 0, 1, 0, 0, 0, 0), (16, .getfield 20, 3, 1069, 11, 8, 0), (19, .ishl, 1, 0, 0, 0, 0), (20, .iconst 1, 1, 0, 0, 0, 0), (21, .isub, 1, 0, 0, 0, 0), (22, .imul, 1, 0, 0, 0, 0), (23, .goto 9, 3, 0, 0, 0, 0), (26, .aload_n 0, 1, 0, 0, 0, 0), (27, .getfield 26, 3, 1071, 11, 10, 0), (30, .iconst 1, 1, 0, 0, 0, 0), (31, .isub, 1, 0, 0, 0, 0), (32, .ireturn, 1, 0, 0, 0, 0)]
set_option maxRecDepth 100000 in
set_option maxHeartbeats 4000000 in
theorem c_X11_elements (l : Launch) (G : vg_G) (hp : vg_Hp G) : vg_Ct l G vg_sh r_X11_elements := by
  refine vg_meth hp vg_sh_ok r_X11_elements k_X11_elements rfl (fun h => by cases h) o_X11_elements [] false (by decide +kernel) (by decide +kernel) ⟨_, _, rfl, rfl⟩ (fun _ h => absurd h List.not_mem_nil) (fun h => by cases h) 600 ?_
  intro as s0 hpre
  obtain ⟨r, rfl, hr, i0⟩ := hpre
  simp only [List.mem_cons, List.not_mem_nil, or_false] at hr
  rcases hr with rfl
  ·
    have z1 : (Int32.ofInt 1).toInt = 1 := by decide
    have z2 : (Int32.ofInt 2).toInt = 2 := by decide
    refine ⟨Nat.le_of_ble_eq_true rfl, [], ?_, fun _ h => absurd h List.not_mem_nil⟩
    ·
      intro v1 e2
      have g3 : s0.1 55 7 = v1 := by rw [e2]
      have b4 : v1.toInt = (s0.1 55 7).toInt := congrArg Int32.toInt e2
      refine And.intro (fun c5 => ?_) (fun c5 => ?_)
      · have c5 : ¬ v1.toInt = (Int32.ofInt 2).toInt := c5
        intro v6 e7
        have g8 : s0.1 55 10 = v6 := by rw [e7]
        have b9 : (2 : Int) ≤ v6.toInt ∧ v6.toInt ≤ 17 := by rw [e7]; exact Iv_55_10 i0
        intro v10 e11
        have b12 := vg_sub e11 (by omega) (by omega)
        show s0 = s0 ∧ (v10 = vg_me s0 ∧ 1 ≤ v10.toInt ∧ v10.toInt ≤ 16)
        exact ⟨rfl, (by have h9 : v10 = vg_me s0 := (by simp only [vg_me]; (first | rw [if_pos (by omega)] | rw [if_neg (by omega)]); subst_vars; rfl); have h8 := i0.2; rw [← h9] at h8; exact ⟨h9, h8⟩)⟩
      · have c5 : ¬ (¬ v1.toInt = (Int32.ofInt 2).toInt) := c5
        intro v13 e14
        have g15 : s0.1 55 10 = v13 := by rw [e14]
        have b16 : (2 : Int) ≤ v13.toInt ∧ v13.toInt ≤ 17 := by rw [e14]; exact Iv_55_10 i0
        intro v17 e18
        have b19 := vg_sub e18 (by omega) (by omega)
        intro v20 e21
        have g22 : s0.1 55 8 = v20 := by rw [e21]
        have b23 : (1 : Int) ≤ v20.toInt ∧ v20.toInt ≤ 4 := by rw [e21]; exact Iv_55_8 i0
        intro v24 e25
        have b26 := vg_shl1 e25 (by omega) (by omega) (by omega)
        intro v27 e28
        have b29 := vg_sub e28 (by omega) (by omega)
        intro v30 e31
        have b32 := (vg_mulr e31 (by omega) (by omega) (by omega) (by omega)).2
        show s0 = s0 ∧ (v30 = vg_me s0 ∧ 1 ≤ v30.toInt ∧ v30.toInt ≤ 16)
        exact ⟨rfl, (by have h9 : v30 = vg_me s0 := (by simp only [vg_me]; (first | rw [if_pos (by omega)] | rw [if_neg (by omega)]); subst_vars; rfl); have h8 := i0.2; rw [← h9] at h8; exact ⟨h9, h8⟩)⟩
def o_X11_besides : List vg_I := [(0, .aload_n 0, 1, 0, 0, 0, 0), (1, .getfield 99, 3, 1068, 11, 7, 0), (4, .iconst 2, 1, 0, 0, 0, 0), (5, .if_icmp .ne 23, 3, 0, 0, 0, 0), (8, .aload_n 0, 1, 0, 0, 0, 0), (9, .getfield 26, 3, 1071, 11, 10, 0), (12, .iconst 1, 1, 0, 0, 0, 0), (13, .isub, 1, 0, 0, 0, 0), (14, .iconst 1, 1, 0, 0, 0, 0), (15, .aload_n 0, 1, 0, 0, 0, 0), (16, .getfield 20, 3, 1069, 11, 8, 0), (19, .iconst 1, 1, 0, 0, 0, 0), (20, .isub, 1, 0, 0, 0, 0), (21, .ishl, 1, 0, 0, 0, 0), (22, .iconst 1, 1, 0, 0, 0, 0), (23, .isub, 1, 0, 0, 0, 0), (24, .imul, 1, 0, 0, 0, 0), (25, .goto 4, 3, 0, 0, 0, 0), (28, .iconst 0, 1, 0, 0, 0, 0), (29, .ireturn, 1, 0, 0, 0, 0)]
set_option maxRecDepth 100000 in
set_option maxHeartbeats 4000000 in
theorem c_X11_besides (l : Launch) (G : vg_G) (hp : vg_Hp G) : vg_Ct l G vg_sh r_X11_besides := by
  refine vg_meth hp vg_sh_ok r_X11_besides k_X11_besides rfl (fun h => by cases h) o_X11_besides [] false (by decide +kernel) (by decide +kernel) ⟨_, _, rfl, rfl⟩ (fun _ h => absurd h List.not_mem_nil) (fun h => by cases h) 600 ?_
  intro as s0 hpre
  obtain ⟨r, rfl, hr, i0⟩ := hpre
  simp only [List.mem_cons, List.not_mem_nil, or_false] at hr
  rcases hr with rfl
  ·
    have z0 : (Int32.ofInt 0).toInt = 0 := by decide
    have z1 : (Int32.ofInt 1).toInt = 1 := by decide
    have z2 : (Int32.ofInt 2).toInt = 2 := by decide
    refine ⟨Nat.le_of_ble_eq_true rfl, [], ?_, fun _ h => absurd h List.not_mem_nil⟩
    ·
      intro v1 e2
      have g3 : s0.1 55 7 = v1 := by rw [e2]
      refine And.intro (fun c4 => ?_) (fun c4 => ?_)
      · have c4 : ¬ v1.toInt = (Int32.ofInt 2).toInt := c4
        show s0 = s0 ∧ (True)
        exact ⟨rfl, (trivial)⟩
      · have c4 : ¬ (¬ v1.toInt = (Int32.ofInt 2).toInt) := c4
        intro v5 e6
        have g7 : s0.1 55 10 = v5 := by rw [e6]
        have b8 : (2 : Int) ≤ v5.toInt ∧ v5.toInt ≤ 17 := by rw [e6]; exact Iv_55_10 i0
        intro v9 e10
        have b11 := vg_sub e10 (by omega) (by omega)
        intro v12 e13
        have g14 : s0.1 55 8 = v12 := by rw [e13]
        have b15 : (1 : Int) ≤ v12.toInt ∧ v12.toInt ≤ 4 := by rw [e13]; exact Iv_55_8 i0
        intro v16 e17
        have b18 := vg_sub e17 (by omega) (by omega)
        intro v19 e20
        intro v21 e22
        intro v23 e24
        show s0 = s0 ∧ (True)
        exact ⟨rfl, (trivial)⟩
def o_X11_weight : List vg_I := [(0, .sipush 1000, 3, 0, 0, 0, 0), (3, .aload_n 0, 1, 0, 0, 0, 0), (4, .getfield 46, 3, 1084, 11, 23, 0), (7, .iload_n 1, 1, 0, 0, 0, 0), (8, .iaload, 1, 0, 0, 0, 0), (9, .iadd, 1, 0, 0, 0, 0), (10, .ireturn, 1, 0, 0, 0, 0)]
set_option maxRecDepth 100000 in
set_option maxHeartbeats 4000000 in
theorem c_X11_weight (l : Launch) (G : vg_G) (hp : vg_Hp G) : vg_Ct l G vg_sh r_X11_weight := by
  refine vg_meth hp vg_sh_ok r_X11_weight k_X11_weight rfl (fun h => by cases h) o_X11_weight [] false (by decide +kernel) (by decide +kernel) ⟨_, _, rfl, rfl⟩ (fun _ h => absurd h List.not_mem_nil) (fun h => by cases h) 600 ?_
  intro as s0 hpre
  obtain ⟨r, a1, rfl, hr, i0, p0⟩ := hpre
  simp only [List.mem_cons, List.not_mem_nil, or_false] at hr
  rcases hr with rfl
  ·
    have z1000 : (Int32.ofInt 1000).toInt = 1000 := by decide
    refine ⟨Nat.le_of_ble_eq_true rfl, [], ?_, fun _ h => absurd h List.not_mem_nil⟩
    ·
      refine And.intro ⟨by omega, by omega⟩ ?_
      intro v1 e2
      intro v3 e4
      show s0 = s0 ∧ (v3 = Int32.ofInt 1000 + s0.1 59 a1.toNatClampNeg)
      exact ⟨rfl, (by rw [e4, e2])⟩
def o_X11_weights : List vg_I := [(0, .iconst 0, 1, 0, 0, 0, 0), (1, .istore_n 1, 1, 0, 0, 0, 0), (2, .iconst 0, 1, 0, 0, 0, 0), (3, .istore_n 2, 1, 0, 0, 0, 0), (4, .iload_n 2, 1, 0, 0, 0, 0), (5, .aload_n 0, 1, 0, 0, 0, 0), (6, .invokevirtual 102, 3, 0, 11, 0, 1218), (9, .if_icmp .ge 17, 3, 0, 0, 0, 0), (12, .iload_n 1, 1, 0, 0, 0, 0), (13, .aload_n 0, 1, 0, 0, 0, 0), (14, .iload_n 2, 1, 0, 0, 0, 0), (15, .invokevirtual 106, 3, 1, 11, 1, 1242), (18, .iadd, 1, 0, 0, 0, 0), (19, .istore_n 1, 1, 0, 0, 0, 0), (20, .iinc 2 1, 3, 0, 0, 0, 0), (23, .goto (-19), 3, 0, 0, 0, 0), (26, .iload_n 1, 1, 0, 0, 0, 0), (27, .ireturn, 1, 0, 0, 0, 0)]
set_option maxRecDepth 100000 in
set_option maxHeartbeats 4000000 in
theorem c_X11_weights (l : Launch) (G : vg_G) (hp : vg_Hp G) : vg_Ct l G vg_sh r_X11_weights := by
  refine vg_meth hp vg_sh_ok r_X11_weights k_X11_weights rfl (fun h => by cases h) o_X11_weights [r_X11_elements, r_X11_weight] false (by decide +kernel) (by decide +kernel) ⟨_, _, rfl, rfl⟩ (List.forall_mem_cons.mpr ⟨⟨c_X11_elements l G hp, Nat.le_of_ble_eq_true rfl, Nat.le_of_ble_eq_true rfl⟩, List.forall_mem_cons.mpr ⟨⟨c_X11_weight l G hp, Nat.le_of_ble_eq_true rfl, Nat.le_of_ble_eq_true rfl⟩, fun _ h => absurd h List.not_mem_nil⟩⟩) (fun h => by cases h) 600 ?_
  intro as s0 hpre
  obtain ⟨r, rfl, hr, i0⟩ := hpre
  simp only [List.mem_cons, List.not_mem_nil, or_false] at hr
  rcases hr with rfl
  ·
    have z0 : (Int32.ofInt 0).toInt = 0 := by decide
    have z1 : (Int32.ofInt 1).toInt = 1 := by decide
    refine ⟨Nat.le_of_ble_eq_true rfl, [(4, [true, true, true], (fun L t => ∃ (x1 : Int32) (x2 : Int32), L = [some (.ref 55), some (.int x1), some (.int x2)] ∧ (0 : Int) ≤ x2.toInt ∧ x2.toInt ≤ (16 : Int) ∧ (x1 = vg_ws (s0.1 59) x2.toNatClampNeg ∧ x2.toInt ≤ (vg_me s0).toInt) ∧ t = s0), (fun L _ => (0 + (16 - (vg_li L 2).toInt) * 1000000000000).toNat))], ?_, List.forall_mem_cons.mpr ⟨?_, fun _ h => absurd h List.not_mem_nil⟩⟩
    ·
      exact ⟨rfl, ⟨(Int32.ofInt 0), (Int32.ofInt 0), rfl, (by omega), (by omega), (by first | exact ⟨rfl, by have h9 := i0.2; omega⟩ | exact ⟨vg_ws_step None.1 None None (by omega) (by omega), by omega⟩), rfl⟩, trivial⟩
    ·
      intro L s6 hL
      obtain ⟨w1, w2, rfl, b3, b4, x5, q9⟩ := hL
      have q9 := q9.symm
      subst q9
      refine And.intro (Nat.le_of_ble_eq_true rfl) (And.intro ⟨55, rfl, by decide, i0⟩ ?_)
      intro v10 s12 h11
      have h11 : s12 = s0 ∧ (v10 = vg_me s0 ∧ 1 ≤ v10.toInt ∧ v10.toInt ≤ 16) := h11
      have q15 := h11.1.symm
      subst q15
      have q16 := h11.2
      have y1 := congrArg Int32.toInt q16.1
      refine And.intro (fun c17 => ?_) (fun c17 => ?_)
      · have c17 : v10.toInt ≤ w2.toInt := c17
        show s0 = s0 ∧ (w1 = vg_ws (s0.1 59) (vg_me s0).toNatClampNeg)
        exact ⟨rfl, (vg_ws_at x5.1 (by omega))⟩
      · have c17 : ¬ (v10.toInt ≤ w2.toInt) := c17
        refine And.intro (Nat.le_of_ble_eq_true rfl) (And.intro ⟨55, w2, rfl, by decide, i0, by omega⟩ ?_)
        intro v18 s20 h19
        have h19 : s20 = s0 ∧ (v18 = Int32.ofInt 1000 + s0.1 59 w2.toNatClampNeg) := h19
        have q23 := h19.1.symm
        subst q23
        have q24 := h19.2
        intro v25 e26
        intro v27 e28
        have b29 := vg_add e28 (by omega) (by omega)
        exact ⟨rfl, ⟨v25, v27, rfl, (by omega), (by omega), (by first | exact ⟨rfl, by have h9 := i0.2; omega⟩ | exact ⟨vg_ws_step x5.1 q24 e26 (by omega) (by omega), by omega⟩), rfl⟩, (by show (0 + (16 - v27.toInt) * 1000000000000).toNat < (0 + (16 - w2.toInt) * 1000000000000).toNat; omega)⟩
def o_X11_tells : List vg_I := [(0, .sipush 145, 3, 0, 0, 0, 0), (3, .bipush 48, 2, 0, 0, 0, 0), (5, .iload_n 1, 1, 0, 0, 0, 0), (6, .imul, 1, 0, 0, 0, 0), (7, .iadd, 1, 0, 0, 0, 0), (8, .istore 4, 2, 0, 0, 0, 0), (10, .bipush 47, 2, 0, 0, 0, 0), (12, .istore 5, 2, 0, 0, 0, 0), (14, .iload 5, 2, 0, 0, 0, 0), (16, .ifCond .le 31, 3, 0, 0, 0, 0), (19, .aload_n 0, 1, 0, 0, 0, 0), (20, .getfield 7, 3, 1061, 11, 0, 0), (23, .iload 4, 2, 0, 0, 0, 0), (25, .iload 5, 2, 0, 0, 0, 0), (27, .iadd, 1, 0, 0, 0, 0), (28, .aload_n 0, 1, 0, 0, 0, 0), (29, .getfield 7, 3, 1061, 11, 0, 0), (32, .iload 4, 2, 0, 0, 0, 0), (34, .iload 5, 2, 0, 0, 0, 0), (36, .iadd, 1, 0, 0, 0, 0), (37, .iconst 1, 1, 0, 0, 0, 0), (38, .isub, 1, 0, 0, 0, 0), (39, .laload, 1, 0, 0, 0, 0), (40, .lastore, 1, 0, 0, 0, 0), (41, .iinc 5 (-1), 3, 0, 0, 0, 0), (44, .goto (-30), 3, 0, 0, 0, 0), (47, .aload_n 0, 1, 0, 0, 0, 0), (48, .getfield 7, 3, 1061, 11, 0, 0), (51, .iload 4, 2, 0, 0, 0, 0), (53, .lload_n 2, 1, 0, 0, 0, 0), (54, .lastore, 1, 0, 0, 0, 0), (55, .aload_n 0, 1, 0, 0, 0, 0), (56, .getfield 7, 3, 1061, 11, 0, 0), (59, .bipush 16, 2, 0, 0, 0, 0), (61, .iload_n 1, 1, 0, 0, 0, 0), (62, .iadd, 1, 0, 0, 0, 0), (63, .dup2, 1, 0, 0, 0, 0), (64, .laload, 1, 0, 0, 0, 0), (65, .lconst 1, 1, 0, 0, 0, 0), (66, .ladd, 1, 0, 0, 0, 0), (67, .lastore, 1, 0, 0, 0, 0), (68, .return_, 1, 0, 0, 0, 0)]
set_option maxRecDepth 100000 in
set_option maxHeartbeats 4000000 in
theorem c_X11_tells (l : Launch) (G : vg_G) (hp : vg_Hp G) : vg_Ct l G vg_sh r_X11_tells := by
  refine vg_meth hp vg_sh_ok r_X11_tells k_X11_tells rfl (fun h => by cases h) o_X11_tells [] false (by decide +kernel) (by decide +kernel) ⟨_, _, rfl, rfl⟩ (fun _ h => absurd h List.not_mem_nil) (fun h => by cases h) 600 ?_
  intro as s0 hpre
  obtain ⟨r, a1, a2, rfl, hr, i0, p0⟩ := hpre
  simp only [List.mem_cons, List.not_mem_nil, or_false] at hr
  rcases hr with rfl
  ·
    have zm1 : (Int32.ofInt (-1)).toInt = -1 := by decide
    have z1 : (Int32.ofInt 1).toInt = 1 := by decide
    have z16 : (Int32.ofInt 16).toInt = 16 := by decide
    have z47 : (Int32.ofInt 47).toInt = 47 := by decide
    have z48 : (Int32.ofInt 48).toInt = 48 := by decide
    have z145 : (Int32.ofInt 145).toInt = 145 := by decide
    refine ⟨Nat.le_of_ble_eq_true rfl, [(14, [true, true, true, false, true, true], (fun L t => ∃ (x4 : Int32) (x5 : Int32), L = [some (.ref 55), some (.int a1), some (.long a2), none, some (.int x4), some (.int x5)] ∧ (145 : Int) ≤ x4.toInt ∧ x4.toInt ≤ (433 : Int) ∧ (0 : Int) ≤ x5.toInt ∧ x5.toInt ≤ (47 : Int) ∧ Iv t ∧ Kp s0 t), (fun L _ => (0 + ((vg_li L 5).toInt - (0)) * 1000000000000).toNat))], ?_, List.forall_mem_cons.mpr ⟨?_, fun _ h => absurd h List.not_mem_nil⟩⟩
    ·
      intro v1 e2
      have b3 : v1.toInt = (48) * a1.toInt := vg_mulL e2 (by omega) (by omega) (by omega)
      intro v4 e5
      have b6 := vg_add e5 (by omega) (by omega)
      exact ⟨rfl, ⟨v4, (Int32.ofInt 47), rfl, (by omega), (by omega), (by omega), (by omega), i0, Kx.rf⟩, trivial⟩
    ·
      intro L s13 hL
      obtain ⟨w7, w10, rfl, b8, b9, b11, b12, i14, k15⟩ := hL
      refine And.intro (fun c16 => ?_) (fun c16 => ?_)
      · have c16 : w10.toInt ≤ 0 := c16
        refine And.intro ⟨by omega, by omega⟩ ?_
        intro s17 e18
        have i19 : Iv s17 := Iv.u2 i14 e18
        have k20 : Kp s0 s17 := Kx.u2 k15 e18 (vg_kq_pos (by omega)).1
        intro v21 e22
        have b23 := vg_add e22 (by omega) (by omega)
        refine And.intro ⟨by omega, by omega⟩ ?_
        intro v24 e25
        intro v26 e27
        refine And.intro ⟨by omega, by omega⟩ ?_
        intro s28 e29
        have i30 : Iv s28 := Iv.u2 i19 e29
        have k31 : Kp s0 s28 := Kx.u2 k20 e29 (vg_kq_pos (by omega)).1
        show Iv s28 ∧ Kp s0 s28 ∧ (True)
        exact ⟨i30, k31, (trivial)⟩
      · have c16 : ¬ (w10.toInt ≤ 0) := c16
        intro v32 e33
        have b34 := vg_add e33 (by omega) (by omega)
        intro v35 e36
        have b37 := vg_add e36 (by omega) (by omega)
        intro v38 e39
        have b40 := vg_sub e39 (by omega) (by omega)
        refine And.intro ⟨by omega, by omega⟩ ?_
        intro v41 e42
        refine And.intro ⟨by omega, by omega⟩ ?_
        intro s43 e44
        have i45 : Iv s43 := Iv.u2 i14 e44
        have k46 : Kp s0 s43 := Kx.u2 k15 e44 (vg_kq_pos (by omega)).1
        intro v47 e48
        have b49 := vg_add e48 (by omega) (by omega)
        exact ⟨rfl, ⟨w7, v47, rfl, (by omega), (by omega), (by omega), (by omega), i45, k46⟩, (by show (0 + (v47.toInt - (0)) * 1000000000000).toNat < (0 + (w10.toInt - (0)) * 1000000000000).toNat; omega)⟩
def o_X11_many : List vg_I := [(0, .bipush 48, 2, 0, 0, 0, 0), (2, .aload_n 0, 1, 0, 0, 0, 0), (3, .bipush 16, 2, 0, 0, 0, 0), (5, .iload_n 1, 1, 0, 0, 0, 0), (6, .iadd, 1, 0, 0, 0, 0), (7, .invokevirtual 110, 3, 0, 11, 1, 1202), (10, .invokestatic 113, 3, 1, 1, 2, 1280), (13, .ireturn, 1, 0, 0, 0, 0)]
set_option maxRecDepth 100000 in
set_option maxHeartbeats 4000000 in
theorem c_X11_many (l : Launch) (G : vg_G) (hp : vg_Hp G) : vg_Ct l G vg_sh r_X11_many := by
  refine vg_meth hp vg_sh_ok r_X11_many k_X11_many rfl (fun h => by cases h) o_X11_many [r_X11_get, r_J9_min_7cf53] false (by decide +kernel) (by decide +kernel) ⟨_, _, rfl, rfl⟩ (List.forall_mem_cons.mpr ⟨⟨c_X11_get l G hp, Nat.le_of_ble_eq_true rfl, Nat.le_of_ble_eq_true rfl⟩, List.forall_mem_cons.mpr ⟨⟨c_J9_min_7cf53 l G hp, Nat.le_of_ble_eq_true rfl, Nat.le_of_ble_eq_true rfl⟩, fun _ h => absurd h List.not_mem_nil⟩⟩) (fun h => by cases h) 600 ?_
  intro as s0 hpre
  obtain ⟨r, a1, rfl, hr, i0, p0⟩ := hpre
  simp only [List.mem_cons, List.not_mem_nil, or_false] at hr
  rcases hr with rfl
  ·
    have z16 : (Int32.ofInt 16).toInt = 16 := by decide
    have z48 : (Int32.ofInt 48).toInt = 48 := by decide
    refine ⟨Nat.le_of_ble_eq_true rfl, [], ?_, fun _ h => absurd h List.not_mem_nil⟩
    ·
      intro v1 e2
      have b3 := vg_add e2 (by omega) (by omega)
      refine And.intro (Nat.le_of_ble_eq_true rfl) (And.intro ⟨55, v1, rfl, by decide, i0, by omega⟩ ?_)
      intro v4 s6 h5
      have h5 : s6 = s0 ∧ (v4 = (s0.2 56 v1.toNatClampNeg).toInt32) := h5
      have q9 := h5.1.symm
      subst q9
      have q10 := h5.2
      refine And.intro (Nat.le_of_ble_eq_true rfl) (And.intro ⟨(Int32.ofInt 48), v4, rfl, trivial⟩ ?_)
      intro v11 s13 h12
      have h12 : s13 = s0 ∧ (v11.toInt ≤ (Int32.ofInt 48).toInt ∧ v11.toInt ≤ v4.toInt ∧ (v11.toInt = (Int32.ofInt 48).toInt ∨ v11.toInt = v4.toInt)) := h12
      have q16 := h12.1.symm
      subst q16
      have q17 := h12.2
      show s0 = s0 ∧ (v11.toInt ≤ 48)
      exact ⟨rfl, (by first | trivial | omega | assumption)⟩
def o_X11_latestOf : List vg_I := [(0, .aload_n 0, 1, 0, 0, 0, 0), (1, .getfield 7, 3, 1061, 11, 0, 0), (4, .sipush 145, 3, 0, 0, 0, 0), (7, .bipush 48, 2, 0, 0, 0, 0), (9, .iload_n 1, 1, 0, 0, 0, 0), (10, .imul, 1, 0, 0, 0, 0), (11, .iadd, 1, 0, 0, 0, 0), (12, .iload_n 2, 1, 0, 0, 0, 0), (13, .iadd, 1, 0, 0, 0, 0), (14, .laload, 1, 0, 0, 0, 0), (15, .lreturn, 1, 0, 0, 0, 0)]
set_option maxRecDepth 100000 in
set_option maxHeartbeats 4000000 in
theorem c_X11_latestOf (l : Launch) (G : vg_G) (hp : vg_Hp G) : vg_Ct l G vg_sh r_X11_latestOf := by
  refine vg_meth hp vg_sh_ok r_X11_latestOf k_X11_latestOf rfl (fun h => by cases h) o_X11_latestOf [] false (by decide +kernel) (by decide +kernel) ⟨_, _, rfl, rfl⟩ (fun _ h => absurd h List.not_mem_nil) (fun h => by cases h) 600 ?_
  intro as s0 hpre
  obtain ⟨r, a1, a2, rfl, hr, i0, p0⟩ := hpre
  simp only [List.mem_cons, List.not_mem_nil, or_false] at hr
  rcases hr with rfl
  ·
    have z48 : (Int32.ofInt 48).toInt = 48 := by decide
    have z145 : (Int32.ofInt 145).toInt = 145 := by decide
    refine ⟨Nat.le_of_ble_eq_true rfl, [], ?_, fun _ h => absurd h List.not_mem_nil⟩
    ·
      intro v1 e2
      have b3 : v1.toInt = (48) * a1.toInt := vg_mulL e2 (by omega) (by omega) (by omega)
      intro v4 e5
      have b6 := vg_add e5 (by omega) (by omega)
      intro v7 e8
      have b9 := vg_add e8 (by omega) (by omega)
      refine And.intro ⟨by omega, by omega⟩ ?_
      intro v10 e11
      show s0 = s0 ∧ (True)
      exact ⟨rfl, (trivial)⟩
def o_X11_sourceAt : List vg_I := [(0, .aload_n 0, 1, 0, 0, 0, 0), (1, .getfield 116, 3, 1064, 11, 3, 0), (4, .ifCond .ne 10, 3, 0, 0, 0, 0), (7, .aload_n 0, 1, 0, 0, 0, 0), (8, .getfield 119, 3, 1065, 11, 4, 0), (11, .goto 76, 3, 0, 0, 0, 0), (14, .aload_n 0, 1, 0, 0, 0, 0), (15, .getfield 116, 3, 1064, 11, 3, 0), (18, .iconst 1, 1, 0, 0, 0, 0), (19, .if_icmp .ne 22, 3, 0, 0, 0, 0), (22, .aload_n 0, 1, 0, 0, 0, 0), (23, .getfield 119, 3, 1065, 11, 4, 0), (26, .aload_n 0, 1, 0, 0, 0, 0), (27, .getfield 122, 3, 1066, 11, 5, 0), (30, .iload_n 1, 1, 0, 0, 0, 0), (31, .aload_n 0, 1, 0, 0, 0, 0), (32, .getfield 16, 3, 1067, 11, 6, 0), (35, .irem, 1, 0, 0, 0, 0), (36, .imul, 1, 0, 0, 0, 0), (37, .iadd, 1, 0, 0, 0, 0), (38, .goto 49, 3, 0, 0, 0, 0), (41, .aload_n 0, 1, 0, 0, 0, 0), (42, .getfield 116, 3, 1064, 11, 3, 0), (45, .iconst 2, 1, 0, 0, 0, 0), (46, .if_icmp .ne 32, 3, 0, 0, 0, 0), (49, .iload_n 1, 1, 0, 0, 0, 0), (50, .iconst 2, 1, 0, 0, 0, 0), (51, .aload_n 0, 1, 0, 0, 0, 0), (52, .getfield 16, 3, 1067, 11, 6, 0), (55, .imul, 1, 0, 0, 0, 0), (56, .irem, 1, 0, 0, 0, 0), (57, .aload_n 0, 1, 0, 0, 0, 0), (58, .getfield 16, 3, 1067, 11, 6, 0), (61, .if_icmp .ge 10, 3, 0, 0, 0, 0), (64, .aload_n 0, 1, 0, 0, 0, 0), (65, .getfield 119, 3, 1065, 11, 4, 0), (68, .goto 19, 3, 0, 0, 0, 0), (71, .aload_n 0, 1, 0, 0, 0, 0), (72, .getfield 122, 3, 1066, 11, 5, 0), (75, .goto 12, 3, 0, 0, 0, 0), (78, .aload_n 0, 1, 0, 0, 0, 0), (79, .getfield 42, 3, 1083, 11, 22, 0), (82, .iload_n 1, 1, 0, 0, 0, 0), (83, .bipush 16, 2, 0, 0, 0, 0), (85, .irem, 1, 0, 0, 0, 0), (86, .iaload, 1, 0, 0, 0, 0), (87, .istore_n 2, 1, 0, 0, 0, 0), (88, .sipush (-30000), 3, 0, 0, 0, 0), (91, .sipush 30000, 3, 0, 0, 0, 0), (94, .iload_n 2, 1, 0, 0, 0, 0), (95, .invokestatic 113, 3, 0, 1, 2, 1280), (98, .invokestatic 90, 3, 1, 1, 2, 1201), (101, .ireturn, 1, 0, 0, 0, 0)]
set_option maxRecDepth 100000 in
set_option maxHeartbeats 4000000 in
theorem c_X11_sourceAt (l : Launch) (G : vg_G) (hp : vg_Hp G) : vg_Ct l G vg_sh r_X11_sourceAt := by
  refine vg_meth hp vg_sh_ok r_X11_sourceAt k_X11_sourceAt rfl (fun h => by cases h) o_X11_sourceAt [r_J9_min_7cf53, r_J9_max_7cf53] false (by decide +kernel) (by decide +kernel) ⟨_, _, rfl, rfl⟩ (List.forall_mem_cons.mpr ⟨⟨c_J9_min_7cf53 l G hp, Nat.le_of_ble_eq_true rfl, Nat.le_of_ble_eq_true rfl⟩, List.forall_mem_cons.mpr ⟨⟨c_J9_max_7cf53 l G hp, Nat.le_of_ble_eq_true rfl, Nat.le_of_ble_eq_true rfl⟩, fun _ h => absurd h List.not_mem_nil⟩⟩) (fun h => by cases h) 600 ?_
  intro as s0 hpre
  obtain ⟨r, a1, rfl, hr, i0, p0⟩ := hpre
  have ra1 := vg_rng a1
  simp only [List.mem_cons, List.not_mem_nil, or_false] at hr
  rcases hr with rfl
  ·
    have zm30000 : (Int32.ofInt (-30000)).toInt = -30000 := by decide
    have z1 : (Int32.ofInt 1).toInt = 1 := by decide
    have z2 : (Int32.ofInt 2).toInt = 2 := by decide
    have z16 : (Int32.ofInt 16).toInt = 16 := by decide
    have z30000 : (Int32.ofInt 30000).toInt = 30000 := by decide
    refine ⟨Nat.le_of_ble_eq_true rfl, [], ?_, fun _ h => absurd h List.not_mem_nil⟩
    ·
      intro v1 e2
      have g3 : s0.1 55 3 = v1 := by rw [e2]
      refine And.intro (fun c4 => ?_) (fun c4 => ?_)
      · have c4 : ¬ v1.toInt = 0 := c4
        intro v5 e6
        have w7 : v1 = v5 := by rw [e6, g3]
        subst w7
        refine And.intro (fun c8 => ?_) (fun c8 => ?_)
        · have c8 : ¬ v1.toInt = (Int32.ofInt 1).toInt := c8
          intro v9 e10
          have w11 : v1 = v9 := by rw [e10, g3]
          subst w11
          refine And.intro (fun c12 => ?_) (fun c12 => ?_)
          · have c12 : ¬ v1.toInt = (Int32.ofInt 2).toInt := c12
            refine And.intro (by omega) ?_
            intro v13 e14
            have b15 := (vg_rem e14 (by omega) (by omega)).2
            refine And.intro ⟨by omega, by omega⟩ ?_
            intro v16 e17
            refine And.intro (Nat.le_of_ble_eq_true rfl) (And.intro ⟨(Int32.ofInt 30000), v16, rfl, trivial⟩ ?_)
            intro v18 s20 h19
            have h19 : s20 = s0 ∧ (v18.toInt ≤ (Int32.ofInt 30000).toInt ∧ v18.toInt ≤ v16.toInt ∧ (v18.toInt = (Int32.ofInt 30000).toInt ∨ v18.toInt = v16.toInt)) := h19
            have q23 := h19.1.symm
            subst q23
            have q24 := h19.2
            refine And.intro (Nat.le_of_ble_eq_true rfl) (And.intro ⟨(Int32.ofInt (-30000)), v18, rfl, trivial⟩ ?_)
            intro v25 s27 h26
            have h26 : s27 = s0 ∧ ((Int32.ofInt (-30000)).toInt ≤ v25.toInt ∧ v18.toInt ≤ v25.toInt ∧ (v25.toInt = (Int32.ofInt (-30000)).toInt ∨ v25.toInt = v18.toInt)) := h26
            have q30 := h26.1.symm
            subst q30
            have q31 := h26.2
            show s0 = s0 ∧ (True)
            exact ⟨rfl, (trivial)⟩
          · have c12 : ¬ (¬ v1.toInt = (Int32.ofInt 2).toInt) := c12
            intro v32 e33
            have g34 : s0.1 55 6 = v32 := by rw [e33]
            have b35 : (1 : Int) ≤ v32.toInt ∧ v32.toInt ≤ 1000 := by rw [e33]; exact Iv_55_6 i0
            intro v36 e37
            have b38 : v36.toInt = (2) * v32.toInt := vg_mulL e37 (by omega) (by omega) (by omega)
            refine And.intro (by omega) ?_
            intro v39 e40
            have b41 := (vg_rem e40 (by omega) (by omega)).2
            intro v42 e43
            have w44 : v32 = v42 := by rw [e43, g34]
            subst w44
            refine And.intro (fun c45 => ?_) (fun c45 => ?_)
            · have c45 : v32.toInt ≤ v39.toInt := c45
              intro v46 e47
              have g48 : s0.1 55 5 = v46 := by rw [e47]
              refine And.intro (Nat.le_of_ble_eq_true rfl) (And.intro ⟨(Int32.ofInt 30000), v46, rfl, trivial⟩ ?_)
              intro v49 s51 h50
              have h50 : s51 = s0 ∧ (v49.toInt ≤ (Int32.ofInt 30000).toInt ∧ v49.toInt ≤ v46.toInt ∧ (v49.toInt = (Int32.ofInt 30000).toInt ∨ v49.toInt = v46.toInt)) := h50
              have q54 := h50.1.symm
              subst q54
              have q55 := h50.2
              refine And.intro (Nat.le_of_ble_eq_true rfl) (And.intro ⟨(Int32.ofInt (-30000)), v49, rfl, trivial⟩ ?_)
              intro v56 s58 h57
              have h57 : s58 = s0 ∧ ((Int32.ofInt (-30000)).toInt ≤ v56.toInt ∧ v49.toInt ≤ v56.toInt ∧ (v56.toInt = (Int32.ofInt (-30000)).toInt ∨ v56.toInt = v49.toInt)) := h57
              have q61 := h57.1.symm
              subst q61
              have q62 := h57.2
              show s0 = s0 ∧ (True)
              exact ⟨rfl, (trivial)⟩
            · have c45 : ¬ (v32.toInt ≤ v39.toInt) := c45
              intro v63 e64
              have g65 : s0.1 55 4 = v63 := by rw [e64]
              refine And.intro (Nat.le_of_ble_eq_true rfl) (And.intro ⟨(Int32.ofInt 30000), v63, rfl, trivial⟩ ?_)
              intro v66 s68 h67
              have h67 : s68 = s0 ∧ (v66.toInt ≤ (Int32.ofInt 30000).toInt ∧ v66.toInt ≤ v63.toInt ∧ (v66.toInt = (Int32.ofInt 30000).toInt ∨ v66.toInt = v63.toInt)) := h67
              have q71 := h67.1.symm
              subst q71
              have q72 := h67.2
              refine And.intro (Nat.le_of_ble_eq_true rfl) (And.intro ⟨(Int32.ofInt (-30000)), v66, rfl, trivial⟩ ?_)
              intro v73 s75 h74
              have h74 : s75 = s0 ∧ ((Int32.ofInt (-30000)).toInt ≤ v73.toInt ∧ v66.toInt ≤ v73.toInt ∧ (v73.toInt = (Int32.ofInt (-30000)).toInt ∨ v73.toInt = v66.toInt)) := h74
              have q78 := h74.1.symm
              subst q78
              have q79 := h74.2
              show s0 = s0 ∧ (True)
              exact ⟨rfl, (trivial)⟩
        · have c8 : ¬ (¬ v1.toInt = (Int32.ofInt 1).toInt) := c8
          intro v80 e81
          have g82 : s0.1 55 4 = v80 := by rw [e81]
          intro v83 e84
          have g85 : s0.1 55 5 = v83 := by rw [e84]
          intro v86 e87
          have g88 : s0.1 55 6 = v86 := by rw [e87]
          have b89 : (1 : Int) ≤ v86.toInt ∧ v86.toInt ≤ 1000 := by rw [e87]; exact Iv_55_6 i0
          refine And.intro (by omega) ?_
          intro v90 e91
          have b92 := (vg_rem e91 (by omega) (by omega)).2
          intro v93 e94
          intro v95 e96
          refine And.intro (Nat.le_of_ble_eq_true rfl) (And.intro ⟨(Int32.ofInt 30000), v95, rfl, trivial⟩ ?_)
          intro v97 s99 h98
          have h98 : s99 = s0 ∧ (v97.toInt ≤ (Int32.ofInt 30000).toInt ∧ v97.toInt ≤ v95.toInt ∧ (v97.toInt = (Int32.ofInt 30000).toInt ∨ v97.toInt = v95.toInt)) := h98
          have q102 := h98.1.symm
          subst q102
          have q103 := h98.2
          refine And.intro (Nat.le_of_ble_eq_true rfl) (And.intro ⟨(Int32.ofInt (-30000)), v97, rfl, trivial⟩ ?_)
          intro v104 s106 h105
          have h105 : s106 = s0 ∧ ((Int32.ofInt (-30000)).toInt ≤ v104.toInt ∧ v97.toInt ≤ v104.toInt ∧ (v104.toInt = (Int32.ofInt (-30000)).toInt ∨ v104.toInt = v97.toInt)) := h105
          have q109 := h105.1.symm
          subst q109
          have q110 := h105.2
          show s0 = s0 ∧ (True)
          exact ⟨rfl, (trivial)⟩
      · have c4 : ¬ (¬ v1.toInt = 0) := c4
        intro v111 e112
        have g113 : s0.1 55 4 = v111 := by rw [e112]
        refine And.intro (Nat.le_of_ble_eq_true rfl) (And.intro ⟨(Int32.ofInt 30000), v111, rfl, trivial⟩ ?_)
        intro v114 s116 h115
        have h115 : s116 = s0 ∧ (v114.toInt ≤ (Int32.ofInt 30000).toInt ∧ v114.toInt ≤ v111.toInt ∧ (v114.toInt = (Int32.ofInt 30000).toInt ∨ v114.toInt = v111.toInt)) := h115
        have q119 := h115.1.symm
        subst q119
        have q120 := h115.2
        refine And.intro (Nat.le_of_ble_eq_true rfl) (And.intro ⟨(Int32.ofInt (-30000)), v114, rfl, trivial⟩ ?_)
        intro v121 s123 h122
        have h122 : s123 = s0 ∧ ((Int32.ofInt (-30000)).toInt ≤ v121.toInt ∧ v114.toInt ≤ v121.toInt ∧ (v121.toInt = (Int32.ofInt (-30000)).toInt ∨ v121.toInt = v114.toInt)) := h122
        have q126 := h122.1.symm
        subst q126
        have q127 := h122.2
        show s0 = s0 ∧ (True)
        exact ⟨rfl, (trivial)⟩
def o_X11_valueOf : List vg_I := [(0, .aload_n 0, 1, 0, 0, 0, 0), (1, .getfield 23, 3, 1070, 11, 9, 0), (4, .iconst 2, 1, 0, 0, 0, 0), (5, .iload_n 1, 1, 0, 0, 0, 0), (6, .imul, 1, 0, 0, 0, 0), (7, .iconst 1, 1, 0, 0, 0, 0), (8, .iadd, 1, 0, 0, 0, 0), (9, .aload_n 0, 1, 0, 0, 0, 0), (10, .getfield 26, 3, 1071, 11, 10, 0), (13, .isub, 1, 0, 0, 0, 0), (14, .imul, 1, 0, 0, 0, 0), (15, .ireturn, 1, 0, 0, 0, 0)]
set_option maxRecDepth 100000 in
set_option maxHeartbeats 4000000 in
theorem c_X11_valueOf (l : Launch) (G : vg_G) (hp : vg_Hp G) : vg_Ct l G vg_sh r_X11_valueOf := by
  refine vg_meth hp vg_sh_ok r_X11_valueOf k_X11_valueOf rfl (fun h => by cases h) o_X11_valueOf [] false (by decide +kernel) (by decide +kernel) ⟨_, _, rfl, rfl⟩ (fun _ h => absurd h List.not_mem_nil) (fun h => by cases h) 600 ?_
  intro as s0 hpre
  obtain ⟨r, a1, rfl, hr, i0⟩ := hpre
  simp only [List.mem_cons, List.not_mem_nil, or_false] at hr
  rcases hr with rfl
  ·
    have z1 : (Int32.ofInt 1).toInt = 1 := by decide
    have z2 : (Int32.ofInt 2).toInt = 2 := by decide
    refine ⟨Nat.le_of_ble_eq_true rfl, [], ?_, fun _ h => absurd h List.not_mem_nil⟩
    ·
      intro v1 e2
      have g3 : s0.1 55 9 = v1 := by rw [e2]
      intro v4 e5
      intro v6 e7
      intro v8 e9
      have g10 : s0.1 55 10 = v8 := by rw [e9]
      have b11 : (2 : Int) ≤ v8.toInt ∧ v8.toInt ≤ 17 := by rw [e9]; exact Iv_55_10 i0
      intro v12 e13
      intro v14 e15
      show s0 = s0 ∧ (True)
      exact ⟨rfl, (trivial)⟩
def o_X11_nearest : List vg_I := [(0, .iconst 0, 1, 0, 0, 0, 0), (1, .istore_n 2, 1, 0, 0, 0, 0), (2, .iconst 1, 1, 0, 0, 0, 0), (3, .istore_n 3, 1, 0, 0, 0, 0), (4, .iload_n 3, 1, 0, 0, 0, 0), (5, .aload_n 0, 1, 0, 0, 0, 0), (6, .getfield 26, 3, 1071, 11, 10, 0), (9, .if_icmp .ge 34, 3, 0, 0, 0, 0), (12, .aload_n 0, 1, 0, 0, 0, 0), (13, .iload_n 3, 1, 0, 0, 0, 0), (14, .invokevirtual 125, 3, 0, 11, 1, 1305), (17, .iload_n 1, 1, 0, 0, 0, 0), (18, .isub, 1, 0, 0, 0, 0), (19, .invokestatic 128, 3, 1, 1, 1, 1309), (22, .aload_n 0, 1, 0, 0, 0, 0), (23, .iload_n 2, 1, 0, 0, 0, 0), (24, .invokevirtual 125, 3, 0, 11, 1, 1305), (27, .iload_n 1, 1, 0, 0, 0, 0), (28, .isub, 1, 0, 0, 0, 0), (29, .invokestatic 128, 3, 1, 1, 1, 1309), (32, .if_icmp .ge 5, 3, 0, 0, 0, 0), (35, .iload_n 3, 1, 0, 0, 0, 0), (36, .istore_n 2, 1, 0, 0, 0, 0), (37, .iinc 3 1, 3, 0, 0, 0, 0), (40, .goto (-36), 3, 0, 0, 0, 0), (43, .iload_n 2, 1, 0, 0, 0, 0), (44, .ireturn, 1, 0, 0, 0, 0)]
set_option maxRecDepth 100000 in
set_option maxHeartbeats 4000000 in
theorem c_X11_nearest (l : Launch) (G : vg_G) (hp : vg_Hp G) : vg_Ct l G vg_sh r_X11_nearest := by
  refine vg_meth hp vg_sh_ok r_X11_nearest k_X11_nearest rfl (fun h => by cases h) o_X11_nearest [r_X11_valueOf, r_J9_abs_0f7a4] false (by decide +kernel) (by decide +kernel) ⟨_, _, rfl, rfl⟩ (List.forall_mem_cons.mpr ⟨⟨c_X11_valueOf l G hp, Nat.le_of_ble_eq_true rfl, Nat.le_of_ble_eq_true rfl⟩, List.forall_mem_cons.mpr ⟨⟨c_J9_abs_0f7a4 l G hp, Nat.le_of_ble_eq_true rfl, Nat.le_of_ble_eq_true rfl⟩, fun _ h => absurd h List.not_mem_nil⟩⟩) (fun h => by cases h) 600 ?_
  intro as s0 hpre
  obtain ⟨r, a1, rfl, hr, i0⟩ := hpre
  simp only [List.mem_cons, List.not_mem_nil, or_false] at hr
  rcases hr with rfl
  ·
    have z0 : (Int32.ofInt 0).toInt = 0 := by decide
    have z1 : (Int32.ofInt 1).toInt = 1 := by decide
    refine ⟨Nat.le_of_ble_eq_true rfl, [(4, [true, true, true, true], (fun L t => ∃ (x2 : Int32) (x3 : Int32), L = [some (.ref 55), some (.int a1), some (.int x2), some (.int x3)] ∧ (1 : Int) ≤ x3.toInt ∧ x3.toInt ≤ (17 : Int) ∧ t = s0), (fun L _ => (0 + (17 - (vg_li L 3).toInt) * 1000000000000).toNat))], ?_, List.forall_mem_cons.mpr ⟨?_, fun _ h => absurd h List.not_mem_nil⟩⟩
    ·
      exact ⟨rfl, ⟨(Int32.ofInt 0), (Int32.ofInt 1), rfl, (by omega), (by omega), rfl⟩, trivial⟩
    ·
      intro L s5 hL
      obtain ⟨w1, w2, rfl, b3, b4, q8⟩ := hL
      have q8 := q8.symm
      subst q8
      intro v9 e10
      have g11 : s0.1 55 10 = v9 := by rw [e10]
      have b12 : (2 : Int) ≤ v9.toInt ∧ v9.toInt ≤ 17 := by rw [e10]; exact Iv_55_10 i0
      refine And.intro (fun c13 => ?_) (fun c13 => ?_)
      · have c13 : v9.toInt ≤ w2.toInt := c13
        show s0 = s0 ∧ (True)
        exact ⟨rfl, (trivial)⟩
      · have c13 : ¬ (v9.toInt ≤ w2.toInt) := c13
        refine And.intro (Nat.le_of_ble_eq_true rfl) (And.intro ⟨55, w2, rfl, by decide, i0⟩ ?_)
        intro v14 s16 h15
        have h15 : s16 = s0 ∧ (True) := h15
        have q19 := h15.1.symm
        subst q19
        intro v20 e21
        refine And.intro (Nat.le_of_ble_eq_true rfl) (And.intro ⟨v20, rfl, trivial⟩ ?_)
        intro v22 s24 h23
        have h23 : s24 = s0 ∧ (True) := h23
        have q27 := h23.1.symm
        subst q27
        refine And.intro (Nat.le_of_ble_eq_true rfl) (And.intro ⟨55, w1, rfl, by decide, i0⟩ ?_)
        intro v28 s30 h29
        have h29 : s30 = s0 ∧ (True) := h29
        have q33 := h29.1.symm
        subst q33
        intro v34 e35
        refine And.intro (Nat.le_of_ble_eq_true rfl) (And.intro ⟨v34, rfl, trivial⟩ ?_)
        intro v36 s38 h37
        have h37 : s38 = s0 ∧ (True) := h37
        have q41 := h37.1.symm
        subst q41
        refine And.intro (fun c42 => ?_) (fun c42 => ?_)
        · have c42 : v36.toInt ≤ v22.toInt := c42
          intro v43 e44
          have b45 := vg_add e44 (by omega) (by omega)
          exact ⟨rfl, ⟨w1, v43, rfl, (by omega), (by omega), rfl⟩, (by show (0 + (17 - v43.toInt) * 1000000000000).toNat < (0 + (17 - w2.toInt) * 1000000000000).toNat; omega)⟩
        · have c42 : ¬ (v36.toInt ≤ v22.toInt) := c42
          intro v46 e47
          have b48 := vg_add e47 (by omega) (by omega)
          exact ⟨rfl, ⟨w2, v46, rfl, (by omega), (by omega), rfl⟩, (by show (0 + (17 - v46.toInt) * 1000000000000).toNat < (0 + (17 - w2.toInt) * 1000000000000).toNat; omega)⟩
def o_X11_held : List vg_I := [(0, .aload_n 0, 1, 0, 0, 0, 0), (1, .getfield 30, 3, 1072, 11, 11, 0), (4, .ineg, 1, 0, 0, 0, 0), (5, .aload_n 0, 1, 0, 0, 0, 0), (6, .getfield 30, 3, 1072, 11, 11, 0), (9, .iload_n 1, 1, 0, 0, 0, 0), (10, .invokestatic 113, 3, 0, 1, 2, 1280), (13, .invokestatic 90, 3, 1, 1, 2, 1201), (16, .istore_n 2, 1, 0, 0, 0, 0), (17, .iload_n 2, 1, 0, 0, 0, 0), (18, .iload_n 1, 1, 0, 0, 0, 0), (19, .if_icmp .eq 35, 3, 0, 0, 0, 0), (22, .aload_n 0, 1, 0, 0, 0, 0), (23, .getfield 7, 3, 1061, 11, 0, 0), (26, .iconst 3, 1, 0, 0, 0, 0), (27, .dup2, 1, 0, 0, 0, 0), (28, .laload, 1, 0, 0, 0, 0), (29, .lconst 1, 1, 0, 0, 0, 0), (30, .ladd, 1, 0, 0, 0, 0), (31, .lastore, 1, 0, 0, 0, 0), (32, .aload_n 0, 1, 0, 0, 0, 0), (33, .getfield 7, 3, 1061, 11, 0, 0), (36, .sipush 144, 3, 0, 0, 0, 0), (39, .lconst 1, 1, 0, 0, 0, 0), (40, .lastore, 1, 0, 0, 0, 0), (41, .aload_n 0, 1, 0, 0, 0, 0), (42, .getfield 7, 3, 1061, 11, 0, 0), (45, .iconst 5, 1, 0, 0, 0, 0), (46, .dup2, 1, 0, 0, 0, 0), (47, .laload, 1, 0, 0, 0, 0), (48, .iload_n 1, 1, 0, 0, 0, 0), (49, .iload_n 2, 1, 0, 0, 0, 0), (50, .isub, 1, 0, 0, 0, 0), (51, .i2l, 1, 0, 0, 0, 0), (52, .ladd, 1, 0, 0, 0, 0), (53, .lastore, 1, 0, 0, 0, 0), (54, .iload_n 2, 1, 0, 0, 0, 0), (55, .ireturn, 1, 0, 0, 0, 0)]
set_option maxRecDepth 100000 in
set_option maxHeartbeats 4000000 in
theorem c_X11_held (l : Launch) (G : vg_G) (hp : vg_Hp G) : vg_Ct l G vg_sh r_X11_held := by
  refine vg_meth hp vg_sh_ok r_X11_held k_X11_held rfl (fun h => by cases h) o_X11_held [r_J9_min_7cf53, r_J9_max_7cf53] false (by decide +kernel) (by decide +kernel) ⟨_, _, rfl, rfl⟩ (List.forall_mem_cons.mpr ⟨⟨c_J9_min_7cf53 l G hp, Nat.le_of_ble_eq_true rfl, Nat.le_of_ble_eq_true rfl⟩, List.forall_mem_cons.mpr ⟨⟨c_J9_max_7cf53 l G hp, Nat.le_of_ble_eq_true rfl, Nat.le_of_ble_eq_true rfl⟩, fun _ h => absurd h List.not_mem_nil⟩⟩) (fun h => by cases h) 600 ?_
  intro as s0 hpre
  obtain ⟨r, a1, rfl, hr, i0⟩ := hpre
  simp only [List.mem_cons, List.not_mem_nil, or_false] at hr
  rcases hr with rfl
  ·
    have z3 : (Int32.ofInt 3).toInt = 3 := by decide
    have z5 : (Int32.ofInt 5).toInt = 5 := by decide
    have z144 : (Int32.ofInt 144).toInt = 144 := by decide
    refine ⟨Nat.le_of_ble_eq_true rfl, [], ?_, fun _ h => absurd h List.not_mem_nil⟩
    ·
      intro v1 e2
      have g3 : s0.1 55 11 = v1 := by rw [e2]
      intro v4 e5
      intro v6 e7
      have w8 : v1 = v6 := by rw [e7, g3]
      subst w8
      refine And.intro (Nat.le_of_ble_eq_true rfl) (And.intro ⟨v1, a1, rfl, trivial⟩ ?_)
      intro v9 s11 h10
      have h10 : s11 = s0 ∧ (v9.toInt ≤ v1.toInt ∧ v9.toInt ≤ a1.toInt ∧ (v9.toInt = v1.toInt ∨ v9.toInt = a1.toInt)) := h10
      have q14 := h10.1.symm
      subst q14
      have q15 := h10.2
      refine And.intro (Nat.le_of_ble_eq_true rfl) (And.intro ⟨v4, v9, rfl, trivial⟩ ?_)
      intro v16 s18 h17
      have h17 : s18 = s0 ∧ (v4.toInt ≤ v16.toInt ∧ v9.toInt ≤ v16.toInt ∧ (v16.toInt = v4.toInt ∨ v16.toInt = v9.toInt)) := h17
      have q21 := h17.1.symm
      subst q21
      have q22 := h17.2
      refine And.intro (fun c23 => ?_) (fun c23 => ?_)
      · have c23 : v16.toInt = a1.toInt := c23
        show Iv s0 ∧ Kp s0 s0 ∧ (True)
        exact ⟨i0, Kx.rf, (trivial)⟩
      · have c23 : ¬ (v16.toInt = a1.toInt) := c23
        refine And.intro ⟨by omega, by omega⟩ ?_
        intro v24 e25
        intro v26 e27
        refine And.intro ⟨by omega, by omega⟩ ?_
        intro s28 e29
        have i30 : Iv s28 := Iv.u2 i0 e29
        have k31 : Kp s0 s28 := Kx.u2 Kx.rf e29 (vg_kq_pos (by omega)).1
        refine And.intro ⟨by omega, by omega⟩ ?_
        intro s32 e33
        have i34 : Iv s32 := Iv.u2 i30 e33
        have k35 : Kp s0 s32 := Kx.u2 k31 e33 (vg_kq_pos (by omega)).1
        refine And.intro ⟨by omega, by omega⟩ ?_
        intro v36 e37
        intro v38 e39
        intro v40 e41
        intro v42 e43
        refine And.intro ⟨by omega, by omega⟩ ?_
        intro s44 e45
        have i46 : Iv s44 := Iv.u2 i34 e45
        have k47 : Kp s0 s44 := Kx.u2 k35 e45 (vg_kq_pos (by omega)).1
        show Iv s44 ∧ Kp s0 s44 ∧ (True)
        exact ⟨i46, k47, (trivial)⟩
def o_X11_drawn : List vg_I := [(0, .aload_n 0, 1, 0, 0, 0, 0), (1, .getfield 131, 3, 1073, 11, 12, 0), (4, .ifCond .ne 5, 3, 0, 0, 0, 0), (7, .iconst 0, 1, 0, 0, 0, 0), (8, .ireturn, 1, 0, 0, 0, 0), (9, .aload_n 0, 1, 0, 0, 0, 0), (10, .getfield 7, 3, 1061, 11, 0, 0), (13, .iconst 1, 1, 0, 0, 0, 0), (14, .aload_n 0, 1, 0, 0, 0, 0), (15, .getfield 7, 3, 1061, 11, 0, 0), (18, .iconst 1, 1, 0, 0, 0, 0), (19, .laload, 1, 0, 0, 0, 0), (20, .ldc2_w 134, 3, 1289, 0, 0, 1103515245), (23, .lmul, 1, 0, 0, 0, 0), (24, .ldc2_w 136, 3, 1290, 0, 0, 12345), (27, .ladd, 1, 0, 0, 0, 0), (28, .ldc2_w 138, 3, 1291, 0, 0, 2147483648), (31, .lrem, 1, 0, 0, 0, 0), (32, .lastore, 1, 0, 0, 0, 0), (33, .aload_n 0, 1, 0, 0, 0, 0), (34, .getfield 7, 3, 1061, 11, 0, 0), (37, .iconst 1, 1, 0, 0, 0, 0), (38, .laload, 1, 0, 0, 0, 0), (39, .ldc2_w 140, 3, 1292, 0, 0, 65536), (42, .ldiv, 1, 0, 0, 0, 0), (43, .iconst 2, 1, 0, 0, 0, 0), (44, .aload_n 0, 1, 0, 0, 0, 0), (45, .getfield 131, 3, 1073, 11, 12, 0), (48, .imul, 1, 0, 0, 0, 0), (49, .iconst 1, 1, 0, 0, 0, 0), (50, .iadd, 1, 0, 0, 0, 0), (51, .i2l, 1, 0, 0, 0, 0), (52, .lrem, 1, 0, 0, 0, 0), (53, .l2i, 1, 0, 0, 0, 0), (54, .aload_n 0, 1, 0, 0, 0, 0), (55, .getfield 131, 3, 1073, 11, 12, 0), (58, .isub, 1, 0, 0, 0, 0), (59, .ireturn, 1, 0, 0, 0, 0)]
set_option maxRecDepth 100000 in
set_option maxHeartbeats 4000000 in
theorem c_X11_drawn (l : Launch) (G : vg_G) (hp : vg_Hp G) : vg_Ct l G vg_sh r_X11_drawn := by
  refine vg_meth hp vg_sh_ok r_X11_drawn k_X11_drawn rfl (fun h => by cases h) o_X11_drawn [] false (by decide +kernel) (by decide +kernel) ⟨_, _, rfl, rfl⟩ (fun _ h => absurd h List.not_mem_nil) (fun h => by cases h) 600 ?_
  intro as s0 hpre
  obtain ⟨r, rfl, hr, i0⟩ := hpre
  simp only [List.mem_cons, List.not_mem_nil, or_false] at hr
  rcases hr with rfl
  ·
    have z0 : (Int32.ofInt 0).toInt = 0 := by decide
    have z1 : (Int32.ofInt 1).toInt = 1 := by decide
    have z2 : (Int32.ofInt 2).toInt = 2 := by decide
    refine ⟨Nat.le_of_ble_eq_true rfl, [], ?_, fun _ h => absurd h List.not_mem_nil⟩
    ·
      intro v1 e2
      have g3 : s0.1 55 12 = v1 := by rw [e2]
      have b4 : (0 : Int) ≤ v1.toInt ∧ v1.toInt ≤ 5000 := by rw [e2]; exact Iv_55_12 i0
      refine And.intro (fun c5 => ?_) (fun c5 => ?_)
      · have c5 : ¬ v1.toInt = 0 := c5
        refine And.intro ⟨by omega, by omega⟩ ?_
        intro v6 e7
        intro v8 e9
        intro v10 e11
        refine And.intro (by decide) ?_
        intro v12 e13
        refine And.intro ⟨by omega, by omega⟩ ?_
        intro s14 e15
        have i16 : Iv s14 := Iv.u2 i0 e15
        have k17 : Kp s0 s14 := Kx.u2 Kx.rf e15 (vg_kq_pos (by omega)).1
        refine And.intro ⟨by omega, by omega⟩ ?_
        intro v18 e19
        refine And.intro (by decide) ?_
        intro v20 e21
        intro v22 e23
        have w24 : v1 = v22 := by rw [e23, e15, vg_u2_1, g3]
        subst w24
        intro v25 e26
        have b27 : v25.toInt = (2) * v1.toInt := vg_mulL e26 (by omega) (by omega) (by omega)
        intro v28 e29
        have b30 := vg_add e29 (by omega) (by omega)
        intro v31 e32
        have b33 := vg_i2l e32
        refine And.intro (by omega) ?_
        intro v34 e35
        intro v36 e37
        intro v38 e39
        have w40 : v1 = v38 := by rw [e39, e15, vg_u2_1, g3]
        subst w40
        intro v41 e42
        show Iv s14 ∧ Kp s0 s14 ∧ (True)
        exact ⟨i16, k17, (trivial)⟩
      · have c5 : ¬ (¬ v1.toInt = 0) := c5
        show Iv s0 ∧ Kp s0 s0 ∧ (True)
        exact ⟨i0, Kx.rf, (trivial)⟩
def o_X11_byErrors : List vg_I := [(0, .iload_n 1, 1, 0, 0, 0, 0), (1, .istore_n 3, 1, 0, 0, 0, 0), (2, .iconst 1, 1, 0, 0, 0, 0), (3, .istore 4, 2, 0, 0, 0, 0), (5, .iconst 1, 1, 0, 0, 0, 0), (6, .istore 5, 2, 0, 0, 0, 0), (8, .iload 5, 2, 0, 0, 0, 0), (10, .aload_n 0, 1, 0, 0, 0, 0), (11, .getfield 20, 3, 1069, 11, 8, 0), (14, .if_icmp .gt 69, 3, 0, 0, 0, 0), (17, .iload 4, 2, 0, 0, 0, 0), (19, .aload_n 0, 1, 0, 0, 0, 0), (20, .getfield 20, 3, 1069, 11, 8, 0), (23, .iconst 1, 1, 0, 0, 0, 0), (24, .iadd, 1, 0, 0, 0, 0), (25, .iload 5, 2, 0, 0, 0, 0), (27, .isub, 1, 0, 0, 0, 0), (28, .imul, 1, 0, 0, 0, 0), (29, .iload 5, 2, 0, 0, 0, 0), (31, .idiv, 1, 0, 0, 0, 0), (32, .istore 4, 2, 0, 0, 0, 0), (34, .iload_n 3, 1, 0, 0, 0, 0), (35, .iload 5, 2, 0, 0, 0, 0), (37, .iconst 2, 1, 0, 0, 0, 0), (38, .irem, 1, 0, 0, 0, 0), (39, .iconst 1, 1, 0, 0, 0, 0), (40, .if_icmp .ne 20, 3, 0, 0, 0, 0), (43, .iload 4, 2, 0, 0, 0, 0), (45, .aload_n 0, 1, 0, 0, 0, 0), (46, .bipush 23, 2, 0, 0, 0, 0), (48, .iload 5, 2, 0, 0, 0, 0), (50, .iadd, 1, 0, 0, 0, 0), (51, .iconst 1, 1, 0, 0, 0, 0), (52, .isub, 1, 0, 0, 0, 0), (53, .invokevirtual 110, 3, 0, 11, 1, 1202), (56, .imul, 1, 0, 0, 0, 0), (57, .goto 18, 3, 0, 0, 0, 0), (60, .iload 4, 2, 0, 0, 0, 0), (62, .ineg, 1, 0, 0, 0, 0), (63, .aload_n 0, 1, 0, 0, 0, 0), (64, .bipush 23, 2, 0, 0, 0, 0), (66, .iload 5, 2, 0, 0, 0, 0), (68, .iadd, 1, 0, 0, 0, 0), (69, .iconst 1, 1, 0, 0, 0, 0), (70, .isub, 1, 0, 0, 0, 0), (71, .invokevirtual 110, 3, 0, 11, 1, 1202), (74, .imul, 1, 0, 0, 0, 0), (75, .iadd, 1, 0, 0, 0, 0), (76, .istore_n 3, 1, 0, 0, 0, 0), (77, .iinc 5 1, 3, 0, 0, 0, 0), (80, .goto (-72), 3, 0, 0, 0, 0), (83, .aload_n 0, 1, 0, 0, 0, 0), (84, .iload_n 3, 1, 0, 0, 0, 0), (85, .iload_n 2, 1, 0, 0, 0, 0), (86, .iadd, 1, 0, 0, 0, 0), (87, .invokevirtual 158, 3, 1, 11, 1, 1301), (90, .istore 5, 2, 0, 0, 0, 0), (92, .aload_n 0, 1, 0, 0, 0, 0), (93, .iload_n 3, 1, 0, 0, 0, 0), (94, .aload_n 0, 1, 0, 0, 0, 0), (95, .iload 5, 2, 0, 0, 0, 0), (97, .invokevirtual 125, 3, 2, 11, 1, 1305), (100, .isub, 1, 0, 0, 0, 0), (101, .invokevirtual 161, 3, 3, 11, 1, 1310), (104, .istore 6, 2, 0, 0, 0, 0), (106, .aload_n 0, 1, 0, 0, 0, 0), (107, .getfield 20, 3, 1069, 11, 8, 0), (110, .iconst 1, 1, 0, 0, 0, 0), (111, .isub, 1, 0, 0, 0, 0), (112, .istore 7, 2, 0, 0, 0, 0), (114, .iload 7, 2, 0, 0, 0, 0), (116, .ifCond .le 31, 3, 0, 0, 0, 0), (119, .aload_n 0, 1, 0, 0, 0, 0), (120, .getfield 7, 3, 1061, 11, 0, 0), (123, .bipush 23, 2, 0, 0, 0, 0), (125, .iload 7, 2, 0, 0, 0, 0), (127, .iadd, 1, 0, 0, 0, 0), (128, .aload_n 0, 1, 0, 0, 0, 0), (129, .getfield 7, 3, 1061, 11, 0, 0), (132, .bipush 23, 2, 0, 0, 0, 0), (134, .iload 7, 2, 0, 0, 0, 0), (136, .iadd, 1, 0, 0, 0, 0), (137, .iconst 1, 1, 0, 0, 0, 0), (138, .isub, 1, 0, 0, 0, 0), (139, .laload, 1, 0, 0, 0, 0), (140, .lastore, 1, 0, 0, 0, 0), (141, .iinc 7 (-1), 3, 0, 0, 0, 0), (144, .goto (-30), 3, 0, 0, 0, 0), (147, .aload_n 0, 1, 0, 0, 0, 0), (148, .getfield 7, 3, 1061, 11, 0, 0), (151, .bipush 23, 2, 0, 0, 0, 0), (153, .iload 6, 2, 0, 0, 0, 0), (155, .i2l, 1, 0, 0, 0, 0), (156, .lastore, 1, 0, 0, 0, 0), (157, .iload 5, 2, 0, 0, 0, 0), (159, .ireturn, 1, 0, 0, 0, 0)]
set_option maxRecDepth 100000 in
set_option maxHeartbeats 4000000 in
theorem c_X11_byErrors (l : Launch) (G : vg_G) (hp : vg_Hp G) : vg_Ct l G vg_sh r_X11_byErrors := by
  refine vg_meth hp vg_sh_ok r_X11_byErrors k_X11_byErrors rfl (fun h => by cases h) o_X11_byErrors [r_X11_get, r_X11_nearest, r_X11_valueOf, r_X11_held] false (by decide +kernel) (by decide +kernel) ⟨_, _, rfl, rfl⟩ (List.forall_mem_cons.mpr ⟨⟨c_X11_get l G hp, Nat.le_of_ble_eq_true rfl, Nat.le_of_ble_eq_true rfl⟩, List.forall_mem_cons.mpr ⟨⟨c_X11_nearest l G hp, Nat.le_of_ble_eq_true rfl, Nat.le_of_ble_eq_true rfl⟩, List.forall_mem_cons.mpr ⟨⟨c_X11_valueOf l G hp, Nat.le_of_ble_eq_true rfl, Nat.le_of_ble_eq_true rfl⟩, List.forall_mem_cons.mpr ⟨⟨c_X11_held l G hp, Nat.le_of_ble_eq_true rfl, Nat.le_of_ble_eq_true rfl⟩, fun _ h => absurd h List.not_mem_nil⟩⟩⟩⟩) (fun h => by cases h) 600 ?_
  intro as s0 hpre
  obtain ⟨r, a1, a2, rfl, hr, i0⟩ := hpre
  simp only [List.mem_cons, List.not_mem_nil, or_false] at hr
  rcases hr with rfl
  ·
    have zm1 : (Int32.ofInt (-1)).toInt = -1 := by decide
    have z1 : (Int32.ofInt 1).toInt = 1 := by decide
    have z2 : (Int32.ofInt 2).toInt = 2 := by decide
    have z23 : (Int32.ofInt 23).toInt = 23 := by decide
    refine ⟨Nat.le_of_ble_eq_true rfl, [(8, [true, false, true, true, true, true, false, false], (fun L t => ∃ (x3 : Int32) (x4 : Int32) (x5 : Int32), L = [some (.ref 55), none, some (.int a2), some (.int x3), some (.int x4), some (.int x5), none, none] ∧ (1 : Int) ≤ x5.toInt ∧ x5.toInt ≤ (5 : Int) ∧ Iv t ∧ Kp s0 t), (fun L _ => (10000000000000000 + (5 - (vg_li L 5).toInt) * 1000000000000).toNat)), (114, [true, false, false, false, false, true, true, true], (fun L t => ∃ (x5 : Int32) (x6 : Int32) (x7 : Int32), L = [some (.ref 55), none, none, none, none, some (.int x5), some (.int x6), some (.int x7)] ∧ (0 : Int) ≤ x7.toInt ∧ x7.toInt ≤ (3 : Int) ∧ Iv t ∧ Kp s0 t), (fun L _ => (0 + ((vg_li L 7).toInt - (0)) * 1000000000000).toNat))], ?_, List.forall_mem_cons.mpr ⟨?_, List.forall_mem_cons.mpr ⟨?_, fun _ h => absurd h List.not_mem_nil⟩⟩⟩
    ·
      exact ⟨rfl, ⟨a1, (Int32.ofInt 1), (Int32.ofInt 1), rfl, (by omega), (by omega), i0, Kx.rf⟩, trivial⟩
    ·
      intro L s6 hL
      obtain ⟨w1, w2, w3, rfl, b4, b5, i7, k8⟩ := hL
      intro v9 e10
      have g11 : s6.1 55 8 = v9 := by rw [e10]
      have b12 : (1 : Int) ≤ v9.toInt ∧ v9.toInt ≤ 4 := by rw [e10]; exact Iv_55_8 i7
      refine And.intro (fun c13 => ?_) (fun c13 => ?_)
      · have c13 : v9.toInt < w3.toInt := c13
        intro v14 e15
        refine And.intro (Nat.le_of_ble_eq_true rfl) (And.intro ⟨55, v14, rfl, by decide, i7⟩ ?_)
        intro v16 s18 h17
        have h17 : s18 = s6 ∧ (True) := h17
        have q21 := h17.1.symm
        subst q21
        refine And.intro (Nat.le_of_ble_eq_true rfl) (And.intro ⟨55, v16, rfl, by decide, i7⟩ ?_)
        intro v22 s24 h23
        have h23 : s24 = s6 ∧ (True) := h23
        have q27 := h23.1.symm
        subst q27
        intro v28 e29
        refine And.intro (Nat.le_of_ble_eq_true rfl) (And.intro ⟨55, v28, rfl, by decide, i7⟩ ?_)
        intro v30 s32 h31
        have h31 : Iv s32 ∧ Kp s6 s32 ∧ (True) := h31
        have i33 := h31.1
        have k34 : Kp s0 s32 := Kx.tr k8 (h31.2.1)
        intro v35 e36
        have g37 : s32.1 55 8 = v35 := by rw [e36]
        have b38 : (1 : Int) ≤ v35.toInt ∧ v35.toInt ≤ 4 := by rw [e36]; exact Iv_55_8 i33
        intro v39 e40
        have b41 := vg_sub e40 (by omega) (by omega)
        exact ⟨rfl, ⟨v16, v30, v39, rfl, (by omega), (by omega), i33, k34⟩, (by show (0 + (v39.toInt - (0)) * 1000000000000).toNat < (10000000000000000 + (5 - w3.toInt) * 1000000000000).toNat; omega)⟩
      · have c13 : ¬ (v9.toInt < w3.toInt) := c13
        intro v42 e43
        have w44 : v9 = v42 := by rw [e43, g11]
        subst w44
        intro v45 e46
        have b47 := vg_add e46 (by omega) (by omega)
        intro v48 e49
        have b50 := vg_sub e49 (by omega) (by omega)
        intro v51 e52
        refine And.intro (by omega) ?_
        intro v53 e54
        refine And.intro (by omega) ?_
        intro v55 e56
        have b57 := (vg_rem e56 (by omega) (by omega)).2
        refine And.intro (fun c58 => ?_) (fun c58 => ?_)
        · have c58 : ¬ v55.toInt = (Int32.ofInt 1).toInt := c58
          intro v59 e60
          intro v61 e62
          have b63 := vg_add e62 (by omega) (by omega)
          intro v64 e65
          have b66 := vg_sub e65 (by omega) (by omega)
          refine And.intro (Nat.le_of_ble_eq_true rfl) (And.intro ⟨55, v64, rfl, by decide, i7, by omega⟩ ?_)
          intro v67 s69 h68
          have h68 : s69 = s6 ∧ (v67 = (s6.2 56 v64.toNatClampNeg).toInt32) := h68
          have q72 := h68.1.symm
          subst q72
          have q73 := h68.2
          intro v74 e75
          intro v76 e77
          intro v78 e79
          have b80 := vg_add e79 (by omega) (by omega)
          exact ⟨rfl, ⟨v76, v53, v78, rfl, (by omega), (by omega), i7, k8⟩, (by show (10000000000000000 + (5 - v78.toInt) * 1000000000000).toNat < (10000000000000000 + (5 - w3.toInt) * 1000000000000).toNat; omega)⟩
        · have c58 : ¬ (¬ v55.toInt = (Int32.ofInt 1).toInt) := c58
          intro v81 e82
          have b83 := vg_add e82 (by omega) (by omega)
          intro v84 e85
          have b86 := vg_sub e85 (by omega) (by omega)
          refine And.intro (Nat.le_of_ble_eq_true rfl) (And.intro ⟨55, v84, rfl, by decide, i7, by omega⟩ ?_)
          intro v87 s89 h88
          have h88 : s89 = s6 ∧ (v87 = (s6.2 56 v84.toNatClampNeg).toInt32) := h88
          have q92 := h88.1.symm
          subst q92
          have q93 := h88.2
          intro v94 e95
          intro v96 e97
          intro v98 e99
          have b100 := vg_add e99 (by omega) (by omega)
          exact ⟨rfl, ⟨v96, v53, v98, rfl, (by omega), (by omega), i7, k8⟩, (by show (10000000000000000 + (5 - v98.toInt) * 1000000000000).toNat < (10000000000000000 + (5 - w3.toInt) * 1000000000000).toNat; omega)⟩
    ·
      intro L s106 hL
      obtain ⟨w101, w102, w103, rfl, b104, b105, i107, k108⟩ := hL
      refine And.intro (fun c109 => ?_) (fun c109 => ?_)
      · have c109 : w103.toInt ≤ 0 := c109
        intro v110 e111
        refine And.intro ⟨by omega, by omega⟩ ?_
        intro s112 e113
        have i114 : Iv s112 := Iv.u2 i107 e113
        have k115 : Kp s0 s112 := Kx.u2 k108 e113 (vg_kq_pos (by omega)).1
        show Iv s112 ∧ Kp s0 s112 ∧ (True)
        exact ⟨i114, k115, (trivial)⟩
      · have c109 : ¬ (w103.toInt ≤ 0) := c109
        intro v116 e117
        have b118 := vg_add e117 (by omega) (by omega)
        intro v119 e120
        have b121 := vg_add e120 (by omega) (by omega)
        intro v122 e123
        have b124 := vg_sub e123 (by omega) (by omega)
        refine And.intro ⟨by omega, by omega⟩ ?_
        intro v125 e126
        refine And.intro ⟨by omega, by omega⟩ ?_
        intro s127 e128
        have i129 : Iv s127 := Iv.u2 i107 e128
        have k130 : Kp s0 s127 := Kx.u2 k108 e128 (vg_kq_pos (by omega)).1
        intro v131 e132
        have b133 := vg_add e132 (by omega) (by omega)
        exact ⟨rfl, ⟨w101, w102, v131, rfl, (by omega), (by omega), i129, k130⟩, (by show (0 + (v131.toInt - (0)) * 1000000000000).toNat < (0 + (w103.toInt - (0)) * 1000000000000).toNat; omega)⟩
def o_X11_bySums : List vg_I := [(0, .iload_n 1, 1, 0, 0, 0, 0), (1, .istore_n 3, 1, 0, 0, 0, 0), (2, .iconst 0, 1, 0, 0, 0, 0), (3, .istore 4, 2, 0, 0, 0, 0), (5, .iload 4, 2, 0, 0, 0, 0), (7, .aload_n 0, 1, 0, 0, 0, 0), (8, .getfield 20, 3, 1069, 11, 8, 0), (11, .if_icmp .ge 51, 3, 0, 0, 0, 0), (14, .aload_n 0, 1, 0, 0, 0, 0), (15, .getfield 7, 3, 1061, 11, 0, 0), (18, .bipush 23, 2, 0, 0, 0, 0), (20, .iload 4, 2, 0, 0, 0, 0), (22, .iadd, 1, 0, 0, 0, 0), (23, .aload_n 0, 1, 0, 0, 0, 0), (24, .aload_n 0, 1, 0, 0, 0, 0), (25, .bipush 23, 2, 0, 0, 0, 0), (27, .iload 4, 2, 0, 0, 0, 0), (29, .iadd, 1, 0, 0, 0, 0), (30, .invokevirtual 110, 3, 0, 11, 1, 1202), (33, .iload_n 3, 1, 0, 0, 0, 0), (34, .iadd, 1, 0, 0, 0, 0), (35, .aload_n 0, 1, 0, 0, 0, 0), (36, .iconst 2, 1, 0, 0, 0, 0), (37, .invokevirtual 110, 3, 0, 11, 1, 1202), (40, .isub, 1, 0, 0, 0, 0), (41, .invokevirtual 161, 3, 1, 11, 1, 1310), (44, .i2l, 1, 0, 0, 0, 0), (45, .lastore, 1, 0, 0, 0, 0), (46, .aload_n 0, 1, 0, 0, 0, 0), (47, .bipush 23, 2, 0, 0, 0, 0), (49, .iload 4, 2, 0, 0, 0, 0), (51, .iadd, 1, 0, 0, 0, 0), (52, .invokevirtual 110, 3, 0, 11, 1, 1202), (55, .istore_n 3, 1, 0, 0, 0, 0), (56, .iinc 4 1, 3, 0, 0, 0, 0), (59, .goto (-54), 3, 0, 0, 0, 0), (62, .aload_n 0, 1, 0, 0, 0, 0), (63, .iload_n 3, 1, 0, 0, 0, 0), (64, .iload_n 2, 1, 0, 0, 0, 0), (65, .iadd, 1, 0, 0, 0, 0), (66, .invokevirtual 158, 3, 2, 11, 1, 1301), (69, .ireturn, 1, 0, 0, 0, 0)]
set_option maxRecDepth 100000 in
set_option maxHeartbeats 4000000 in
theorem c_X11_bySums (l : Launch) (G : vg_G) (hp : vg_Hp G) : vg_Ct l G vg_sh r_X11_bySums := by
  refine vg_meth hp vg_sh_ok r_X11_bySums k_X11_bySums rfl (fun h => by cases h) o_X11_bySums [r_X11_get, r_X11_held, r_X11_nearest] false (by decide +kernel) (by decide +kernel) ⟨_, _, rfl, rfl⟩ (List.forall_mem_cons.mpr ⟨⟨c_X11_get l G hp, Nat.le_of_ble_eq_true rfl, Nat.le_of_ble_eq_true rfl⟩, List.forall_mem_cons.mpr ⟨⟨c_X11_held l G hp, Nat.le_of_ble_eq_true rfl, Nat.le_of_ble_eq_true rfl⟩, List.forall_mem_cons.mpr ⟨⟨c_X11_nearest l G hp, Nat.le_of_ble_eq_true rfl, Nat.le_of_ble_eq_true rfl⟩, fun _ h => absurd h List.not_mem_nil⟩⟩⟩) (fun h => by cases h) 600 ?_
  intro as s0 hpre
  obtain ⟨r, a1, a2, rfl, hr, i0⟩ := hpre
  simp only [List.mem_cons, List.not_mem_nil, or_false] at hr
  rcases hr with rfl
  ·
    have z0 : (Int32.ofInt 0).toInt = 0 := by decide
    have z1 : (Int32.ofInt 1).toInt = 1 := by decide
    have z2 : (Int32.ofInt 2).toInt = 2 := by decide
    have z23 : (Int32.ofInt 23).toInt = 23 := by decide
    refine ⟨Nat.le_of_ble_eq_true rfl, [(5, [true, false, true, true, true], (fun L t => ∃ (x3 : Int32) (x4 : Int32), L = [some (.ref 55), none, some (.int a2), some (.int x3), some (.int x4)] ∧ (0 : Int) ≤ x4.toInt ∧ x4.toInt ≤ (4 : Int) ∧ Iv t ∧ Kp s0 t), (fun L _ => (0 + (4 - (vg_li L 4).toInt) * 1000000000000).toNat))], ?_, List.forall_mem_cons.mpr ⟨?_, fun _ h => absurd h List.not_mem_nil⟩⟩
    ·
      exact ⟨rfl, ⟨a1, (Int32.ofInt 0), rfl, (by omega), (by omega), i0, Kx.rf⟩, trivial⟩
    ·
      intro L s5 hL
      obtain ⟨w1, w2, rfl, b3, b4, i6, k7⟩ := hL
      intro v8 e9
      have g10 : s5.1 55 8 = v8 := by rw [e9]
      have b11 : (1 : Int) ≤ v8.toInt ∧ v8.toInt ≤ 4 := by rw [e9]; exact Iv_55_8 i6
      refine And.intro (fun c12 => ?_) (fun c12 => ?_)
      · have c12 : v8.toInt ≤ w2.toInt := c12
        intro v13 e14
        refine And.intro (Nat.le_of_ble_eq_true rfl) (And.intro ⟨55, v13, rfl, by decide, i6⟩ ?_)
        intro v15 s17 h16
        have h16 : s17 = s5 ∧ (True) := h16
        have q20 := h16.1.symm
        subst q20
        show Iv s5 ∧ Kp s0 s5 ∧ (True)
        exact ⟨i6, k7, (trivial)⟩
      · have c12 : ¬ (v8.toInt ≤ w2.toInt) := c12
        intro v21 e22
        have b23 := vg_add e22 (by omega) (by omega)
        intro v24 e25
        have b26 := vg_add e25 (by omega) (by omega)
        refine And.intro (Nat.le_of_ble_eq_true rfl) (And.intro ⟨55, v24, rfl, by decide, i6, by omega⟩ ?_)
        intro v27 s29 h28
        have h28 : s29 = s5 ∧ (v27 = (s5.2 56 v24.toNatClampNeg).toInt32) := h28
        have q32 := h28.1.symm
        subst q32
        have q33 := h28.2
        intro v34 e35
        refine And.intro (Nat.le_of_ble_eq_true rfl) (And.intro ⟨55, (Int32.ofInt 2), rfl, by decide, i6, by omega⟩ ?_)
        intro v36 s38 h37
        have h37 : s38 = s5 ∧ (v36 = (s5.2 56 (Int32.ofInt 2).toNatClampNeg).toInt32) := h37
        have q41 := h37.1.symm
        subst q41
        have q42 := h37.2
        intro v43 e44
        refine And.intro (Nat.le_of_ble_eq_true rfl) (And.intro ⟨55, v43, rfl, by decide, i6⟩ ?_)
        intro v45 s47 h46
        have h46 : Iv s47 ∧ Kp s5 s47 ∧ (True) := h46
        have i48 := h46.1
        have k49 : Kp s0 s47 := Kx.tr k7 (h46.2.1)
        intro v50 e51
        refine And.intro ⟨by omega, by omega⟩ ?_
        intro s52 e53
        have i54 : Iv s52 := Iv.u2 i48 e53
        have k55 : Kp s0 s52 := Kx.u2 k49 e53 (vg_kq_pos (by omega)).1
        intro v56 e57
        have b58 := vg_add e57 (by omega) (by omega)
        refine And.intro (Nat.le_of_ble_eq_true rfl) (And.intro ⟨55, v56, rfl, by decide, i54, by omega⟩ ?_)
        intro v59 s61 h60
        have h60 : s61 = s52 ∧ (v59 = (s52.2 56 v56.toNatClampNeg).toInt32) := h60
        have q64 := h60.1.symm
        subst q64
        have q65 := h60.2
        intro v66 e67
        have b68 := vg_add e67 (by omega) (by omega)
        exact ⟨rfl, ⟨v59, v66, rfl, (by omega), (by omega), i54, k55⟩, (by show (0 + (4 - v66.toInt) * 1000000000000).toNat < (0 + (4 - w2.toInt) * 1000000000000).toNat; omega)⟩
def o_X11_byCascade : List vg_I := [(0, .iload_n 1, 1, 0, 0, 0, 0), (1, .istore_n 3, 1, 0, 0, 0, 0), (2, .aload_n 0, 1, 0, 0, 0, 0), (3, .invokevirtual 151, 3, 0, 11, 0, 1322), (6, .istore 4, 2, 0, 0, 0, 0), (8, .iconst 0, 1, 0, 0, 0, 0), (9, .istore 5, 2, 0, 0, 0, 0), (11, .iload 5, 2, 0, 0, 0, 0), (13, .aload_n 0, 1, 0, 0, 0, 0), (14, .getfield 20, 3, 1069, 11, 8, 0), (17, .if_icmp .ge 241, 3, 0, 0, 0, 0), (20, .iload_n 3, 1, 0, 0, 0, 0), (21, .aload_n 0, 1, 0, 0, 0, 0), (22, .bipush 23, 2, 0, 0, 0, 0), (24, .iload 5, 2, 0, 0, 0, 0), (26, .iadd, 1, 0, 0, 0, 0), (27, .invokevirtual 110, 3, 1, 11, 1, 1202), (30, .iadd, 1, 0, 0, 0, 0), (31, .istore 6, 2, 0, 0, 0, 0), (33, .aload_n 0, 1, 0, 0, 0, 0), (34, .iload 5, 2, 0, 0, 0, 0), (36, .ifCond .ne 10, 3, 0, 0, 0, 0), (39, .iload 6, 2, 0, 0, 0, 0), (41, .iload_n 2, 1, 0, 0, 0, 0), (42, .iadd, 1, 0, 0, 0, 0), (43, .goto 5, 3, 0, 0, 0, 0), (46, .iload 6, 2, 0, 0, 0, 0), (48, .invokevirtual 158, 3, 2, 11, 1, 1301), (51, .istore 7, 2, 0, 0, 0, 0), (53, .aload_n 0, 1, 0, 0, 0, 0), (54, .getfield 7, 3, 1061, 11, 0, 0), (57, .bipush 23, 2, 0, 0, 0, 0), (59, .iload 5, 2, 0, 0, 0, 0), (61, .iadd, 1, 0, 0, 0, 0), (62, .aload_n 0, 1, 0, 0, 0, 0), (63, .iload 6, 2, 0, 0, 0, 0), (65, .aload_n 0, 1, 0, 0, 0, 0), (66, .iload 7, 2, 0, 0, 0, 0), (68, .invokevirtual 125, 3, 3, 11, 1, 1305), (71, .isub, 1, 0, 0, 0, 0), (72, .invokevirtual 161, 3, 4, 11, 1, 1310), (75, .i2l, 1, 0, 0, 0, 0), (76, .lastore, 1, 0, 0, 0, 0), (77, .aload_n 0, 1, 0, 0, 0, 0), (78, .bipush 23, 2, 0, 0, 0, 0), (80, .iload 5, 2, 0, 0, 0, 0), (82, .iadd, 1, 0, 0, 0, 0), (83, .invokevirtual 110, 3, 1, 11, 1, 1202), (86, .istore_n 3, 1, 0, 0, 0, 0), (87, .iload 4, 2, 0, 0, 0, 0), (89, .iload 7, 2, 0, 0, 0, 0), (91, .iadd, 1, 0, 0, 0, 0), (92, .istore 4, 2, 0, 0, 0, 0), (94, .iconst 1, 1, 0, 0, 0, 0), (95, .istore 8, 2, 0, 0, 0, 0), (97, .iconst 1, 1, 0, 0, 0, 0), (98, .istore 9, 2, 0, 0, 0, 0), (100, .iload 9, 2, 0, 0, 0, 0), (102, .iload 5, 2, 0, 0, 0, 0), (104, .if_icmp .gt 79, 3, 0, 0, 0, 0), (107, .iload 8, 2, 0, 0, 0, 0), (109, .iload 5, 2, 0, 0, 0, 0), (111, .iconst 1, 1, 0, 0, 0, 0), (112, .iadd, 1, 0, 0, 0, 0), (113, .iload 9, 2, 0, 0, 0, 0), (115, .isub, 1, 0, 0, 0, 0), (116, .imul, 1, 0, 0, 0, 0), (117, .iload 9, 2, 0, 0, 0, 0), (119, .idiv, 1, 0, 0, 0, 0), (120, .istore 8, 2, 0, 0, 0, 0), (122, .iload 4, 2, 0, 0, 0, 0), (124, .iload 9, 2, 0, 0, 0, 0), (126, .iconst 2, 1, 0, 0, 0, 0), (127, .irem, 1, 0, 0, 0, 0), (128, .iconst 1, 1, 0, 0, 0, 0), (129, .if_icmp .ne 26, 3, 0, 0, 0, 0), (132, .iload 8, 2, 0, 0, 0, 0), (134, .ineg, 1, 0, 0, 0, 0), (135, .aload_n 0, 1, 0, 0, 0, 0), (136, .bipush 27, 2, 0, 0, 0, 0), (138, .iconst 3, 1, 0, 0, 0, 0), (139, .iload 5, 2, 0, 0, 0, 0), (141, .imul, 1, 0, 0, 0, 0), (142, .iadd, 1, 0, 0, 0, 0), (143, .iload 9, 2, 0, 0, 0, 0), (145, .iadd, 1, 0, 0, 0, 0), (146, .iconst 1, 1, 0, 0, 0, 0), (147, .isub, 1, 0, 0, 0, 0), (148, .invokevirtual 110, 3, 1, 11, 1, 1202), (151, .imul, 1, 0, 0, 0, 0), (152, .goto 22, 3, 0, 0, 0, 0), (155, .iload 8, 2, 0, 0, 0, 0), (157, .aload_n 0, 1, 0, 0, 0, 0), (158, .bipush 27, 2, 0, 0, 0, 0), (160, .iconst 3, 1, 0, 0, 0, 0), (161, .iload 5, 2, 0, 0, 0, 0), (163, .imul, 1, 0, 0, 0, 0), (164, .iadd, 1, 0, 0, 0, 0), (165, .iload 9, 2, 0, 0, 0, 0), (167, .iadd, 1, 0, 0, 0, 0), (168, .iconst 1, 1, 0, 0, 0, 0), (169, .isub, 1, 0, 0, 0, 0), (170, .invokevirtual 110, 3, 1, 11, 1, 1202), (173, .imul, 1, 0, 0, 0, 0), (174, .iadd, 1, 0, 0, 0, 0), (175, .istore 4, 2, 0, 0, 0, 0), (177, .iinc 9 1, 3, 0, 0, 0, 0), (180, .goto (-80), 3, 0, 0, 0, 0), (183, .iload 5, 2, 0, 0, 0, 0), (185, .iconst 1, 1, 0, 0, 0, 0), (186, .isub, 1, 0, 0, 0, 0), (187, .istore 9, 2, 0, 0, 0, 0), (189, .iload 9, 2, 0, 0, 0, 0), (191, .ifCond .le 41, 3, 0, 0, 0, 0), (194, .aload_n 0, 1, 0, 0, 0, 0), (195, .getfield 7, 3, 1061, 11, 0, 0), (198, .bipush 27, 2, 0, 0, 0, 0), (200, .iconst 3, 1, 0, 0, 0, 0), (201, .iload 5, 2, 0, 0, 0, 0), (203, .imul, 1, 0, 0, 0, 0), (204, .iadd, 1, 0, 0, 0, 0), (205, .iload 9, 2, 0, 0, 0, 0), (207, .iadd, 1, 0, 0, 0, 0), (208, .aload_n 0, 1, 0, 0, 0, 0), (209, .getfield 7, 3, 1061, 11, 0, 0), (212, .bipush 27, 2, 0, 0, 0, 0), (214, .iconst 3, 1, 0, 0, 0, 0), (215, .iload 5, 2, 0, 0, 0, 0), (217, .imul, 1, 0, 0, 0, 0), (218, .iadd, 1, 0, 0, 0, 0), (219, .iload 9, 2, 0, 0, 0, 0), (221, .iadd, 1, 0, 0, 0, 0), (222, .iconst 1, 1, 0, 0, 0, 0), (223, .isub, 1, 0, 0, 0, 0), (224, .laload, 1, 0, 0, 0, 0), (225, .lastore, 1, 0, 0, 0, 0), (226, .iinc 9 (-1), 3, 0, 0, 0, 0), (229, .goto (-40), 3, 0, 0, 0, 0), (232, .iload 5, 2, 0, 0, 0, 0), (234, .ifCond .le 18, 3, 0, 0, 0, 0), (237, .aload_n 0, 1, 0, 0, 0, 0), (238, .getfield 7, 3, 1061, 11, 0, 0), (241, .bipush 27, 2, 0, 0, 0, 0), (243, .iconst 3, 1, 0, 0, 0, 0), (244, .iload 5, 2, 0, 0, 0, 0), (246, .imul, 1, 0, 0, 0, 0), (247, .iadd, 1, 0, 0, 0, 0), (248, .iload 7, 2, 0, 0, 0, 0), (250, .i2l, 1, 0, 0, 0, 0), (251, .lastore, 1, 0, 0, 0, 0), (252, .iinc 5 1, 3, 0, 0, 0, 0), (255, .goto (-244), 3, 0, 0, 0, 0), (258, .iload 4, 2, 0, 0, 0, 0), (260, .ireturn, 1, 0, 0, 0, 0)]
set_option maxRecDepth 100000 in
set_option maxHeartbeats 4000000 in
theorem c_X11_byCascade (l : Launch) (G : vg_G) (hp : vg_Hp G) : vg_Ct l G vg_sh r_X11_byCascade := by
  refine vg_meth hp vg_sh_ok r_X11_byCascade k_X11_byCascade rfl (fun h => by cases h) o_X11_byCascade [r_X11_besides, r_X11_get, r_X11_nearest, r_X11_valueOf, r_X11_held] false (by decide +kernel) (by decide +kernel) ⟨_, _, rfl, rfl⟩ (List.forall_mem_cons.mpr ⟨⟨c_X11_besides l G hp, Nat.le_of_ble_eq_true rfl, Nat.le_of_ble_eq_true rfl⟩, List.forall_mem_cons.mpr ⟨⟨c_X11_get l G hp, Nat.le_of_ble_eq_true rfl, Nat.le_of_ble_eq_true rfl⟩, List.forall_mem_cons.mpr ⟨⟨c_X11_nearest l G hp, Nat.le_of_ble_eq_true rfl, Nat.le_of_ble_eq_true rfl⟩, List.forall_mem_cons.mpr ⟨⟨c_X11_valueOf l G hp, Nat.le_of_ble_eq_true rfl, Nat.le_of_ble_eq_true rfl⟩, List.forall_mem_cons.mpr ⟨⟨c_X11_held l G hp, Nat.le_of_ble_eq_true rfl, Nat.le_of_ble_eq_true rfl⟩, fun _ h => absurd h List.not_mem_nil⟩⟩⟩⟩⟩) (fun h => by cases h) 600 ?_
  intro as s0 hpre
  obtain ⟨r, a1, a2, rfl, hr, i0⟩ := hpre
  simp only [List.mem_cons, List.not_mem_nil, or_false] at hr
  rcases hr with rfl
  ·
    have zm1 : (Int32.ofInt (-1)).toInt = -1 := by decide
    have z0 : (Int32.ofInt 0).toInt = 0 := by decide
    have z1 : (Int32.ofInt 1).toInt = 1 := by decide
    have z2 : (Int32.ofInt 2).toInt = 2 := by decide
    have z3 : (Int32.ofInt 3).toInt = 3 := by decide
    have z23 : (Int32.ofInt 23).toInt = 23 := by decide
    have z27 : (Int32.ofInt 27).toInt = 27 := by decide
    refine ⟨Nat.le_of_ble_eq_true rfl, [(11, [true, false, true, true, true, true, false, false, false, false], (fun L t => ∃ (x3 : Int32) (x4 : Int32) (x5 : Int32), L = [some (.ref 55), none, some (.int a2), some (.int x3), some (.int x4), some (.int x5), none, none, none, none] ∧ (0 : Int) ≤ x5.toInt ∧ x5.toInt ≤ (4 : Int) ∧ Iv t ∧ Kp s0 t), (fun L _ => (0 + (4 - (vg_li L 5).toInt) * 1000000000000).toNat)), (100, [true, false, true, true, true, true, false, true, true, true], (fun L t => ∃ (x3 : Int32) (x4 : Int32) (x5 : Int32) (x7 : Int32) (x8 : Int32) (x9 : Int32), L = [some (.ref 55), none, some (.int a2), some (.int x3), some (.int x4), some (.int x5), none, some (.int x7), some (.int x8), some (.int x9)] ∧ (0 : Int) ≤ x5.toInt ∧ x5.toInt ≤ (3 : Int) ∧ (1 : Int) ≤ x9.toInt ∧ x9.toInt ≤ (4 : Int) ∧ Iv t ∧ Kp s0 t), (fun L _ => (0 + (4 - (vg_li L 5).toInt) * 1000000000000 - 1000000000000 + 10000000000 + (4 - (vg_li L 9).toInt) * 100000 + 1).toNat)), (189, [true, false, true, true, true, true, false, true, false, true], (fun L t => ∃ (x3 : Int32) (x4 : Int32) (x5 : Int32) (x7 : Int32) (x9 : Int32), L = [some (.ref 55), none, some (.int a2), some (.int x3), some (.int x4), some (.int x5), none, some (.int x7), none, some (.int x9)] ∧ (0 : Int) ≤ x5.toInt ∧ x5.toInt ≤ (3 : Int) ∧ (-1 : Int) ≤ x9.toInt ∧ x9.toInt ≤ (2 : Int) ∧ Iv t ∧ Kp s0 t), (fun L _ => (0 + (4 - (vg_li L 5).toInt) * 1000000000000 - 1000000000000 + 0 + ((vg_li L 9).toInt - (-1)) * 100000 + 1).toNat))], ?_, List.forall_mem_cons.mpr ⟨?_, List.forall_mem_cons.mpr ⟨?_, List.forall_mem_cons.mpr ⟨?_, fun _ h => absurd h List.not_mem_nil⟩⟩⟩⟩
    ·
      refine And.intro (Nat.le_of_ble_eq_true rfl) (And.intro ⟨55, rfl, by decide, i0⟩ ?_)
      intro v1 s3 h2
      have h2 : s3 = s0 ∧ (True) := h2
      have q6 := h2.1.symm
      subst q6
      exact ⟨rfl, ⟨a1, v1, (Int32.ofInt 0), rfl, (by omega), (by omega), i0, Kx.rf⟩, trivial⟩
    ·
      intro L s12 hL
      obtain ⟨w7, w8, w9, rfl, b10, b11, i13, k14⟩ := hL
      intro v15 e16
      have g17 : s12.1 55 8 = v15 := by rw [e16]
      have b18 : (1 : Int) ≤ v15.toInt ∧ v15.toInt ≤ 4 := by rw [e16]; exact Iv_55_8 i13
      refine And.intro (fun c19 => ?_) (fun c19 => ?_)
      · have c19 : v15.toInt ≤ w9.toInt := c19
        show Iv s12 ∧ Kp s0 s12 ∧ (True)
        exact ⟨i13, k14, (trivial)⟩
      · have c19 : ¬ (v15.toInt ≤ w9.toInt) := c19
        intro v20 e21
        have b22 := vg_add e21 (by omega) (by omega)
        refine And.intro (Nat.le_of_ble_eq_true rfl) (And.intro ⟨55, v20, rfl, by decide, i13, by omega⟩ ?_)
        intro v23 s25 h24
        have h24 : s25 = s12 ∧ (v23 = (s12.2 56 v20.toNatClampNeg).toInt32) := h24
        have q28 := h24.1.symm
        subst q28
        have q29 := h24.2
        intro v30 e31
        refine And.intro (fun c32 => ?_) (fun c32 => ?_)
        · have c32 : ¬ w9.toInt = 0 := c32
          refine And.intro (Nat.le_of_ble_eq_true rfl) (And.intro ⟨55, v30, rfl, by decide, i13⟩ ?_)
          intro v33 s35 h34
          have h34 : s35 = s12 ∧ (True) := h34
          have q38 := h34.1.symm
          subst q38
          intro v39 e40
          have b41 := vg_add e40 (by omega) (by omega)
          refine And.intro (Nat.le_of_ble_eq_true rfl) (And.intro ⟨55, v33, rfl, by decide, i13⟩ ?_)
          intro v42 s44 h43
          have h43 : s44 = s12 ∧ (True) := h43
          have q47 := h43.1.symm
          subst q47
          intro v48 e49
          refine And.intro (Nat.le_of_ble_eq_true rfl) (And.intro ⟨55, v48, rfl, by decide, i13⟩ ?_)
          intro v50 s52 h51
          have h51 : Iv s52 ∧ Kp s12 s52 ∧ (True) := h51
          have i53 := h51.1
          have k54 : Kp s0 s52 := Kx.tr k14 (h51.2.1)
          intro v55 e56
          refine And.intro ⟨by omega, by omega⟩ ?_
          intro s57 e58
          have i59 : Iv s57 := Iv.u2 i53 e58
          have k60 : Kp s0 s57 := Kx.u2 k54 e58 (vg_kq_pos (by omega)).1
          intro v61 e62
          have b63 := vg_add e62 (by omega) (by omega)
          refine And.intro (Nat.le_of_ble_eq_true rfl) (And.intro ⟨55, v61, rfl, by decide, i59, by omega⟩ ?_)
          intro v64 s66 h65
          have h65 : s66 = s57 ∧ (v64 = (s57.2 56 v61.toNatClampNeg).toInt32) := h65
          have q69 := h65.1.symm
          subst q69
          have q70 := h65.2
          intro v71 e72
          exact ⟨rfl, ⟨v64, v71, w9, v33, (Int32.ofInt 1), (Int32.ofInt 1), rfl, (by omega), (by omega), (by omega), (by omega), i59, k60⟩, (by show (0 + (4 - w9.toInt) * 1000000000000 - 1000000000000 + 10000000000 + (4 - (Int32.ofInt 1).toInt) * 100000 + 1).toNat < (0 + (4 - w9.toInt) * 1000000000000).toNat; omega)⟩
        · have c32 : ¬ (¬ w9.toInt = 0) := c32
          intro v73 e74
          refine And.intro (Nat.le_of_ble_eq_true rfl) (And.intro ⟨55, v73, rfl, by decide, i13⟩ ?_)
          intro v75 s77 h76
          have h76 : s77 = s12 ∧ (True) := h76
          have q80 := h76.1.symm
          subst q80
          intro v81 e82
          have b83 := vg_add e82 (by omega) (by omega)
          refine And.intro (Nat.le_of_ble_eq_true rfl) (And.intro ⟨55, v75, rfl, by decide, i13⟩ ?_)
          intro v84 s86 h85
          have h85 : s86 = s12 ∧ (True) := h85
          have q89 := h85.1.symm
          subst q89
          intro v90 e91
          refine And.intro (Nat.le_of_ble_eq_true rfl) (And.intro ⟨55, v90, rfl, by decide, i13⟩ ?_)
          intro v92 s94 h93
          have h93 : Iv s94 ∧ Kp s12 s94 ∧ (True) := h93
          have i95 := h93.1
          have k96 : Kp s0 s94 := Kx.tr k14 (h93.2.1)
          intro v97 e98
          refine And.intro ⟨by omega, by omega⟩ ?_
          intro s99 e100
          have i101 : Iv s99 := Iv.u2 i95 e100
          have k102 : Kp s0 s99 := Kx.u2 k96 e100 (vg_kq_pos (by omega)).1
          intro v103 e104
          have b105 := vg_add e104 (by omega) (by omega)
          refine And.intro (Nat.le_of_ble_eq_true rfl) (And.intro ⟨55, v103, rfl, by decide, i101, by omega⟩ ?_)
          intro v106 s108 h107
          have h107 : s108 = s99 ∧ (v106 = (s99.2 56 v103.toNatClampNeg).toInt32) := h107
          have q111 := h107.1.symm
          subst q111
          have q112 := h107.2
          intro v113 e114
          exact ⟨rfl, ⟨v106, v113, w9, v75, (Int32.ofInt 1), (Int32.ofInt 1), rfl, (by omega), (by omega), (by omega), (by omega), i101, k102⟩, (by show (0 + (4 - w9.toInt) * 1000000000000 - 1000000000000 + 10000000000 + (4 - (Int32.ofInt 1).toInt) * 100000 + 1).toNat < (0 + (4 - w9.toInt) * 1000000000000).toNat; omega)⟩
    ·
      intro L s125 hL
      obtain ⟨w115, w116, w117, w120, w121, w122, rfl, b118, b119, b123, b124, i126, k127⟩ := hL
      refine And.intro (fun c128 => ?_) (fun c128 => ?_)
      · have c128 : w117.toInt < w122.toInt := c128
        intro v129 e130
        have b131 := vg_sub e130 (by omega) (by omega)
        exact ⟨rfl, ⟨w115, w116, w117, w120, v129, rfl, (by omega), (by omega), (by omega), (by omega), i126, k127⟩, (by show (0 + (4 - w117.toInt) * 1000000000000 - 1000000000000 + 0 + (v129.toInt - (-1)) * 100000 + 1).toNat < (0 + (4 - w117.toInt) * 1000000000000 - 1000000000000 + 10000000000 + (4 - w122.toInt) * 100000 + 1).toNat; omega)⟩
      · have c128 : ¬ (w117.toInt < w122.toInt) := c128
        intro v132 e133
        have b134 := vg_add e133 (by omega) (by omega)
        intro v135 e136
        have b137 := vg_sub e136 (by omega) (by omega)
        intro v138 e139
        refine And.intro (by omega) ?_
        intro v140 e141
        refine And.intro (by omega) ?_
        intro v142 e143
        have b144 := (vg_rem e143 (by omega) (by omega)).2
        refine And.intro (fun c145 => ?_) (fun c145 => ?_)
        · have c145 : ¬ v142.toInt = (Int32.ofInt 1).toInt := c145
          intro v146 e147
          have b148 : v146.toInt = (3) * w117.toInt := vg_mulL e147 (by omega) (by omega) (by omega)
          intro v149 e150
          have b151 := vg_add e150 (by omega) (by omega)
          intro v152 e153
          have b154 := vg_add e153 (by omega) (by omega)
          intro v155 e156
          have b157 := vg_sub e156 (by omega) (by omega)
          refine And.intro (Nat.le_of_ble_eq_true rfl) (And.intro ⟨55, v155, rfl, by decide, i126, by omega⟩ ?_)
          intro v158 s160 h159
          have h159 : s160 = s125 ∧ (v158 = (s125.2 56 v155.toNatClampNeg).toInt32) := h159
          have q163 := h159.1.symm
          subst q163
          have q164 := h159.2
          intro v165 e166
          intro v167 e168
          intro v169 e170
          have b171 := vg_add e170 (by omega) (by omega)
          exact ⟨rfl, ⟨w115, v167, w117, w120, v140, v169, rfl, (by omega), (by omega), (by omega), (by omega), i126, k127⟩, (by show (0 + (4 - w117.toInt) * 1000000000000 - 1000000000000 + 10000000000 + (4 - v169.toInt) * 100000 + 1).toNat < (0 + (4 - w117.toInt) * 1000000000000 - 1000000000000 + 10000000000 + (4 - w122.toInt) * 100000 + 1).toNat; omega)⟩
        · have c145 : ¬ (¬ v142.toInt = (Int32.ofInt 1).toInt) := c145
          intro v172 e173
          intro v174 e175
          have b176 : v174.toInt = (3) * w117.toInt := vg_mulL e175 (by omega) (by omega) (by omega)
          intro v177 e178
          have b179 := vg_add e178 (by omega) (by omega)
          intro v180 e181
          have b182 := vg_add e181 (by omega) (by omega)
          intro v183 e184
          have b185 := vg_sub e184 (by omega) (by omega)
          refine And.intro (Nat.le_of_ble_eq_true rfl) (And.intro ⟨55, v183, rfl, by decide, i126, by omega⟩ ?_)
          intro v186 s188 h187
          have h187 : s188 = s125 ∧ (v186 = (s125.2 56 v183.toNatClampNeg).toInt32) := h187
          have q191 := h187.1.symm
          subst q191
          have q192 := h187.2
          intro v193 e194
          intro v195 e196
          intro v197 e198
          have b199 := vg_add e198 (by omega) (by omega)
          exact ⟨rfl, ⟨w115, v195, w117, w120, v140, v197, rfl, (by omega), (by omega), (by omega), (by omega), i126, k127⟩, (by show (0 + (4 - w117.toInt) * 1000000000000 - 1000000000000 + 10000000000 + (4 - v197.toInt) * 100000 + 1).toNat < (0 + (4 - w117.toInt) * 1000000000000 - 1000000000000 + 10000000000 + (4 - w122.toInt) * 100000 + 1).toNat; omega)⟩
    ·
      intro L s209 hL
      obtain ⟨w200, w201, w202, w205, w206, rfl, b203, b204, b207, b208, i210, k211⟩ := hL
      refine And.intro (fun c212 => ?_) (fun c212 => ?_)
      · have c212 : w206.toInt ≤ 0 := c212
        refine And.intro (fun c213 => ?_) (fun c213 => ?_)
        · have c213 : w202.toInt ≤ 0 := c213
          intro v214 e215
          have b216 := vg_add e215 (by omega) (by omega)
          exact ⟨rfl, ⟨w200, w201, v214, rfl, (by omega), (by omega), i210, k211⟩, (by show (0 + (4 - v214.toInt) * 1000000000000).toNat < (0 + (4 - w202.toInt) * 1000000000000 - 1000000000000 + 0 + (w206.toInt - (-1)) * 100000 + 1).toNat; omega)⟩
        · have c213 : ¬ (w202.toInt ≤ 0) := c213
          intro v217 e218
          have b219 : v217.toInt = (3) * w202.toInt := vg_mulL e218 (by omega) (by omega) (by omega)
          intro v220 e221
          have b222 := vg_add e221 (by omega) (by omega)
          intro v223 e224
          refine And.intro ⟨by omega, by omega⟩ ?_
          intro s225 e226
          have i227 : Iv s225 := Iv.u2 i210 e226
          have k228 : Kp s0 s225 := Kx.u2 k211 e226 (vg_kq_pos (by omega)).1
          intro v229 e230
          have b231 := vg_add e230 (by omega) (by omega)
          exact ⟨rfl, ⟨w200, w201, v229, rfl, (by omega), (by omega), i227, k228⟩, (by show (0 + (4 - v229.toInt) * 1000000000000).toNat < (0 + (4 - w202.toInt) * 1000000000000 - 1000000000000 + 0 + (w206.toInt - (-1)) * 100000 + 1).toNat; omega)⟩
      · have c212 : ¬ (w206.toInt ≤ 0) := c212
        intro v232 e233
        have b234 : v232.toInt = (3) * w202.toInt := vg_mulL e233 (by omega) (by omega) (by omega)
        intro v235 e236
        have b237 := vg_add e236 (by omega) (by omega)
        intro v238 e239
        have b240 := vg_add e239 (by omega) (by omega)
        intro v241 e242
        have b243 : v241.toInt = (3) * w202.toInt := vg_mulL e242 (by omega) (by omega) (by omega)
        intro v244 e245
        have b246 := vg_add e245 (by omega) (by omega)
        intro v247 e248
        have b249 := vg_add e248 (by omega) (by omega)
        intro v250 e251
        have b252 := vg_sub e251 (by omega) (by omega)
        refine And.intro ⟨by omega, by omega⟩ ?_
        intro v253 e254
        refine And.intro ⟨by omega, by omega⟩ ?_
        intro s255 e256
        have i257 : Iv s255 := Iv.u2 i210 e256
        have k258 : Kp s0 s255 := Kx.u2 k211 e256 (vg_kq_pos (by omega)).1
        intro v259 e260
        have b261 := vg_add e260 (by omega) (by omega)
        exact ⟨rfl, ⟨w200, w201, w202, w205, v259, rfl, (by omega), (by omega), (by omega), (by omega), i257, k258⟩, (by show (0 + (4 - w202.toInt) * 1000000000000 - 1000000000000 + 0 + (v259.toInt - (-1)) * 100000 + 1).toNat < (0 + (4 - w202.toInt) * 1000000000000 - 1000000000000 + 0 + (w206.toInt - (-1)) * 100000 + 1).toNat; omega)⟩
def o_X11_loops : List vg_I := [(0, .aload_n 0, 1, 0, 0, 0, 0), (1, .getfield 7, 3, 1061, 11, 0, 0), (4, .sipush 144, 3, 0, 0, 0, 0), (7, .lconst 0, 1, 0, 0, 0, 0), (8, .lastore, 1, 0, 0, 0, 0), (9, .aload_n 0, 1, 0, 0, 0, 0), (10, .getfield 99, 3, 1068, 11, 7, 0), (13, .ifCond .ne 12, 3, 0, 0, 0, 0), (16, .aload_n 0, 1, 0, 0, 0, 0), (17, .iload_n 1, 1, 0, 0, 0, 0), (18, .iload_n 2, 1, 0, 0, 0, 0), (19, .invokevirtual 142, 3, 0, 11, 2, 1297), (22, .goto 26, 3, 0, 0, 0, 0), (25, .aload_n 0, 1, 0, 0, 0, 0), (26, .getfield 99, 3, 1068, 11, 7, 0), (29, .iconst 1, 1, 0, 0, 0, 0), (30, .if_icmp .ne 12, 3, 0, 0, 0, 0), (33, .aload_n 0, 1, 0, 0, 0, 0), (34, .iload_n 1, 1, 0, 0, 0, 0), (35, .iload_n 2, 1, 0, 0, 0, 0), (36, .invokevirtual 145, 3, 1, 11, 2, 1314), (39, .goto 9, 3, 0, 0, 0, 0), (42, .aload_n 0, 1, 0, 0, 0, 0), (43, .iload_n 1, 1, 0, 0, 0, 0), (44, .iload_n 2, 1, 0, 0, 0, 0), (45, .invokevirtual 148, 3, 2, 11, 2, 1318), (48, .istore_n 3, 1, 0, 0, 0, 0), (49, .aload_n 0, 1, 0, 0, 0, 0), (50, .getfield 7, 3, 1061, 11, 0, 0), (53, .iconst 2, 1, 0, 0, 0, 0), (54, .aload_n 0, 1, 0, 0, 0, 0), (55, .getfield 23, 3, 1070, 11, 9, 0), (58, .iconst 2, 1, 0, 0, 0, 0), (59, .iload_n 3, 1, 0, 0, 0, 0), (60, .imul, 1, 0, 0, 0, 0), (61, .iconst 1, 1, 0, 0, 0, 0), (62, .iadd, 1, 0, 0, 0, 0), (63, .aload_n 0, 1, 0, 0, 0, 0), (64, .getfield 26, 3, 1071, 11, 10, 0), (67, .isub, 1, 0, 0, 0, 0), (68, .iconst 2, 1, 0, 0, 0, 0), (69, .aload_n 0, 1, 0, 0, 0, 0), (70, .invokevirtual 151, 3, 3, 11, 0, 1322), (73, .imul, 1, 0, 0, 0, 0), (74, .isub, 1, 0, 0, 0, 0), (75, .imul, 1, 0, 0, 0, 0), (76, .i2l, 1, 0, 0, 0, 0), (77, .lastore, 1, 0, 0, 0, 0), (78, .aload_n 0, 1, 0, 0, 0, 0), (79, .getfield 154, 3, 1075, 11, 14, 0), (82, .ifCond .eq 23, 3, 0, 0, 0, 0), (85, .aload_n 0, 1, 0, 0, 0, 0), (86, .getfield 7, 3, 1061, 11, 0, 0), (89, .sipush 144, 3, 0, 0, 0, 0), (92, .laload, 1, 0, 0, 0, 0), (93, .lconst 1, 1, 0, 0, 0, 0), (94, .lcmp, 1, 0, 0, 0, 0), (95, .ifCond .ne 10, 3, 0, 0, 0, 0), (98, .aload_n 0, 1, 0, 0, 0, 0), (99, .bipush 23, 2, 0, 0, 0, 0), (101, .iconst 4, 1, 0, 0, 0, 0), (102, .invokevirtual 80, 3, 4, 11, 2, 1189), (105, .iload_n 3, 1, 0, 0, 0, 0), (106, .ireturn, 1, 0, 0, 0, 0)]
set_option maxRecDepth 100000 in
set_option maxHeartbeats 4000000 in
theorem c_X11_loops (l : Launch) (G : vg_G) (hp : vg_Hp G) : vg_Ct l G vg_sh r_X11_loops := by
  refine vg_meth hp vg_sh_ok r_X11_loops k_X11_loops rfl (fun h => by cases h) o_X11_loops [r_X11_byErrors, r_X11_bySums, r_X11_byCascade, r_X11_besides, r_X11_wipes] false (by decide +kernel) (by decide +kernel) ⟨_, _, rfl, rfl⟩ (List.forall_mem_cons.mpr ⟨⟨c_X11_byErrors l G hp, Nat.le_of_ble_eq_true rfl, Nat.le_of_ble_eq_true rfl⟩, List.forall_mem_cons.mpr ⟨⟨c_X11_bySums l G hp, Nat.le_of_ble_eq_true rfl, Nat.le_of_ble_eq_true rfl⟩, List.forall_mem_cons.mpr ⟨⟨c_X11_byCascade l G hp, Nat.le_of_ble_eq_true rfl, Nat.le_of_ble_eq_true rfl⟩, List.forall_mem_cons.mpr ⟨⟨c_X11_besides l G hp, Nat.le_of_ble_eq_true rfl, Nat.le_of_ble_eq_true rfl⟩, List.forall_mem_cons.mpr ⟨⟨c_X11_wipes l G hp, Nat.le_of_ble_eq_true rfl, Nat.le_of_ble_eq_true rfl⟩, fun _ h => absurd h List.not_mem_nil⟩⟩⟩⟩⟩) (fun h => by cases h) 600 ?_
  intro as s0 hpre
  obtain ⟨r, a1, a2, rfl, hr, i0⟩ := hpre
  simp only [List.mem_cons, List.not_mem_nil, or_false] at hr
  rcases hr with rfl
  ·
    have z1 : (Int32.ofInt 1).toInt = 1 := by decide
    have z2 : (Int32.ofInt 2).toInt = 2 := by decide
    have z4 : (Int32.ofInt 4).toInt = 4 := by decide
    have z23 : (Int32.ofInt 23).toInt = 23 := by decide
    have z144 : (Int32.ofInt 144).toInt = 144 := by decide
    refine ⟨Nat.le_of_ble_eq_true rfl, [], ?_, fun _ h => absurd h List.not_mem_nil⟩
    ·
      refine And.intro ⟨by omega, by omega⟩ ?_
      intro s1 e2
      have i3 : Iv s1 := Iv.u2 i0 e2
      have k4 : Kp s0 s1 := Kx.u2 Kx.rf e2 (vg_kq_pos (by omega)).1
      intro v5 e6
      have g7 : s0.1 55 7 = v5 := by rw [e6, e2, vg_u2_1]
      refine And.intro (fun c8 => ?_) (fun c8 => ?_)
      · have c8 : ¬ v5.toInt = 0 := c8
        intro v9 e10
        have w11 : v5 = v9 := by rw [e10, e2, vg_u2_1, g7]
        subst w11
        refine And.intro (fun c12 => ?_) (fun c12 => ?_)
        · have c12 : ¬ v5.toInt = (Int32.ofInt 1).toInt := c12
          refine And.intro (Nat.le_of_ble_eq_true rfl) (And.intro ⟨55, a1, a2, rfl, by decide, i3⟩ ?_)
          intro v13 s15 h14
          have h14 : Iv s15 ∧ Kp s1 s15 ∧ (True) := h14
          have i16 := h14.1
          have k17 : Kp s0 s15 := Kx.tr k4 (h14.2.1)
          intro v18 e19
          have g20 : s15.1 55 9 = v18 := by rw [e19]
          intro v21 e22
          intro v23 e24
          intro v25 e26
          have g27 : s15.1 55 10 = v25 := by rw [e26]
          have b28 : (2 : Int) ≤ v25.toInt ∧ v25.toInt ≤ 17 := by rw [e26]; exact Iv_55_10 i16
          intro v29 e30
          refine And.intro (Nat.le_of_ble_eq_true rfl) (And.intro ⟨55, rfl, by decide, i16⟩ ?_)
          intro v31 s33 h32
          have h32 : s33 = s15 ∧ (True) := h32
          have q36 := h32.1.symm
          subst q36
          intro v37 e38
          intro v39 e40
          intro v41 e42
          intro v43 e44
          refine And.intro ⟨by omega, by omega⟩ ?_
          intro s45 e46
          have i47 : Iv s45 := Iv.u2 i16 e46
          have k48 : Kp s0 s45 := Kx.u2 k17 e46 (vg_kq_pos (by omega)).1
          intro v49 e50
          have g51 : s15.1 55 14 = v49 := by rw [e50, e46, vg_u2_1]
          refine And.intro (fun c52 => ?_) (fun c52 => ?_)
          · have c52 : v49.toInt = 0 := c52
            show Iv s45 ∧ Kp s0 s45 ∧ (True)
            exact ⟨i47, k48, (trivial)⟩
          · have c52 : ¬ (v49.toInt = 0) := c52
            refine And.intro ⟨by omega, by omega⟩ ?_
            intro v53 e54
            intro v55 e56
            refine And.intro (fun c57 => ?_) (fun c57 => ?_)
            · have c57 : ¬ v55.toInt = 0 := c57
              show Iv s45 ∧ Kp s0 s45 ∧ (True)
              exact ⟨i47, k48, (trivial)⟩
            · have c57 : ¬ (¬ v55.toInt = 0) := c57
              refine And.intro (Nat.le_of_ble_eq_true rfl) (And.intro ⟨55, (Int32.ofInt 23), (Int32.ofInt 4), rfl, by decide, i47, by omega⟩ ?_)
              intro s59 h58
              have h58 : Iv s59 ∧ Kp s45 s59 ∧ (True) := h58
              have i60 := h58.1
              have k61 : Kp s0 s59 := Kx.tr k48 (h58.2.1)
              show Iv s59 ∧ Kp s0 s59 ∧ (True)
              exact ⟨i60, k61, (trivial)⟩
        · have c12 : ¬ (¬ v5.toInt = (Int32.ofInt 1).toInt) := c12
          refine And.intro (Nat.le_of_ble_eq_true rfl) (And.intro ⟨55, a1, a2, rfl, by decide, i3⟩ ?_)
          intro v62 s64 h63
          have h63 : Iv s64 ∧ Kp s1 s64 ∧ (True) := h63
          have i65 := h63.1
          have k66 : Kp s0 s64 := Kx.tr k4 (h63.2.1)
          intro v67 e68
          have g69 : s64.1 55 9 = v67 := by rw [e68]
          intro v70 e71
          intro v72 e73
          intro v74 e75
          have g76 : s64.1 55 10 = v74 := by rw [e75]
          have b77 : (2 : Int) ≤ v74.toInt ∧ v74.toInt ≤ 17 := by rw [e75]; exact Iv_55_10 i65
          intro v78 e79
          refine And.intro (Nat.le_of_ble_eq_true rfl) (And.intro ⟨55, rfl, by decide, i65⟩ ?_)
          intro v80 s82 h81
          have h81 : s82 = s64 ∧ (True) := h81
          have q85 := h81.1.symm
          subst q85
          intro v86 e87
          intro v88 e89
          intro v90 e91
          intro v92 e93
          refine And.intro ⟨by omega, by omega⟩ ?_
          intro s94 e95
          have i96 : Iv s94 := Iv.u2 i65 e95
          have k97 : Kp s0 s94 := Kx.u2 k66 e95 (vg_kq_pos (by omega)).1
          intro v98 e99
          have g100 : s64.1 55 14 = v98 := by rw [e99, e95, vg_u2_1]
          refine And.intro (fun c101 => ?_) (fun c101 => ?_)
          · have c101 : v98.toInt = 0 := c101
            show Iv s94 ∧ Kp s0 s94 ∧ (True)
            exact ⟨i96, k97, (trivial)⟩
          · have c101 : ¬ (v98.toInt = 0) := c101
            refine And.intro ⟨by omega, by omega⟩ ?_
            intro v102 e103
            intro v104 e105
            refine And.intro (fun c106 => ?_) (fun c106 => ?_)
            · have c106 : ¬ v104.toInt = 0 := c106
              show Iv s94 ∧ Kp s0 s94 ∧ (True)
              exact ⟨i96, k97, (trivial)⟩
            · have c106 : ¬ (¬ v104.toInt = 0) := c106
              refine And.intro (Nat.le_of_ble_eq_true rfl) (And.intro ⟨55, (Int32.ofInt 23), (Int32.ofInt 4), rfl, by decide, i96, by omega⟩ ?_)
              intro s108 h107
              have h107 : Iv s108 ∧ Kp s94 s108 ∧ (True) := h107
              have i109 := h107.1
              have k110 : Kp s0 s108 := Kx.tr k97 (h107.2.1)
              show Iv s108 ∧ Kp s0 s108 ∧ (True)
              exact ⟨i109, k110, (trivial)⟩
      · have c8 : ¬ (¬ v5.toInt = 0) := c8
        refine And.intro (Nat.le_of_ble_eq_true rfl) (And.intro ⟨55, a1, a2, rfl, by decide, i3⟩ ?_)
        intro v111 s113 h112
        have h112 : Iv s113 ∧ Kp s1 s113 ∧ (True) := h112
        have i114 := h112.1
        have k115 : Kp s0 s113 := Kx.tr k4 (h112.2.1)
        intro v116 e117
        have g118 : s113.1 55 9 = v116 := by rw [e117]
        intro v119 e120
        intro v121 e122
        intro v123 e124
        have g125 : s113.1 55 10 = v123 := by rw [e124]
        have b126 : (2 : Int) ≤ v123.toInt ∧ v123.toInt ≤ 17 := by rw [e124]; exact Iv_55_10 i114
        intro v127 e128
        refine And.intro (Nat.le_of_ble_eq_true rfl) (And.intro ⟨55, rfl, by decide, i114⟩ ?_)
        intro v129 s131 h130
        have h130 : s131 = s113 ∧ (True) := h130
        have q134 := h130.1.symm
        subst q134
        intro v135 e136
        intro v137 e138
        intro v139 e140
        intro v141 e142
        refine And.intro ⟨by omega, by omega⟩ ?_
        intro s143 e144
        have i145 : Iv s143 := Iv.u2 i114 e144
        have k146 : Kp s0 s143 := Kx.u2 k115 e144 (vg_kq_pos (by omega)).1
        intro v147 e148
        have g149 : s113.1 55 14 = v147 := by rw [e148, e144, vg_u2_1]
        refine And.intro (fun c150 => ?_) (fun c150 => ?_)
        · have c150 : v147.toInt = 0 := c150
          show Iv s143 ∧ Kp s0 s143 ∧ (True)
          exact ⟨i145, k146, (trivial)⟩
        · have c150 : ¬ (v147.toInt = 0) := c150
          refine And.intro ⟨by omega, by omega⟩ ?_
          intro v151 e152
          intro v153 e154
          refine And.intro (fun c155 => ?_) (fun c155 => ?_)
          · have c155 : ¬ v153.toInt = 0 := c155
            show Iv s143 ∧ Kp s0 s143 ∧ (True)
            exact ⟨i145, k146, (trivial)⟩
          · have c155 : ¬ (¬ v153.toInt = 0) := c155
            refine And.intro (Nat.le_of_ble_eq_true rfl) (And.intro ⟨55, (Int32.ofInt 23), (Int32.ofInt 4), rfl, by decide, i145, by omega⟩ ?_)
            intro s157 h156
            have h156 : Iv s157 ∧ Kp s143 s157 ∧ (True) := h156
            have i158 := h156.1
            have k159 : Kp s0 s157 := Kx.tr k146 (h156.2.1)
            show Iv s157 ∧ Kp s0 s157 ∧ (True)
            exact ⟨i158, k159, (trivial)⟩
