def o_X11_status : List vg_I := [(0, .aload_n 0, 1, 0, 0, 0, 0), (1, .getfield 73, 3, 1063, 11, 2, 0), (4, .ireturn, 1, 0, 0, 0, 0)]
set_option maxRecDepth 100000 in
set_option maxHeartbeats 4000000 in
theorem c_X11_status (l : Launch) (G : vg_G) (hp : vg_Hp G) : vg_Ct l G vg_sh r_X11_status := by
  refine vg_meth hp vg_sh_ok r_X11_status k_X11_status rfl (fun h => by cases h) o_X11_status [] false (by decide +kernel) (by decide +kernel) ⟨_, _, rfl, rfl⟩ (fun _ h => absurd h List.not_mem_nil) (fun h => by cases h) 600 ?_
  intro as s0 hpre
  obtain ⟨r, rfl, hr, i0⟩ := hpre
  simp only [List.mem_cons, List.not_mem_nil, or_false] at hr
  rcases hr with rfl
  ·
    refine ⟨Nat.le_of_ble_eq_true rfl, [], ?_, fun _ h => absurd h List.not_mem_nil⟩
    ·
      intro v1 e2
      have g3 : s0.1 55 2 = v1 := by rw [e2]
      show s0 = s0 ∧ (True)
      exact ⟨rfl, (trivial)⟩
def o_X11_refuse : List vg_I := [(0, .aload_n 0, 1, 0, 0, 0, 0), (1, .iload_n 1, 1, 0, 0, 0, 0), (2, .putfield 73, 3, 1063, 11, 2, 0), (5, .iconst (-1), 1, 0, 0, 0, 0), (6, .ireturn, 1, 0, 0, 0, 0)]
set_option maxRecDepth 100000 in
set_option maxHeartbeats 4000000 in
theorem c_X11_refuse (l : Launch) (G : vg_G) (hp : vg_Hp G) : vg_Ct l G vg_sh r_X11_refuse := by
  refine vg_meth hp vg_sh_ok r_X11_refuse k_X11_refuse rfl (fun h => by cases h) o_X11_refuse [] false (by decide +kernel) (by decide +kernel) ⟨_, _, rfl, rfl⟩ (fun _ h => absurd h List.not_mem_nil) (fun h => by cases h) 600 ?_
  intro as s0 hpre
  obtain ⟨r, a1, rfl, hr, i0⟩ := hpre
  simp only [List.mem_cons, List.not_mem_nil, or_false] at hr
  rcases hr with rfl
  ·
    have zm1 : (Int32.ofInt (-1)).toInt = -1 := by decide
    refine ⟨Nat.le_of_ble_eq_true rfl, [], ?_, fun _ h => absurd h List.not_mem_nil⟩
    ·
      intro s1 e2
      have i3 : Iv s1 := Iv.u1 i0 e2 rfl
      have k4 : Kp s0 s1 := Kx.u1 Kx.rf e2 rfl
      show Iv s1 ∧ Kp s0 s1 ∧ ((Int32.ofInt (-1)).toInt = -1)
      exact ⟨i3, k4, (by first | trivial | omega | assumption)⟩
def o_X11_gives : List vg_I := [(0, .aload_n 0, 1, 0, 0, 0, 0), (1, .iconst 0, 1, 0, 0, 0, 0), (2, .putfield 73, 3, 1063, 11, 2, 0), (5, .iload_n 1, 1, 0, 0, 0, 0), (6, .ireturn, 1, 0, 0, 0, 0)]
set_option maxRecDepth 100000 in
set_option maxHeartbeats 4000000 in
theorem c_X11_gives (l : Launch) (G : vg_G) (hp : vg_Hp G) : vg_Ct l G vg_sh r_X11_gives := by
  refine vg_meth hp vg_sh_ok r_X11_gives k_X11_gives rfl (fun h => by cases h) o_X11_gives [] false (by decide +kernel) (by decide +kernel) ⟨_, _, rfl, rfl⟩ (fun _ h => absurd h List.not_mem_nil) (fun h => by cases h) 600 ?_
  intro as s0 hpre
  obtain ⟨r, a1, rfl, hr, i0⟩ := hpre
  simp only [List.mem_cons, List.not_mem_nil, or_false] at hr
  rcases hr with rfl
  ·
    have z0 : (Int32.ofInt 0).toInt = 0 := by decide
    refine ⟨Nat.le_of_ble_eq_true rfl, [], ?_, fun _ h => absurd h List.not_mem_nil⟩
    ·
      intro s1 e2
      have i3 : Iv s1 := Iv.u1 i0 e2 rfl
      have k4 : Kp s0 s1 := Kx.u1 Kx.rf e2 rfl
      show Iv s1 ∧ Kp s0 s1 ∧ (a1 = a1 ∧ a1.toInt = a1.toInt)
      exact ⟨i3, k4, (by exact ⟨rfl, rfl⟩)⟩
def o_X11_givesLong : List vg_I := [(0, .aload_n 0, 1, 0, 0, 0, 0), (1, .iconst 0, 1, 0, 0, 0, 0), (2, .putfield 73, 3, 1063, 11, 2, 0), (5, .lload_n 1, 1, 0, 0, 0, 0), (6, .lreturn, 1, 0, 0, 0, 0)]
set_option maxRecDepth 100000 in
set_option maxHeartbeats 4000000 in
theorem c_X11_givesLong (l : Launch) (G : vg_G) (hp : vg_Hp G) : vg_Ct l G vg_sh r_X11_givesLong := by
  refine vg_meth hp vg_sh_ok r_X11_givesLong k_X11_givesLong rfl (fun h => by cases h) o_X11_givesLong [] false (by decide +kernel) (by decide +kernel) ⟨_, _, rfl, rfl⟩ (fun _ h => absurd h List.not_mem_nil) (fun h => by cases h) 600 ?_
  intro as s0 hpre
  obtain ⟨r, a1, rfl, hr, i0⟩ := hpre
  simp only [List.mem_cons, List.not_mem_nil, or_false] at hr
  rcases hr with rfl
  ·
    have z0 : (Int32.ofInt 0).toInt = 0 := by decide
    refine ⟨Nat.le_of_ble_eq_true rfl, [], ?_, fun _ h => absurd h List.not_mem_nil⟩
    ·
      intro s1 e2
      have i3 : Iv s1 := Iv.u1 i0 e2 rfl
      have k4 : Kp s0 s1 := Kx.u1 Kx.rf e2 rfl
      show Iv s1 ∧ Kp s0 s1 ∧ (a1 = a1)
      exact ⟨i3, k4, (by first | trivial | omega | assumption)⟩
def o_X11_isFrom : List vg_I := [(0, .iload_n 0, 1, 0, 0, 0, 0), (1, .iload_n 1, 1, 0, 0, 0, 0), (2, .if_icmp .lt 12, 3, 0, 0, 0, 0), (5, .iload_n 0, 1, 0, 0, 0, 0), (6, .iload_n 2, 1, 0, 0, 0, 0), (7, .if_icmp .gt 7, 3, 0, 0, 0, 0), (10, .iconst 1, 1, 0, 0, 0, 0), (11, .goto 4, 3, 0, 0, 0, 0), (14, .iconst 0, 1, 0, 0, 0, 0), (15, .ireturn, 1, 0, 0, 0, 1)]
set_option maxRecDepth 100000 in
set_option maxHeartbeats 4000000 in
theorem c_X11_isFrom (l : Launch) (G : vg_G) (hp : vg_Hp G) : vg_Ct l G vg_sh r_X11_isFrom := by
  refine vg_meth hp vg_sh_ok r_X11_isFrom k_X11_isFrom rfl (fun h => by cases h) o_X11_isFrom [] false (by decide +kernel) (by decide +kernel) ⟨_, _, rfl, rfl⟩ (fun _ h => absurd h List.not_mem_nil) (fun h => by cases h) 600 ?_
  intro as s0 hpre
  obtain ⟨a1, a2, a3, rfl, -⟩ := hpre
  have z0 : (Int32.ofInt 0).toInt = 0 := by decide
  have z1 : (Int32.ofInt 1).toInt = 1 := by decide
  refine ⟨Nat.le_of_ble_eq_true rfl, [], ?_, fun _ h => absurd h List.not_mem_nil⟩
  ·
    refine And.intro (fun c1 => ?_) (fun c1 => ?_)
    · have c1 : a1.toInt < a2.toInt := c1
      refine And.intro (by first | exact Or.inl rfl | exact Or.inr rfl | exact vg_01 (by omega) (by omega)) ?_
      show s0 = s0 ∧ (((Int32.ofInt 0).toInt = 1 ∧ a2.toInt ≤ a1.toInt ∧ a1.toInt ≤ a3.toInt) ∨ ((Int32.ofInt 0).toInt = 0 ∧ (a1.toInt < a2.toInt ∨ a3.toInt < a1.toInt)))
      exact ⟨rfl, (by first | trivial | omega | assumption)⟩
    · have c1 : ¬ (a1.toInt < a2.toInt) := c1
      refine And.intro (fun c2 => ?_) (fun c2 => ?_)
      · have c2 : a3.toInt < a1.toInt := c2
        refine And.intro (by first | exact Or.inl rfl | exact Or.inr rfl | exact vg_01 (by omega) (by omega)) ?_
        show s0 = s0 ∧ (((Int32.ofInt 0).toInt = 1 ∧ a2.toInt ≤ a1.toInt ∧ a1.toInt ≤ a3.toInt) ∨ ((Int32.ofInt 0).toInt = 0 ∧ (a1.toInt < a2.toInt ∨ a3.toInt < a1.toInt)))
        exact ⟨rfl, (by first | trivial | omega | assumption)⟩
      · have c2 : ¬ (a3.toInt < a1.toInt) := c2
        refine And.intro (by first | exact Or.inl rfl | exact Or.inr rfl | exact vg_01 (by omega) (by omega)) ?_
        show s0 = s0 ∧ (((Int32.ofInt 1).toInt = 1 ∧ a2.toInt ≤ a1.toInt ∧ a1.toInt ≤ a3.toInt) ∨ ((Int32.ofInt 1).toInt = 0 ∧ (a1.toInt < a2.toInt ∨ a3.toInt < a1.toInt)))
        exact ⟨rfl, (by first | trivial | omega | assumption)⟩
def o_X11_isFar : List vg_I := [(0, .iload_n 0, 1, 0, 0, 0, 0), (1, .sipush (-30000), 3, 0, 0, 0, 0), (4, .sipush 30000, 3, 0, 0, 0, 0), (7, .invokestatic 76, 3, 0, 1, 3, 1175), (10, .ireturn, 1, 0, 0, 0, 1)]
set_option maxRecDepth 100000 in
set_option maxHeartbeats 4000000 in
theorem c_X11_isFar (l : Launch) (G : vg_G) (hp : vg_Hp G) : vg_Ct l G vg_sh r_X11_isFar := by
  refine vg_meth hp vg_sh_ok r_X11_isFar k_X11_isFar rfl (fun h => by cases h) o_X11_isFar [r_X11_isFrom] false (by decide +kernel) (by decide +kernel) ⟨_, _, rfl, rfl⟩ (List.forall_mem_cons.mpr ⟨⟨c_X11_isFrom l G hp, Nat.le_of_ble_eq_true rfl, Nat.le_of_ble_eq_true rfl⟩, fun _ h => absurd h List.not_mem_nil⟩) (fun h => by cases h) 600 ?_
  intro as s0 hpre
  obtain ⟨a1, rfl, -⟩ := hpre
  have zm30000 : (Int32.ofInt (-30000)).toInt = -30000 := by decide
  have z30000 : (Int32.ofInt 30000).toInt = 30000 := by decide
  refine ⟨Nat.le_of_ble_eq_true rfl, [], ?_, fun _ h => absurd h List.not_mem_nil⟩
  ·
    refine And.intro (Nat.le_of_ble_eq_true rfl) (And.intro ⟨a1, (Int32.ofInt (-30000)), (Int32.ofInt 30000), rfl, trivial⟩ ?_)
    intro v1 s3 h2
    have h2 : s3 = s0 ∧ ((v1.toInt = 1 ∧ (Int32.ofInt (-30000)).toInt ≤ a1.toInt ∧ a1.toInt ≤ (Int32.ofInt 30000).toInt) ∨ (v1.toInt = 0 ∧ (a1.toInt < (Int32.ofInt (-30000)).toInt ∨ (Int32.ofInt 30000).toInt < a1.toInt))) := h2
    have q6 := h2.1.symm
    subst q6
    have q7 := h2.2
    refine And.intro (by first | exact Or.inl rfl | exact Or.inr rfl | exact vg_01 (by omega) (by omega)) ?_
    show s0 = s0 ∧ ((v1.toInt = 1 ∧ -30000 ≤ a1.toInt ∧ a1.toInt ≤ 30000) ∨ (v1.toInt = 0 ∧ (a1.toInt < -30000 ∨ 30000 < a1.toInt)))
    exact ⟨rfl, (by first | trivial | omega | assumption)⟩
def o_X11_isTap : List vg_I := [(0, .iload_n 0, 1, 0, 0, 0, 0), (1, .sipush (-999), 3, 0, 0, 0, 0), (4, .sipush 999, 3, 0, 0, 0, 0), (7, .invokestatic 76, 3, 0, 1, 3, 1175), (10, .ireturn, 1, 0, 0, 0, 1)]
set_option maxRecDepth 100000 in
set_option maxHeartbeats 4000000 in
theorem c_X11_isTap (l : Launch) (G : vg_G) (hp : vg_Hp G) : vg_Ct l G vg_sh r_X11_isTap := by
  refine vg_meth hp vg_sh_ok r_X11_isTap k_X11_isTap rfl (fun h => by cases h) o_X11_isTap [r_X11_isFrom] false (by decide +kernel) (by decide +kernel) ⟨_, _, rfl, rfl⟩ (List.forall_mem_cons.mpr ⟨⟨c_X11_isFrom l G hp, Nat.le_of_ble_eq_true rfl, Nat.le_of_ble_eq_true rfl⟩, fun _ h => absurd h List.not_mem_nil⟩) (fun h => by cases h) 600 ?_
  intro as s0 hpre
  obtain ⟨a1, rfl, -⟩ := hpre
  have zm999 : (Int32.ofInt (-999)).toInt = -999 := by decide
  have z999 : (Int32.ofInt 999).toInt = 999 := by decide
  refine ⟨Nat.le_of_ble_eq_true rfl, [], ?_, fun _ h => absurd h List.not_mem_nil⟩
  ·
    refine And.intro (Nat.le_of_ble_eq_true rfl) (And.intro ⟨a1, (Int32.ofInt (-999)), (Int32.ofInt 999), rfl, trivial⟩ ?_)
    intro v1 s3 h2
    have h2 : s3 = s0 ∧ ((v1.toInt = 1 ∧ (Int32.ofInt (-999)).toInt ≤ a1.toInt ∧ a1.toInt ≤ (Int32.ofInt 999).toInt) ∨ (v1.toInt = 0 ∧ (a1.toInt < (Int32.ofInt (-999)).toInt ∨ (Int32.ofInt 999).toInt < a1.toInt))) := h2
    have q6 := h2.1.symm
    subst q6
    have q7 := h2.2
    refine And.intro (by first | exact Or.inl rfl | exact Or.inr rfl | exact vg_01 (by omega) (by omega)) ?_
    show s0 = s0 ∧ ((v1.toInt = 1 ∧ -999 ≤ a1.toInt ∧ a1.toInt ≤ 999) ∨ (v1.toInt = 0 ∧ (a1.toInt < -999 ∨ 999 < a1.toInt)))
    exact ⟨rfl, (by first | trivial | omega | assumption)⟩
def o_X11_isStage : List vg_I := [(0, .iload_n 0, 1, 0, 0, 0, 0), (1, .iconst 0, 1, 0, 0, 0, 0), (2, .bipush 6, 2, 0, 0, 0, 0), (4, .invokestatic 76, 3, 0, 1, 3, 1175), (7, .ireturn, 1, 0, 0, 0, 1)]
set_option maxRecDepth 100000 in
set_option maxHeartbeats 4000000 in
theorem c_X11_isStage (l : Launch) (G : vg_G) (hp : vg_Hp G) : vg_Ct l G vg_sh r_X11_isStage := by
  refine vg_meth hp vg_sh_ok r_X11_isStage k_X11_isStage rfl (fun h => by cases h) o_X11_isStage [r_X11_isFrom] false (by decide +kernel) (by decide +kernel) ⟨_, _, rfl, rfl⟩ (List.forall_mem_cons.mpr ⟨⟨c_X11_isFrom l G hp, Nat.le_of_ble_eq_true rfl, Nat.le_of_ble_eq_true rfl⟩, fun _ h => absurd h List.not_mem_nil⟩) (fun h => by cases h) 600 ?_
  intro as s0 hpre
  obtain ⟨a1, rfl, -⟩ := hpre
  have z0 : (Int32.ofInt 0).toInt = 0 := by decide
  have z6 : (Int32.ofInt 6).toInt = 6 := by decide
  refine ⟨Nat.le_of_ble_eq_true rfl, [], ?_, fun _ h => absurd h List.not_mem_nil⟩
  ·
    refine And.intro (Nat.le_of_ble_eq_true rfl) (And.intro ⟨a1, (Int32.ofInt 0), (Int32.ofInt 6), rfl, trivial⟩ ?_)
    intro v1 s3 h2
    have h2 : s3 = s0 ∧ ((v1.toInt = 1 ∧ (Int32.ofInt 0).toInt ≤ a1.toInt ∧ a1.toInt ≤ (Int32.ofInt 6).toInt) ∨ (v1.toInt = 0 ∧ (a1.toInt < (Int32.ofInt 0).toInt ∨ (Int32.ofInt 6).toInt < a1.toInt))) := h2
    have q6 := h2.1.symm
    subst q6
    have q7 := h2.2
    refine And.intro (by first | exact Or.inl rfl | exact Or.inr rfl | exact vg_01 (by omega) (by omega)) ?_
    show s0 = s0 ∧ ((v1.toInt = 1 ∧ 0 ≤ a1.toInt ∧ a1.toInt ≤ 6) ∨ (v1.toInt = 0 ∧ (a1.toInt < 0 ∨ 6 < a1.toInt)))
    exact ⟨rfl, (by first | trivial | omega | assumption)⟩
def o_X11_get : List vg_I := [(0, .aload_n 0, 1, 0, 0, 0, 0), (1, .getfield 7, 3, 1061, 11, 0, 0), (4, .iload_n 1, 1, 0, 0, 0, 0), (5, .laload, 1, 0, 0, 0, 0), (6, .l2i, 1, 0, 0, 0, 0), (7, .ireturn, 1, 0, 0, 0, 0)]
set_option maxRecDepth 100000 in
set_option maxHeartbeats 4000000 in
theorem c_X11_get (l : Launch) (G : vg_G) (hp : vg_Hp G) : vg_Ct l G vg_sh r_X11_get := by
  refine vg_meth hp vg_sh_ok r_X11_get k_X11_get rfl (fun h => by cases h) o_X11_get [] false (by decide +kernel) (by decide +kernel) ⟨_, _, rfl, rfl⟩ (fun _ h => absurd h List.not_mem_nil) (fun h => by cases h) 600 ?_
  intro as s0 hpre
  obtain ⟨r, a1, rfl, hr, i0, p0⟩ := hpre
  simp only [List.mem_cons, List.not_mem_nil, or_false] at hr
  rcases hr with rfl
  ·
    refine ⟨Nat.le_of_ble_eq_true rfl, [], ?_, fun _ h => absurd h List.not_mem_nil⟩
    ·
      refine And.intro ⟨by omega, by omega⟩ ?_
      intro v1 e2
      intro v3 e4
      show s0 = s0 ∧ (v3 = (s0.2 56 a1.toNatClampNeg).toInt32)
      exact ⟨rfl, (by subst_vars; rfl)⟩
def o_X11_copies : List vg_I := [(0, .iconst 0, 1, 0, 0, 0, 0), (1, .istore_n 2, 1, 0, 0, 0, 0), (2, .iload_n 2, 1, 0, 0, 0, 0), (3, .sipush 481, 3, 0, 0, 0, 0), (6, .if_icmp .ge 15, 3, 0, 0, 0, 0), (9, .aload_n 1, 1, 0, 0, 0, 0), (10, .iload_n 2, 1, 0, 0, 0, 0), (11, .aload_n 0, 1, 0, 0, 0, 0), (12, .iload_n 2, 1, 0, 0, 0, 0), (13, .laload, 1, 0, 0, 0, 0), (14, .lastore, 1, 0, 0, 0, 0), (15, .iinc 2 1, 3, 0, 0, 0, 0), (18, .goto (-16), 3, 0, 0, 0, 0), (21, .return_, 1, 0, 0, 0, 0)]
set_option maxRecDepth 100000 in
set_option maxHeartbeats 4000000 in
theorem c_X11_copies (l : Launch) (G : vg_G) (hp : vg_Hp G) : vg_Ct l G vg_sh r_X11_copies := by
  refine vg_meth hp vg_sh_ok r_X11_copies k_X11_copies rfl (fun h => by cases h) o_X11_copies [] false (by decide +kernel) (by decide +kernel) ⟨_, _, rfl, rfl⟩ (fun _ h => absurd h List.not_mem_nil) (fun h => by cases h) 600 ?_
  intro as s0 hpre
  obtain ⟨a1, a2, rfl, ha1, ha2, i0, p0⟩ := hpre
  simp only [List.mem_cons, List.not_mem_nil, or_false] at ha1
  rcases ha1 with rfl | rfl | rfl
  ·
    simp only [List.mem_cons, List.not_mem_nil, or_false] at ha2
    rcases ha2 with rfl | rfl | rfl
    ·
      exact absurd rfl p0
    ·
      have z0 : (Int32.ofInt 0).toInt = 0 := by decide
      have z1 : (Int32.ofInt 1).toInt = 1 := by decide
      have z481 : (Int32.ofInt 481).toInt = 481 := by decide
      refine ⟨Nat.le_of_ble_eq_true rfl, [(2, [true, true, true], (fun L t => ∃ (x2 : Int32), L = [some (.ref 56), some (.ref 57), some (.int x2)] ∧ (0 : Int) ≤ x2.toInt ∧ x2.toInt ≤ (481 : Int) ∧ (t.1 = s0.1 ∧ (∀ k, k ≠ 57 → t.2 k = s0.2 k) ∧ (0 < x2.toInt → t.2 57 0 = s0.2 56 0)) ∧ Iv t), (fun L _ => (0 + (481 - (vg_li L 2).toInt) * 1000000000000).toNat))], ?_, List.forall_mem_cons.mpr ⟨?_, fun _ h => absurd h List.not_mem_nil⟩⟩
      ·
        exact ⟨rfl, ⟨(Int32.ofInt 0), rfl, (by omega), (by omega), (by first | exact ⟨rfl, fun _ _ => rfl, fun h9 => absurd h9 (by omega)⟩ | exact vg_cpstep None (by decide) (by omega) None rfl), i0⟩, trivial⟩
      ·
        intro L s5 hL
        obtain ⟨w1, rfl, b2, b3, x4, i6⟩ := hL
        refine And.intro (fun c8 => ?_) (fun c8 => ?_)
        · have c8 : (Int32.ofInt 481).toInt ≤ w1.toInt := c8
          show (s5.1 = s0.1 ∧ s5.2 57 0 = s0.2 56 0 ∧ ∀ k, k ≠ 57 → s5.2 k = s0.2 k)
          exact (⟨x4.1, x4.2.2 (by omega), x4.2.1⟩)
        · have c8 : ¬ ((Int32.ofInt 481).toInt ≤ w1.toInt) := c8
          refine And.intro ⟨by omega, by omega⟩ ?_
          intro v9 e10
          refine And.intro ⟨by omega, by omega⟩ ?_
          intro s11 e12
          have i13 : Iv s11 := Iv.u2 i6 e12
          intro v15 e16
          have b17 := vg_add e16 (by omega) (by omega)
          exact ⟨rfl, ⟨v15, rfl, (by omega), (by omega), (by first | exact ⟨rfl, fun _ _ => rfl, fun h9 => absurd h9 (by omega)⟩ | exact vg_cpstep x4 (by decide) (by omega) e10 e12), i13⟩, (by show (0 + (481 - v15.toInt) * 1000000000000).toNat < (0 + (481 - w1.toInt) * 1000000000000).toNat; omega)⟩
    ·
      have z0 : (Int32.ofInt 0).toInt = 0 := by decide
      have z1 : (Int32.ofInt 1).toInt = 1 := by decide
      have z481 : (Int32.ofInt 481).toInt = 481 := by decide
      refine ⟨Nat.le_of_ble_eq_true rfl, [(2, [true, true, true], (fun L t => ∃ (x2 : Int32), L = [some (.ref 56), some (.ref 67), some (.int x2)] ∧ (0 : Int) ≤ x2.toInt ∧ x2.toInt ≤ (481 : Int) ∧ (t.1 = s0.1 ∧ (∀ k, k ≠ 67 → t.2 k = s0.2 k) ∧ (0 < x2.toInt → t.2 67 0 = s0.2 56 0)) ∧ Iv t), (fun L _ => (0 + (481 - (vg_li L 2).toInt) * 1000000000000).toNat))], ?_, List.forall_mem_cons.mpr ⟨?_, fun _ h => absurd h List.not_mem_nil⟩⟩
      ·
        exact ⟨rfl, ⟨(Int32.ofInt 0), rfl, (by omega), (by omega), (by first | exact ⟨rfl, fun _ _ => rfl, fun h9 => absurd h9 (by omega)⟩ | exact vg_cpstep None (by decide) (by omega) None rfl), i0⟩, trivial⟩
      ·
        intro L s5 hL
        obtain ⟨w1, rfl, b2, b3, x4, i6⟩ := hL
        refine And.intro (fun c8 => ?_) (fun c8 => ?_)
        · have c8 : (Int32.ofInt 481).toInt ≤ w1.toInt := c8
          show (s5.1 = s0.1 ∧ s5.2 67 0 = s0.2 56 0 ∧ ∀ k, k ≠ 67 → s5.2 k = s0.2 k)
          exact (⟨x4.1, x4.2.2 (by omega), x4.2.1⟩)
        · have c8 : ¬ ((Int32.ofInt 481).toInt ≤ w1.toInt) := c8
          refine And.intro ⟨by omega, by omega⟩ ?_
          intro v9 e10
          refine And.intro ⟨by omega, by omega⟩ ?_
          intro s11 e12
          have i13 : Iv s11 := Iv.u2 i6 e12
          intro v15 e16
          have b17 := vg_add e16 (by omega) (by omega)
          exact ⟨rfl, ⟨v15, rfl, (by omega), (by omega), (by first | exact ⟨rfl, fun _ _ => rfl, fun h9 => absurd h9 (by omega)⟩ | exact vg_cpstep x4 (by decide) (by omega) e10 e12), i13⟩, (by show (0 + (481 - v15.toInt) * 1000000000000).toNat < (0 + (481 - w1.toInt) * 1000000000000).toNat; omega)⟩
  ·
    simp only [List.mem_cons, List.not_mem_nil, or_false] at ha2
    rcases ha2 with rfl | rfl | rfl
    ·
      have z0 : (Int32.ofInt 0).toInt = 0 := by decide
      have z1 : (Int32.ofInt 1).toInt = 1 := by decide
      have z481 : (Int32.ofInt 481).toInt = 481 := by decide
      refine ⟨Nat.le_of_ble_eq_true rfl, [(2, [true, true, true], (fun L t => ∃ (x2 : Int32), L = [some (.ref 57), some (.ref 56), some (.int x2)] ∧ (0 : Int) ≤ x2.toInt ∧ x2.toInt ≤ (481 : Int) ∧ (t.1 = s0.1 ∧ (∀ k, k ≠ 56 → t.2 k = s0.2 k) ∧ (0 < x2.toInt → t.2 56 0 = s0.2 57 0)) ∧ Iv t), (fun L _ => (0 + (481 - (vg_li L 2).toInt) * 1000000000000).toNat))], ?_, List.forall_mem_cons.mpr ⟨?_, fun _ h => absurd h List.not_mem_nil⟩⟩
      ·
        exact ⟨rfl, ⟨(Int32.ofInt 0), rfl, (by omega), (by omega), (by first | exact ⟨rfl, fun _ _ => rfl, fun h9 => absurd h9 (by omega)⟩ | exact vg_cpstep None (by decide) (by omega) None rfl), i0⟩, trivial⟩
      ·
        intro L s5 hL
        obtain ⟨w1, rfl, b2, b3, x4, i6⟩ := hL
        refine And.intro (fun c8 => ?_) (fun c8 => ?_)
        · have c8 : (Int32.ofInt 481).toInt ≤ w1.toInt := c8
          show (s5.1 = s0.1 ∧ s5.2 56 0 = s0.2 57 0 ∧ ∀ k, k ≠ 56 → s5.2 k = s0.2 k)
          exact (⟨x4.1, x4.2.2 (by omega), x4.2.1⟩)
        · have c8 : ¬ ((Int32.ofInt 481).toInt ≤ w1.toInt) := c8
          refine And.intro ⟨by omega, by omega⟩ ?_
          intro v9 e10
          refine And.intro ⟨by omega, by omega⟩ ?_
          intro s11 e12
          have i13 : Iv s11 := Iv.u2 i6 e12
          intro v15 e16
          have b17 := vg_add e16 (by omega) (by omega)
          exact ⟨rfl, ⟨v15, rfl, (by omega), (by omega), (by first | exact ⟨rfl, fun _ _ => rfl, fun h9 => absurd h9 (by omega)⟩ | exact vg_cpstep x4 (by decide) (by omega) e10 e12), i13⟩, (by show (0 + (481 - v15.toInt) * 1000000000000).toNat < (0 + (481 - w1.toInt) * 1000000000000).toNat; omega)⟩
    ·
      exact absurd rfl p0
    ·
      have z0 : (Int32.ofInt 0).toInt = 0 := by decide
      have z1 : (Int32.ofInt 1).toInt = 1 := by decide
      have z481 : (Int32.ofInt 481).toInt = 481 := by decide
      refine ⟨Nat.le_of_ble_eq_true rfl, [(2, [true, true, true], (fun L t => ∃ (x2 : Int32), L = [some (.ref 57), some (.ref 67), some (.int x2)] ∧ (0 : Int) ≤ x2.toInt ∧ x2.toInt ≤ (481 : Int) ∧ (t.1 = s0.1 ∧ (∀ k, k ≠ 67 → t.2 k = s0.2 k) ∧ (0 < x2.toInt → t.2 67 0 = s0.2 57 0)) ∧ Iv t), (fun L _ => (0 + (481 - (vg_li L 2).toInt) * 1000000000000).toNat))], ?_, List.forall_mem_cons.mpr ⟨?_, fun _ h => absurd h List.not_mem_nil⟩⟩
      ·
        exact ⟨rfl, ⟨(Int32.ofInt 0), rfl, (by omega), (by omega), (by first | exact ⟨rfl, fun _ _ => rfl, fun h9 => absurd h9 (by omega)⟩ | exact vg_cpstep None (by decide) (by omega) None rfl), i0⟩, trivial⟩
      ·
        intro L s5 hL
        obtain ⟨w1, rfl, b2, b3, x4, i6⟩ := hL
        refine And.intro (fun c8 => ?_) (fun c8 => ?_)
        · have c8 : (Int32.ofInt 481).toInt ≤ w1.toInt := c8
          show (s5.1 = s0.1 ∧ s5.2 67 0 = s0.2 57 0 ∧ ∀ k, k ≠ 67 → s5.2 k = s0.2 k)
          exact (⟨x4.1, x4.2.2 (by omega), x4.2.1⟩)
        · have c8 : ¬ ((Int32.ofInt 481).toInt ≤ w1.toInt) := c8
          refine And.intro ⟨by omega, by omega⟩ ?_
          intro v9 e10
          refine And.intro ⟨by omega, by omega⟩ ?_
          intro s11 e12
          have i13 : Iv s11 := Iv.u2 i6 e12
          intro v15 e16
          have b17 := vg_add e16 (by omega) (by omega)
          exact ⟨rfl, ⟨v15, rfl, (by omega), (by omega), (by first | exact ⟨rfl, fun _ _ => rfl, fun h9 => absurd h9 (by omega)⟩ | exact vg_cpstep x4 (by decide) (by omega) e10 e12), i13⟩, (by show (0 + (481 - v15.toInt) * 1000000000000).toNat < (0 + (481 - w1.toInt) * 1000000000000).toNat; omega)⟩
  ·
    simp only [List.mem_cons, List.not_mem_nil, or_false] at ha2
    rcases ha2 with rfl | rfl | rfl
    ·
      have z0 : (Int32.ofInt 0).toInt = 0 := by decide
      have z1 : (Int32.ofInt 1).toInt = 1 := by decide
      have z481 : (Int32.ofInt 481).toInt = 481 := by decide
      refine ⟨Nat.le_of_ble_eq_true rfl, [(2, [true, true, true], (fun L t => ∃ (x2 : Int32), L = [some (.ref 67), some (.ref 56), some (.int x2)] ∧ (0 : Int) ≤ x2.toInt ∧ x2.toInt ≤ (481 : Int) ∧ (t.1 = s0.1 ∧ (∀ k, k ≠ 56 → t.2 k = s0.2 k) ∧ (0 < x2.toInt → t.2 56 0 = s0.2 67 0)) ∧ Iv t), (fun L _ => (0 + (481 - (vg_li L 2).toInt) * 1000000000000).toNat))], ?_, List.forall_mem_cons.mpr ⟨?_, fun _ h => absurd h List.not_mem_nil⟩⟩
      ·
        exact ⟨rfl, ⟨(Int32.ofInt 0), rfl, (by omega), (by omega), (by first | exact ⟨rfl, fun _ _ => rfl, fun h9 => absurd h9 (by omega)⟩ | exact vg_cpstep None (by decide) (by omega) None rfl), i0⟩, trivial⟩
      ·
        intro L s5 hL
        obtain ⟨w1, rfl, b2, b3, x4, i6⟩ := hL
        refine And.intro (fun c8 => ?_) (fun c8 => ?_)
        · have c8 : (Int32.ofInt 481).toInt ≤ w1.toInt := c8
          show (s5.1 = s0.1 ∧ s5.2 56 0 = s0.2 67 0 ∧ ∀ k, k ≠ 56 → s5.2 k = s0.2 k)
          exact (⟨x4.1, x4.2.2 (by omega), x4.2.1⟩)
        · have c8 : ¬ ((Int32.ofInt 481).toInt ≤ w1.toInt) := c8
          refine And.intro ⟨by omega, by omega⟩ ?_
          intro v9 e10
          refine And.intro ⟨by omega, by omega⟩ ?_
          intro s11 e12
          have i13 : Iv s11 := Iv.u2 i6 e12
          intro v15 e16
          have b17 := vg_add e16 (by omega) (by omega)
          exact ⟨rfl, ⟨v15, rfl, (by omega), (by omega), (by first | exact ⟨rfl, fun _ _ => rfl, fun h9 => absurd h9 (by omega)⟩ | exact vg_cpstep x4 (by decide) (by omega) e10 e12), i13⟩, (by show (0 + (481 - v15.toInt) * 1000000000000).toNat < (0 + (481 - w1.toInt) * 1000000000000).toNat; omega)⟩
    ·
      have z0 : (Int32.ofInt 0).toInt = 0 := by decide
      have z1 : (Int32.ofInt 1).toInt = 1 := by decide
      have z481 : (Int32.ofInt 481).toInt = 481 := by decide
      refine ⟨Nat.le_of_ble_eq_true rfl, [(2, [true, true, true], (fun L t => ∃ (x2 : Int32), L = [some (.ref 67), some (.ref 57), some (.int x2)] ∧ (0 : Int) ≤ x2.toInt ∧ x2.toInt ≤ (481 : Int) ∧ (t.1 = s0.1 ∧ (∀ k, k ≠ 57 → t.2 k = s0.2 k) ∧ (0 < x2.toInt → t.2 57 0 = s0.2 67 0)) ∧ Iv t), (fun L _ => (0 + (481 - (vg_li L 2).toInt) * 1000000000000).toNat))], ?_, List.forall_mem_cons.mpr ⟨?_, fun _ h => absurd h List.not_mem_nil⟩⟩
      ·
        exact ⟨rfl, ⟨(Int32.ofInt 0), rfl, (by omega), (by omega), (by first | exact ⟨rfl, fun _ _ => rfl, fun h9 => absurd h9 (by omega)⟩ | exact vg_cpstep None (by decide) (by omega) None rfl), i0⟩, trivial⟩
      ·
        intro L s5 hL
        obtain ⟨w1, rfl, b2, b3, x4, i6⟩ := hL
        refine And.intro (fun c8 => ?_) (fun c8 => ?_)
        · have c8 : (Int32.ofInt 481).toInt ≤ w1.toInt := c8
          show (s5.1 = s0.1 ∧ s5.2 57 0 = s0.2 67 0 ∧ ∀ k, k ≠ 57 → s5.2 k = s0.2 k)
          exact (⟨x4.1, x4.2.2 (by omega), x4.2.1⟩)
        · have c8 : ¬ ((Int32.ofInt 481).toInt ≤ w1.toInt) := c8
          refine And.intro ⟨by omega, by omega⟩ ?_
          intro v9 e10
          refine And.intro ⟨by omega, by omega⟩ ?_
          intro s11 e12
          have i13 : Iv s11 := Iv.u2 i6 e12
          intro v15 e16
          have b17 := vg_add e16 (by omega) (by omega)
          exact ⟨rfl, ⟨v15, rfl, (by omega), (by omega), (by first | exact ⟨rfl, fun _ _ => rfl, fun h9 => absurd h9 (by omega)⟩ | exact vg_cpstep x4 (by decide) (by omega) e10 e12), i13⟩, (by show (0 + (481 - v15.toInt) * 1000000000000).toNat < (0 + (481 - w1.toInt) * 1000000000000).toNat; omega)⟩
    ·
      exact absurd rfl p0
def o_X11_wipes : List vg_I := [(0, .iload_n 1, 1, 0, 0, 0, 0), (1, .istore_n 3, 1, 0, 0, 0, 0), (2, .iload_n 3, 1, 0, 0, 0, 0), (3, .iload_n 1, 1, 0, 0, 0, 0), (4, .iload_n 2, 1, 0, 0, 0, 0), (5, .iadd, 1, 0, 0, 0, 0), (6, .if_icmp .ge 16, 3, 0, 0, 0, 0), (9, .aload_n 0, 1, 0, 0, 0, 0), (10, .getfield 7, 3, 1061, 11, 0, 0), (13, .iload_n 3, 1, 0, 0, 0, 0), (14, .lconst 0, 1, 0, 0, 0, 0), (15, .lastore, 1, 0, 0, 0, 0), (16, .iinc 3 1, 3, 0, 0, 0, 0), (19, .goto (-17), 3, 0, 0, 0, 0), (22, .return_, 1, 0, 0, 0, 0)]
set_option maxRecDepth 100000 in
set_option maxHeartbeats 4000000 in
theorem c_X11_wipes (l : Launch) (G : vg_G) (hp : vg_Hp G) : vg_Ct l G vg_sh r_X11_wipes := by
  refine vg_meth hp vg_sh_ok r_X11_wipes k_X11_wipes rfl (fun h => by cases h) o_X11_wipes [] false (by decide +kernel) (by decide +kernel) ⟨_, _, rfl, rfl⟩ (fun _ h => absurd h List.not_mem_nil) (fun h => by cases h) 600 ?_
  intro as s0 hpre
  obtain ⟨r, a1, a2, rfl, hr, i0, p0⟩ := hpre
  simp only [List.mem_cons, List.not_mem_nil, or_false] at hr
  rcases hr with rfl
  ·
    have z1 : (Int32.ofInt 1).toInt = 1 := by decide
    refine ⟨Nat.le_of_ble_eq_true rfl, [(2, [true, true, true, true], (fun L t => ∃ (x3 : Int32), L = [some (.ref 55), some (.int a1), some (.int a2), some (.int x3)] ∧ (1 : Int) ≤ x3.toInt ∧ x3.toInt ≤ (481 : Int) ∧ (q_wi s0 t a1.toInt x3.toInt ∧ a1.toInt ≤ x3.toInt ∧ x3.toInt ≤ a1.toInt + a2.toInt) ∧ Iv t ∧ Kp s0 t), (fun L _ => (481 - (vg_li L 3).toInt).toNat))], ?_, List.forall_mem_cons.mpr ⟨?_, fun _ h => absurd h List.not_mem_nil⟩⟩
    ·
      exact ⟨rfl, ⟨a1, rfl, (by omega), (by omega), (by first | exact ⟨q_wi0, by omega, by omega⟩ | exact ⟨q_wi1 None.1 rfl (by omega) (by omega) (by omega), by omega, by omega⟩), i0, Kx.rf⟩, trivial⟩
    ·
      intro L s5 hL
      obtain ⟨w1, rfl, b2, b3, x4, i6, k7⟩ := hL
      intro v8 e9
      have b10 := vg_add e9 (by omega) (by omega)
      refine And.intro (fun c11 => ?_) (fun c11 => ?_)
      · have c11 : v8.toInt ≤ w1.toInt := c11
        show Iv s5 ∧ Kp s0 s5 ∧ (q_wi s0 s5 a1.toInt (a1.toInt + a2.toInt))
        exact ⟨i6, k7, (by rw [show a1.toInt + a2.toInt = w1.toInt by omega]; exact x4.1)⟩
      · have c11 : ¬ (v8.toInt ≤ w1.toInt) := c11
        refine And.intro ⟨by omega, by omega⟩ ?_
        intro s12 e13
        have i14 : Iv s12 := Iv.u2 i6 e13
        have k15 : Kp s0 s12 := Kx.u2 k7 e13 (vg_kq_pos rfl (by omega)).1
        intro v16 e17
        have b18 := vg_add e17 (by omega) (by omega)
        exact ⟨rfl, ⟨v16, rfl, (by omega), (by omega), (by first | exact ⟨q_wi0, by omega, by omega⟩ | exact ⟨q_wi1 x4.1 e13 (by omega) (by omega) (by omega), by omega, by omega⟩), i14, k15⟩, (by show (481 - v16.toInt).toNat < (481 - w1.toInt).toNat; omega)⟩
def o_X11_beginsLoop : List vg_I := [(0, .aload_n 0, 1, 0, 0, 0, 0), (1, .getfield 7, 3, 1061, 11, 0, 0), (4, .iconst 1, 1, 0, 0, 0, 0), (5, .aload_n 0, 1, 0, 0, 0, 0), (6, .getfield 96, 3, 1074, 11, 13, 0), (9, .i2l, 1, 0, 0, 0, 0), (10, .lastore, 1, 0, 0, 0, 0), (11, .aload_n 0, 1, 0, 0, 0, 0), (12, .iconst 2, 1, 0, 0, 0, 0), (13, .bipush 8, 2, 0, 0, 0, 0), (15, .invokevirtual 80, 3, 0, 11, 2, 1189), (18, .aload_n 0, 1, 0, 0, 0, 0), (19, .bipush 23, 2, 0, 0, 0, 0), (21, .bipush 16, 2, 0, 0, 0, 0), (23, .invokevirtual 80, 3, 0, 11, 2, 1189), (26, .aload_n 0, 1, 0, 0, 0, 0), (27, .getfield 7, 3, 1061, 11, 0, 0), (30, .sipush 144, 3, 0, 0, 0, 0), (33, .lconst 0, 1, 0, 0, 0, 0), (34, .lastore, 1, 0, 0, 0, 0), (35, .return_, 1, 0, 0, 0, 0)]
set_option maxRecDepth 100000 in
set_option maxHeartbeats 4000000 in
theorem c_X11_beginsLoop (l : Launch) (G : vg_G) (hp : vg_Hp G) : vg_Ct l G vg_sh r_X11_beginsLoop := by
  refine vg_meth hp vg_sh_ok r_X11_beginsLoop k_X11_beginsLoop rfl (fun h => by cases h) o_X11_beginsLoop [r_X11_wipes] false (by decide +kernel) (by decide +kernel) ⟨_, _, rfl, rfl⟩ (List.forall_mem_cons.mpr ⟨⟨c_X11_wipes l G hp, Nat.le_of_ble_eq_true rfl, Nat.le_of_ble_eq_true rfl⟩, fun _ h => absurd h List.not_mem_nil⟩) (fun h => by cases h) 600 ?_
  intro as s0 hpre
  obtain ⟨r, rfl, hr, i0⟩ := hpre
  simp only [List.mem_cons, List.not_mem_nil, or_false] at hr
  rcases hr with rfl
  ·
    have z1 : (Int32.ofInt 1).toInt = 1 := by decide
    have z2 : (Int32.ofInt 2).toInt = 2 := by decide
    have z8 : (Int32.ofInt 8).toInt = 8 := by decide
    have z16 : (Int32.ofInt 16).toInt = 16 := by decide
    have z23 : (Int32.ofInt 23).toInt = 23 := by decide
    have z144 : (Int32.ofInt 144).toInt = 144 := by decide
    refine ⟨Nat.le_of_ble_eq_true rfl, [], ?_, fun _ h => absurd h List.not_mem_nil⟩
    ·
      intro v1 e2
      have g3 : s0.1 55 13 = v1 := by rw [e2]
      intro v4 e5
      refine And.intro ⟨by omega, by omega⟩ ?_
      intro s6 e7
      have i8 : Iv s6 := Iv.u2 i0 e7
      have k9 : Kp s0 s6 := Kx.u2 Kx.rf e7 (vg_kq_pos rfl (by omega)).1
      have y0 := e7
      refine And.intro (Nat.le_of_ble_eq_true rfl) (And.intro ⟨55, (Int32.ofInt 2), (Int32.ofInt 8), rfl, by decide, i8, by omega⟩ ?_)
      intro s11 h10
      have h10 : Iv s11 ∧ Kp s6 s11 ∧ (q_wi s6 s11 (Int32.ofInt 2).toInt ((Int32.ofInt 2).toInt + (Int32.ofInt 8).toInt)) := h10
      have i12 := h10.1
      have k13 : Kp s0 s11 := Kx.tr k9 (h10.2.1)
      have q14 := h10.2.2
      have y1 := q14
      refine And.intro (Nat.le_of_ble_eq_true rfl) (And.intro ⟨55, (Int32.ofInt 23), (Int32.ofInt 16), rfl, by decide, i12, by omega⟩ ?_)
      intro s16 h15
      have h15 : Iv s16 ∧ Kp s11 s16 ∧ (q_wi s11 s16 (Int32.ofInt 23).toInt ((Int32.ofInt 23).toInt + (Int32.ofInt 16).toInt)) := h15
      have i17 := h15.1
      have k18 : Kp s0 s16 := Kx.tr k13 (h15.2.1)
      have q19 := h15.2.2
      have y2 := q19
      refine And.intro ⟨by omega, by omega⟩ ?_
      intro s20 e21
      have i22 : Iv s20 := Iv.u2 i17 e21
      have k23 : Kp s0 s20 := Kx.u2 k18 e21 (vg_kq_pos rfl (by omega)).1
      show Iv s20 ∧ Kp s0 s20 ∧ (s20.1 = s0.1 ∧ ∀ j : Nat, (j = 2 ∨ (23 ≤ j ∧ j ≤ 38)) → s20.2 56 j = Int64.ofNat 0)
      exact ⟨i22, k23, (q_bl y0 y1 y2 e21 (by omega) (by omega) (by omega) (by omega))⟩
def o_X11_beginsElements : List vg_I := [(0, .aload_n 0, 1, 0, 0, 0, 0), (1, .bipush 10, 2, 0, 0, 0, 0), (3, .iconst 3, 1, 0, 0, 0, 0), (4, .invokevirtual 80, 3, 0, 11, 2, 1189), (7, .aload_n 0, 1, 0, 0, 0, 0), (8, .bipush 39, 2, 0, 0, 0, 0), (10, .bipush 49, 2, 0, 0, 0, 0), (12, .invokevirtual 80, 3, 0, 11, 2, 1189), (15, .return_, 1, 0, 0, 0, 0)]
set_option maxRecDepth 100000 in
set_option maxHeartbeats 4000000 in
theorem c_X11_beginsElements (l : Launch) (G : vg_G) (hp : vg_Hp G) : vg_Ct l G vg_sh r_X11_beginsElements := by
  refine vg_meth hp vg_sh_ok r_X11_beginsElements k_X11_beginsElements rfl (fun h => by cases h) o_X11_beginsElements [r_X11_wipes] false (by decide +kernel) (by decide +kernel) ⟨_, _, rfl, rfl⟩ (List.forall_mem_cons.mpr ⟨⟨c_X11_wipes l G hp, Nat.le_of_ble_eq_true rfl, Nat.le_of_ble_eq_true rfl⟩, fun _ h => absurd h List.not_mem_nil⟩) (fun h => by cases h) 600 ?_
  intro as s0 hpre
  obtain ⟨r, rfl, hr, i0⟩ := hpre
  simp only [List.mem_cons, List.not_mem_nil, or_false] at hr
  rcases hr with rfl
  ·
    have z3 : (Int32.ofInt 3).toInt = 3 := by decide
    have z10 : (Int32.ofInt 10).toInt = 10 := by decide
    have z39 : (Int32.ofInt 39).toInt = 39 := by decide
    have z49 : (Int32.ofInt 49).toInt = 49 := by decide
    refine ⟨Nat.le_of_ble_eq_true rfl, [], ?_, fun _ h => absurd h List.not_mem_nil⟩
    ·
      refine And.intro (Nat.le_of_ble_eq_true rfl) (And.intro ⟨55, (Int32.ofInt 10), (Int32.ofInt 3), rfl, by decide, i0, by omega⟩ ?_)
      intro s2 h1
      have h1 : Iv s2 ∧ Kp s0 s2 ∧ (q_wi s0 s2 (Int32.ofInt 10).toInt ((Int32.ofInt 10).toInt + (Int32.ofInt 3).toInt)) := h1
      have i3 := h1.1
      have k4 : Kp s0 s2 := Kx.tr Kx.rf (h1.2.1)
      have q5 := h1.2.2
      refine And.intro (Nat.le_of_ble_eq_true rfl) (And.intro ⟨55, (Int32.ofInt 39), (Int32.ofInt 49), rfl, by decide, i3, by omega⟩ ?_)
      intro s7 h6
      have h6 : Iv s7 ∧ Kp s2 s7 ∧ (q_wi s2 s7 (Int32.ofInt 39).toInt ((Int32.ofInt 39).toInt + (Int32.ofInt 49).toInt)) := h6
      have i8 := h6.1
      have k9 : Kp s0 s7 := Kx.tr k4 (h6.2.1)
      have q10 := h6.2.2
      show Iv s7 ∧ Kp s0 s7 ∧ (True)
      exact ⟨i8, k9, (trivial)⟩
def o_X11_begins : List vg_I := [(0, .iload_n 1, 1, 0, 0, 0, 0), (1, .istore_n 2, 1, 0, 0, 0, 0), (2, .iload_n 2, 1, 0, 0, 0, 0), (3, .bipush 7, 2, 0, 0, 0, 0), (5, .if_icmp .ge 33, 3, 0, 0, 0, 0), (8, .aload_n 0, 1, 0, 0, 0, 0), (9, .getfield 7, 3, 1061, 11, 0, 0), (12, .bipush 16, 2, 0, 0, 0, 0), (14, .iload_n 2, 1, 0, 0, 0, 0), (15, .iadd, 1, 0, 0, 0, 0), (16, .lconst 0, 1, 0, 0, 0, 0), (17, .lastore, 1, 0, 0, 0, 0), (18, .aload_n 0, 1, 0, 0, 0, 0), (19, .sipush 145, 3, 0, 0, 0, 0), (22, .bipush 48, 2, 0, 0, 0, 0), (24, .iload_n 2, 1, 0, 0, 0, 0), (25, .imul, 1, 0, 0, 0, 0), (26, .iadd, 1, 0, 0, 0, 0), (27, .bipush 48, 2, 0, 0, 0, 0), (29, .invokevirtual 80, 3, 0, 11, 2, 1189), (32, .iinc 2 1, 3, 0, 0, 0, 0), (35, .goto (-33), 3, 0, 0, 0, 0), (38, .iload_n 1, 1, 0, 0, 0, 0), (39, .iconst 1, 1, 0, 0, 0, 0), (40, .if_icmp .gt 7, 3, 0, 0, 0, 0), (43, .aload_n 0, 1, 0, 0, 0, 0), (44, .invokevirtual 84, 3, 1, 11, 0, 1193), (47, .iload_n 1, 1, 0, 0, 0, 0), (48, .iconst 2, 1, 0, 0, 0, 0), (49, .if_icmp .gt 7, 3, 0, 0, 0, 0), (52, .aload_n 0, 1, 0, 0, 0, 0), (53, .invokevirtual 87, 3, 2, 11, 0, 1197), (56, .iload_n 1, 1, 0, 0, 0, 0), (57, .iconst 3, 1, 0, 0, 0, 0), (58, .if_icmp .gt 18, 3, 0, 0, 0, 0), (61, .aload_n 0, 1, 0, 0, 0, 0), (62, .bipush 13, 2, 0, 0, 0, 0), (64, .iconst 3, 1, 0, 0, 0, 0), (65, .invokevirtual 80, 3, 0, 11, 2, 1189), (68, .aload_n 0, 1, 0, 0, 0, 0), (69, .bipush 88, 2, 0, 0, 0, 0), (71, .bipush 20, 2, 0, 0, 0, 0), (73, .invokevirtual 80, 3, 0, 11, 2, 1189), (76, .iconst 0, 1, 0, 0, 0, 0), (77, .iload_n 1, 1, 0, 0, 0, 0), (78, .iconst 4, 1, 0, 0, 0, 0), (79, .isub, 1, 0, 0, 0, 0), (80, .invokestatic 90, 3, 3, 1, 2, 1201), (83, .istore_n 2, 1, 0, 0, 0, 0), (84, .iload_n 2, 1, 0, 0, 0, 0), (85, .iconst 3, 1, 0, 0, 0, 0), (86, .if_icmp .ge 32, 3, 0, 0, 0, 0), (89, .aload_n 0, 1, 0, 0, 0, 0), (90, .getfield 7, 3, 1061, 11, 0, 0), (93, .bipush 108, 2, 0, 0, 0, 0), (95, .iload_n 2, 1, 0, 0, 0, 0), (96, .iadd, 1, 0, 0, 0, 0), (97, .lconst 0, 1, 0, 0, 0, 0), (98, .lastore, 1, 0, 0, 0, 0), (99, .aload_n 0, 1, 0, 0, 0, 0), (100, .bipush 111, 2, 0, 0, 0, 0), (102, .bipush 11, 2, 0, 0, 0, 0), (104, .iload_n 2, 1, 0, 0, 0, 0), (105, .imul, 1, 0, 0, 0, 0), (106, .iadd, 1, 0, 0, 0, 0), (107, .bipush 11, 2, 0, 0, 0, 0), (109, .invokevirtual 80, 3, 0, 11, 2, 1189), (112, .iinc 2 1, 3, 0, 0, 0, 0), (115, .goto (-31), 3, 0, 0, 0, 0), (118, .return_, 1, 0, 0, 0, 0)]
set_option maxRecDepth 100000 in
set_option maxHeartbeats 4000000 in
theorem c_X11_begins (l : Launch) (G : vg_G) (hp : vg_Hp G) : vg_Ct l G vg_sh r_X11_begins := by
  refine vg_meth hp vg_sh_ok r_X11_begins k_X11_begins rfl (fun h => by cases h) o_X11_begins [r_X11_wipes, r_X11_beginsLoop, r_X11_beginsElements, r_J9_max_7cf53] false (by decide +kernel) (by decide +kernel) ⟨_, _, rfl, rfl⟩ (List.forall_mem_cons.mpr ⟨⟨c_X11_wipes l G hp, Nat.le_of_ble_eq_true rfl, Nat.le_of_ble_eq_true rfl⟩, List.forall_mem_cons.mpr ⟨⟨c_X11_beginsLoop l G hp, Nat.le_of_ble_eq_true rfl, Nat.le_of_ble_eq_true rfl⟩, List.forall_mem_cons.mpr ⟨⟨c_X11_beginsElements l G hp, Nat.le_of_ble_eq_true rfl, Nat.le_of_ble_eq_true rfl⟩, List.forall_mem_cons.mpr ⟨⟨c_J9_max_7cf53 l G hp, Nat.le_of_ble_eq_true rfl, Nat.le_of_ble_eq_true rfl⟩, fun _ h => absurd h List.not_mem_nil⟩⟩⟩⟩) (fun h => by cases h) 600 ?_
  intro as s0 hpre
  obtain ⟨r, a1, rfl, hr, i0, p0⟩ := hpre
  simp only [List.mem_cons, List.not_mem_nil, or_false] at hr
  rcases hr with rfl
  ·
    have z0 : (Int32.ofInt 0).toInt = 0 := by decide
    have z1 : (Int32.ofInt 1).toInt = 1 := by decide
    have z2 : (Int32.ofInt 2).toInt = 2 := by decide
    have z3 : (Int32.ofInt 3).toInt = 3 := by decide
    have z4 : (Int32.ofInt 4).toInt = 4 := by decide
    have z7 : (Int32.ofInt 7).toInt = 7 := by decide
    have z11 : (Int32.ofInt 11).toInt = 11 := by decide
    have z13 : (Int32.ofInt 13).toInt = 13 := by decide
    have z16 : (Int32.ofInt 16).toInt = 16 := by decide
    have z20 : (Int32.ofInt 20).toInt = 20 := by decide
    have z48 : (Int32.ofInt 48).toInt = 48 := by decide
    have z88 : (Int32.ofInt 88).toInt = 88 := by decide
    have z108 : (Int32.ofInt 108).toInt = 108 := by decide
    have z111 : (Int32.ofInt 111).toInt = 111 := by decide
    have z145 : (Int32.ofInt 145).toInt = 145 := by decide
    refine ⟨Nat.le_of_ble_eq_true rfl, [(2, [true, true, true], (fun L t => ∃ (x2 : Int32), L = [some (.ref 55), some (.int a1), some (.int x2)] ∧ (0 : Int) ≤ x2.toInt ∧ x2.toInt ≤ (7 : Int) ∧ Iv t ∧ Kp s0 t), (fun L _ => (10000000000000000 + (7 - (vg_li L 2).toInt) * 1000000000000).toNat)), (84, [true, false, true], (fun L t => ∃ (x2 : Int32), L = [some (.ref 55), none, some (.int x2)] ∧ (0 : Int) ≤ x2.toInt ∧ x2.toInt ≤ (3 : Int) ∧ Iv t ∧ Kp s0 t), (fun L _ => (0 + (3 - (vg_li L 2).toInt) * 1000000000000).toNat))], ?_, List.forall_mem_cons.mpr ⟨?_, List.forall_mem_cons.mpr ⟨?_, fun _ h => absurd h List.not_mem_nil⟩⟩⟩
    ·
      exact ⟨rfl, ⟨a1, rfl, (by omega), (by omega), i0, Kx.rf⟩, trivial⟩
    ·
      intro L s4 hL
      obtain ⟨w1, rfl, b2, b3, i5, k6⟩ := hL
      refine And.intro (fun c7 => ?_) (fun c7 => ?_)
      · have c7 : (Int32.ofInt 7).toInt ≤ w1.toInt := c7
        refine And.intro (fun c8 => ?_) (fun c8 => ?_)
        · have c8 : (Int32.ofInt 1).toInt < a1.toInt := c8
          refine And.intro (fun c9 => ?_) (fun c9 => ?_)
          · have c9 : (Int32.ofInt 2).toInt < a1.toInt := c9
            refine And.intro (fun c10 => ?_) (fun c10 => ?_)
            · have c10 : (Int32.ofInt 3).toInt < a1.toInt := c10
              intro v11 e12
              have b13 := vg_sub e12 (by omega) (by omega)
              refine And.intro (Nat.le_of_ble_eq_true rfl) (And.intro ⟨(Int32.ofInt 0), v11, rfl, trivial⟩ ?_)
              intro v14 s16 h15
              have h15 : s16 = s4 ∧ ((Int32.ofInt 0).toInt ≤ v14.toInt ∧ v11.toInt ≤ v14.toInt ∧ (v14.toInt = (Int32.ofInt 0).toInt ∨ v14.toInt = v11.toInt)) := h15
              have q19 := h15.1.symm
              subst q19
              have q20 := h15.2
              exact ⟨rfl, ⟨v14, rfl, (by omega), (by omega), i5, k6⟩, (by show (0 + (3 - v14.toInt) * 1000000000000).toNat < (10000000000000000 + (7 - w1.toInt) * 1000000000000).toNat; omega)⟩
            · have c10 : ¬ ((Int32.ofInt 3).toInt < a1.toInt) := c10
              refine And.intro (Nat.le_of_ble_eq_true rfl) (And.intro ⟨55, (Int32.ofInt 13), (Int32.ofInt 3), rfl, by decide, i5, by omega⟩ ?_)
              intro s22 h21
              have h21 : Iv s22 ∧ Kp s4 s22 ∧ (q_wi s4 s22 (Int32.ofInt 13).toInt ((Int32.ofInt 13).toInt + (Int32.ofInt 3).toInt)) := h21
              have i23 := h21.1
              have k24 : Kp s0 s22 := Kx.tr k6 (h21.2.1)
              have q25 := h21.2.2
              refine And.intro (Nat.le_of_ble_eq_true rfl) (And.intro ⟨55, (Int32.ofInt 88), (Int32.ofInt 20), rfl, by decide, i23, by omega⟩ ?_)
              intro s27 h26
              have h26 : Iv s27 ∧ Kp s22 s27 ∧ (q_wi s22 s27 (Int32.ofInt 88).toInt ((Int32.ofInt 88).toInt + (Int32.ofInt 20).toInt)) := h26
              have i28 := h26.1
              have k29 : Kp s0 s27 := Kx.tr k24 (h26.2.1)
              have q30 := h26.2.2
              intro v31 e32
              have b33 := vg_sub e32 (by omega) (by omega)
              refine And.intro (Nat.le_of_ble_eq_true rfl) (And.intro ⟨(Int32.ofInt 0), v31, rfl, trivial⟩ ?_)
              intro v34 s36 h35
              have h35 : s36 = s27 ∧ ((Int32.ofInt 0).toInt ≤ v34.toInt ∧ v31.toInt ≤ v34.toInt ∧ (v34.toInt = (Int32.ofInt 0).toInt ∨ v34.toInt = v31.toInt)) := h35
              have q39 := h35.1.symm
              subst q39
              have q40 := h35.2
              exact ⟨rfl, ⟨v34, rfl, (by omega), (by omega), i28, k29⟩, (by show (0 + (3 - v34.toInt) * 1000000000000).toNat < (10000000000000000 + (7 - w1.toInt) * 1000000000000).toNat; omega)⟩
          · have c9 : ¬ ((Int32.ofInt 2).toInt < a1.toInt) := c9
            refine And.intro (Nat.le_of_ble_eq_true rfl) (And.intro ⟨55, rfl, by decide, i5⟩ ?_)
            intro s42 h41
            have h41 : Iv s42 ∧ Kp s4 s42 ∧ (True) := h41
            have i43 := h41.1
            have k44 : Kp s0 s42 := Kx.tr k6 (h41.2.1)
            refine And.intro (fun c45 => ?_) (fun c45 => ?_)
            · have c45 : (Int32.ofInt 3).toInt < a1.toInt := c45
              exfalso
              omega
            · have c45 : ¬ ((Int32.ofInt 3).toInt < a1.toInt) := c45
              refine And.intro (Nat.le_of_ble_eq_true rfl) (And.intro ⟨55, (Int32.ofInt 13), (Int32.ofInt 3), rfl, by decide, i43, by omega⟩ ?_)
              intro s47 h46
              have h46 : Iv s47 ∧ Kp s42 s47 ∧ (q_wi s42 s47 (Int32.ofInt 13).toInt ((Int32.ofInt 13).toInt + (Int32.ofInt 3).toInt)) := h46
              have i48 := h46.1
              have k49 : Kp s0 s47 := Kx.tr k44 (h46.2.1)
              have q50 := h46.2.2
              refine And.intro (Nat.le_of_ble_eq_true rfl) (And.intro ⟨55, (Int32.ofInt 88), (Int32.ofInt 20), rfl, by decide, i48, by omega⟩ ?_)
              intro s52 h51
              have h51 : Iv s52 ∧ Kp s47 s52 ∧ (q_wi s47 s52 (Int32.ofInt 88).toInt ((Int32.ofInt 88).toInt + (Int32.ofInt 20).toInt)) := h51
              have i53 := h51.1
              have k54 : Kp s0 s52 := Kx.tr k49 (h51.2.1)
              have q55 := h51.2.2
              intro v56 e57
              have b58 := vg_sub e57 (by omega) (by omega)
              refine And.intro (Nat.le_of_ble_eq_true rfl) (And.intro ⟨(Int32.ofInt 0), v56, rfl, trivial⟩ ?_)
              intro v59 s61 h60
              have h60 : s61 = s52 ∧ ((Int32.ofInt 0).toInt ≤ v59.toInt ∧ v56.toInt ≤ v59.toInt ∧ (v59.toInt = (Int32.ofInt 0).toInt ∨ v59.toInt = v56.toInt)) := h60
              have q64 := h60.1.symm
              subst q64
              have q65 := h60.2
              exact ⟨rfl, ⟨v59, rfl, (by omega), (by omega), i53, k54⟩, (by show (0 + (3 - v59.toInt) * 1000000000000).toNat < (10000000000000000 + (7 - w1.toInt) * 1000000000000).toNat; omega)⟩
        · have c8 : ¬ ((Int32.ofInt 1).toInt < a1.toInt) := c8
          refine And.intro (Nat.le_of_ble_eq_true rfl) (And.intro ⟨55, rfl, by decide, i5⟩ ?_)
          intro s67 h66
          have h66 : Iv s67 ∧ Kp s4 s67 ∧ (s67.1 = s4.1 ∧ ∀ j : Nat, (j = 2 ∨ (23 ≤ j ∧ j ≤ 38)) → s67.2 56 j = Int64.ofNat 0) := h66
          have i68 := h66.1
          have k69 : Kp s0 s67 := Kx.tr k6 (h66.2.1)
          have q70 := h66.2.2
          refine And.intro (fun c71 => ?_) (fun c71 => ?_)
          · have c71 : (Int32.ofInt 2).toInt < a1.toInt := c71
            exfalso
            omega
          · have c71 : ¬ ((Int32.ofInt 2).toInt < a1.toInt) := c71
            refine And.intro (Nat.le_of_ble_eq_true rfl) (And.intro ⟨55, rfl, by decide, i68⟩ ?_)
            intro s73 h72
            have h72 : Iv s73 ∧ Kp s67 s73 ∧ (True) := h72
            have i74 := h72.1
            have k75 : Kp s0 s73 := Kx.tr k69 (h72.2.1)
            refine And.intro (fun c76 => ?_) (fun c76 => ?_)
            · have c76 : (Int32.ofInt 3).toInt < a1.toInt := c76
              exfalso
              omega
            · have c76 : ¬ ((Int32.ofInt 3).toInt < a1.toInt) := c76
              refine And.intro (Nat.le_of_ble_eq_true rfl) (And.intro ⟨55, (Int32.ofInt 13), (Int32.ofInt 3), rfl, by decide, i74, by omega⟩ ?_)
              intro s78 h77
              have h77 : Iv s78 ∧ Kp s73 s78 ∧ (q_wi s73 s78 (Int32.ofInt 13).toInt ((Int32.ofInt 13).toInt + (Int32.ofInt 3).toInt)) := h77
              have i79 := h77.1
              have k80 : Kp s0 s78 := Kx.tr k75 (h77.2.1)
              have q81 := h77.2.2
              refine And.intro (Nat.le_of_ble_eq_true rfl) (And.intro ⟨55, (Int32.ofInt 88), (Int32.ofInt 20), rfl, by decide, i79, by omega⟩ ?_)
              intro s83 h82
              have h82 : Iv s83 ∧ Kp s78 s83 ∧ (q_wi s78 s83 (Int32.ofInt 88).toInt ((Int32.ofInt 88).toInt + (Int32.ofInt 20).toInt)) := h82
              have i84 := h82.1
              have k85 : Kp s0 s83 := Kx.tr k80 (h82.2.1)
              have q86 := h82.2.2
              intro v87 e88
              have b89 := vg_sub e88 (by omega) (by omega)
              refine And.intro (Nat.le_of_ble_eq_true rfl) (And.intro ⟨(Int32.ofInt 0), v87, rfl, trivial⟩ ?_)
              intro v90 s92 h91
              have h91 : s92 = s83 ∧ ((Int32.ofInt 0).toInt ≤ v90.toInt ∧ v87.toInt ≤ v90.toInt ∧ (v90.toInt = (Int32.ofInt 0).toInt ∨ v90.toInt = v87.toInt)) := h91
              have q95 := h91.1.symm
              subst q95
              have q96 := h91.2
              exact ⟨rfl, ⟨v90, rfl, (by omega), (by omega), i84, k85⟩, (by show (0 + (3 - v90.toInt) * 1000000000000).toNat < (10000000000000000 + (7 - w1.toInt) * 1000000000000).toNat; omega)⟩
      · have c7 : ¬ ((Int32.ofInt 7).toInt ≤ w1.toInt) := c7
        intro v97 e98
        have b99 := vg_add e98 (by omega) (by omega)
        refine And.intro ⟨by omega, by omega⟩ ?_
        intro s100 e101
        have i102 : Iv s100 := Iv.u2 i5 e101
        have k103 : Kp s0 s100 := Kx.u2 k6 e101 (vg_kq_pos rfl (by omega)).1
        intro v104 e105
        have b106 : v104.toInt = (48) * w1.toInt := vg_mulL e105 (by omega) (by omega) (by omega)
        intro v107 e108
        have b109 := vg_add e108 (by omega) (by omega)
        refine And.intro (Nat.le_of_ble_eq_true rfl) (And.intro ⟨55, v107, (Int32.ofInt 48), rfl, by decide, i102, by omega⟩ ?_)
        intro s111 h110
        have h110 : Iv s111 ∧ Kp s100 s111 ∧ (q_wi s100 s111 v107.toInt (v107.toInt + (Int32.ofInt 48).toInt)) := h110
        have i112 := h110.1
        have k113 : Kp s0 s111 := Kx.tr k103 (h110.2.1)
        have q114 := h110.2.2
        intro v115 e116
        have b117 := vg_add e116 (by omega) (by omega)
        exact ⟨rfl, ⟨v115, rfl, (by omega), (by omega), i112, k113⟩, (by show (10000000000000000 + (7 - v115.toInt) * 1000000000000).toNat < (10000000000000000 + (7 - w1.toInt) * 1000000000000).toNat; omega)⟩
    ·
      intro L s121 hL
      obtain ⟨w118, rfl, b119, b120, i122, k123⟩ := hL
      refine And.intro (fun c124 => ?_) (fun c124 => ?_)
      · have c124 : (Int32.ofInt 3).toInt ≤ w118.toInt := c124
        show Iv s121 ∧ Kp s0 s121 ∧ (True)
        exact ⟨i122, k123, (trivial)⟩
      · have c124 : ¬ ((Int32.ofInt 3).toInt ≤ w118.toInt) := c124
        intro v125 e126
        have b127 := vg_add e126 (by omega) (by omega)
        refine And.intro ⟨by omega, by omega⟩ ?_
        intro s128 e129
        have i130 : Iv s128 := Iv.u2 i122 e129
        have k131 : Kp s0 s128 := Kx.u2 k123 e129 (vg_kq_pos rfl (by omega)).1
        intro v132 e133
        have b134 : v132.toInt = (11) * w118.toInt := vg_mulL e133 (by omega) (by omega) (by omega)
        intro v135 e136
        have b137 := vg_add e136 (by omega) (by omega)
        refine And.intro (Nat.le_of_ble_eq_true rfl) (And.intro ⟨55, v135, (Int32.ofInt 11), rfl, by decide, i130, by omega⟩ ?_)
        intro s139 h138
        have h138 : Iv s139 ∧ Kp s128 s139 ∧ (q_wi s128 s139 v135.toInt (v135.toInt + (Int32.ofInt 11).toInt)) := h138
        have i140 := h138.1
        have k141 : Kp s0 s139 := Kx.tr k131 (h138.2.1)
        have q142 := h138.2.2
        intro v143 e144
        have b145 := vg_add e144 (by omega) (by omega)
        exact ⟨rfl, ⟨v143, rfl, (by omega), (by omega), i140, k141⟩, (by show (0 + (3 - v143.toInt) * 1000000000000).toNat < (0 + (3 - w118.toInt) * 1000000000000).toNat; omega)⟩
def o_X11_elements : List vg_I := [(0, .aload_n 0, 1, 0, 0, 0, 0), (1, .getfield 99, 3, 1068, 11, 7, 0), (4, .iconst 2, 1, 0, 0, 0, 0), (5, .if_icmp .ne 21, 3, 0, 0, 0, 0), (8, .aload_n 0, 1, 0, 0, 0, 0), (9, .getfield 26, 3, 1071, 11, 10, 0), (12, .iconst 1, 1, 0, 0, 0, 0), (13, .isub, 1, 0, 0, 0, 0), (14, .iconst 1, 1, 0, 0, 0, 0), (15, .aload_n 0, 1, 0, 0, 0, 0), (16, .getfield 20, 3, 1069, 11, 8, 0), (19, .ishl, 1, 0, 0, 0, 0), (20, .iconst 1, 1, 0, 0, 0, 0), (21, .isub, 1, 0, 0, 0, 0), (22, .imul, 1, 0, 0, 0, 0), (23, .goto 9, 3, 0, 0, 0, 0), (26, .aload_n 0, 1, 0, 0, 0, 0), (27, .getfield 26, 3, 1071, 11, 10, 0), (30, .iconst 1, 1, 0, 0, 0, 0), (31, .isub, 1, 0, 0, 0, 0), (32, .ireturn, 1, 0, 0, 0, 0)]
set_option maxRecDepth 100000 in
set_option maxHeartbeats 4000000 in
theorem c_X11_elements (l : Launch) (G : vg_G) (hp : vg_Hp G) : vg_Ct l G vg_sh r_X11_elements := by
  refine vg_meth hp vg_sh_ok r_X11_elements k_X11_elements rfl (fun h => by cases h) o_X11_elements [] false (by decide +kernel) (by decide +kernel) ⟨_, _, rfl, rfl⟩ (fun _ h => absurd h List.not_mem_nil) (fun h => by cases h) 600 ?_
  intro as s0 hpre
  obtain ⟨r, rfl, hr, i0⟩ := hpre
  simp only [List.mem_cons, List.not_mem_nil, or_false] at hr
  rcases hr with rfl
  ·
    have z1 : (Int32.ofInt 1).toInt = 1 := by decide
    have z2 : (Int32.ofInt 2).toInt = 2 := by decide
    refine ⟨Nat.le_of_ble_eq_true rfl, [], ?_, fun _ h => absurd h List.not_mem_nil⟩
    ·
      intro v1 e2
      have g3 : s0.1 55 7 = v1 := by rw [e2]
      have b4 : v1.toInt = (s0.1 55 7).toInt := congrArg Int32.toInt e2
      have b5 : (0 : Int) ≤ v1.toInt ∧ v1.toInt ≤ 2 := by rw [e2]; exact Iv_55_7 i0
      refine And.intro (fun c6 => ?_) (fun c6 => ?_)
      · have c6 : ¬ v1.toInt = (Int32.ofInt 2).toInt := c6
        intro v7 e8
        have g9 : s0.1 55 10 = v7 := by rw [e8]
        have b10 : (2 : Int) ≤ v7.toInt ∧ v7.toInt ≤ 17 := by rw [e8]; exact Iv_55_10 i0
        intro v11 e12
        have b13 := vg_sub e12 (by omega) (by omega)
        show s0 = s0 ∧ (v11 = vg_me s0 ∧ 1 ≤ v11.toInt ∧ v11.toInt ≤ 16)
        exact ⟨rfl, (by have h9 : v11 = vg_me s0 := (by simp only [vg_me]; (first | rw [if_pos (by omega)] | rw [if_neg (by omega)]); subst_vars; rfl); have h8 := i0.2; rw [← h9] at h8; exact ⟨h9, h8⟩)⟩
      · have c6 : ¬ (¬ v1.toInt = (Int32.ofInt 2).toInt) := c6
        intro v14 e15
        have g16 : s0.1 55 10 = v14 := by rw [e15]
        have b17 : (2 : Int) ≤ v14.toInt ∧ v14.toInt ≤ 17 := by rw [e15]; exact Iv_55_10 i0
        intro v18 e19
        have b20 := vg_sub e19 (by omega) (by omega)
        intro v21 e22
        have g23 : s0.1 55 8 = v21 := by rw [e22]
        have b24 : (1 : Int) ≤ v21.toInt ∧ v21.toInt ≤ 4 := by rw [e22]; exact Iv_55_8 i0
        intro v25 e26
        have b27 := vg_shl1 e26 (by omega) (by omega) (by omega)
        intro v28 e29
        have b30 := vg_sub e29 (by omega) (by omega)
        intro v31 e32
        have b33 := (vg_mulr e32 (by omega) (by omega) (by omega) (by omega)).2
        show s0 = s0 ∧ (v31 = vg_me s0 ∧ 1 ≤ v31.toInt ∧ v31.toInt ≤ 16)
        exact ⟨rfl, (by have h9 : v31 = vg_me s0 := (by simp only [vg_me]; (first | rw [if_pos (by omega)] | rw [if_neg (by omega)]); subst_vars; rfl); have h8 := i0.2; rw [← h9] at h8; exact ⟨h9, h8⟩)⟩
def o_X11_besides : List vg_I := [(0, .aload_n 0, 1, 0, 0, 0, 0), (1, .getfield 99, 3, 1068, 11, 7, 0), (4, .iconst 2, 1, 0, 0, 0, 0), (5, .if_icmp .ne 23, 3, 0, 0, 0, 0), (8, .aload_n 0, 1, 0, 0, 0, 0), (9, .getfield 26, 3, 1071, 11, 10, 0), (12, .iconst 1, 1, 0, 0, 0, 0), (13, .isub, 1, 0, 0, 0, 0), (14, .iconst 1, 1, 0, 0, 0, 0), (15, .aload_n 0, 1, 0, 0, 0, 0), (16, .getfield 20, 3, 1069, 11, 8, 0), (19, .iconst 1, 1, 0, 0, 0, 0), (20, .isub, 1, 0, 0, 0, 0), (21, .ishl, 1, 0, 0, 0, 0), (22, .iconst 1, 1, 0, 0, 0, 0), (23, .isub, 1, 0, 0, 0, 0), (24, .imul, 1, 0, 0, 0, 0), (25, .goto 4, 3, 0, 0, 0, 0), (28, .iconst 0, 1, 0, 0, 0, 0), (29, .ireturn, 1, 0, 0, 0, 0)]
set_option maxRecDepth 100000 in
set_option maxHeartbeats 4000000 in
theorem c_X11_besides (l : Launch) (G : vg_G) (hp : vg_Hp G) : vg_Ct l G vg_sh r_X11_besides := by
  refine vg_meth hp vg_sh_ok r_X11_besides k_X11_besides rfl (fun h => by cases h) o_X11_besides [] false (by decide +kernel) (by decide +kernel) ⟨_, _, rfl, rfl⟩ (fun _ h => absurd h List.not_mem_nil) (fun h => by cases h) 600 ?_
  intro as s0 hpre
  obtain ⟨r, rfl, hr, i0⟩ := hpre
  simp only [List.mem_cons, List.not_mem_nil, or_false] at hr
  rcases hr with rfl
  ·
    have z0 : (Int32.ofInt 0).toInt = 0 := by decide
    have z1 : (Int32.ofInt 1).toInt = 1 := by decide
    have z2 : (Int32.ofInt 2).toInt = 2 := by decide
    refine ⟨Nat.le_of_ble_eq_true rfl, [], ?_, fun _ h => absurd h List.not_mem_nil⟩
    ·
      intro v1 e2
      have g3 : s0.1 55 7 = v1 := by rw [e2]
      have b4 : v1.toInt = (s0.1 55 7).toInt := congrArg Int32.toInt e2
      have b5 : (0 : Int) ≤ v1.toInt ∧ v1.toInt ≤ 2 := by rw [e2]; exact Iv_55_7 i0
      refine And.intro (fun c6 => ?_) (fun c6 => ?_)
      · have c6 : ¬ v1.toInt = (Int32.ofInt 2).toInt := c6
        show s0 = s0 ∧ ((Int32.ofInt 0) = q_bes (s0.1 55 7) (s0.1 55 8) (s0.1 55 10))
        exact ⟨rfl, (by first | (rw [q_bes, if_pos (by omega)]; subst_vars; rfl) | rw [q_bes, if_neg (by omega)])⟩
      · have c6 : ¬ (¬ v1.toInt = (Int32.ofInt 2).toInt) := c6
        intro v7 e8
        have g9 : s0.1 55 10 = v7 := by rw [e8]
        have b10 : (2 : Int) ≤ v7.toInt ∧ v7.toInt ≤ 17 := by rw [e8]; exact Iv_55_10 i0
        intro v11 e12
        have b13 := vg_sub e12 (by omega) (by omega)
        intro v14 e15
        have g16 : s0.1 55 8 = v14 := by rw [e15]
        have b17 : (1 : Int) ≤ v14.toInt ∧ v14.toInt ≤ 4 := by rw [e15]; exact Iv_55_8 i0
        intro v18 e19
        have b20 := vg_sub e19 (by omega) (by omega)
        intro v21 e22
        intro v23 e24
        intro v25 e26
        show s0 = s0 ∧ (v25 = q_bes (s0.1 55 7) (s0.1 55 8) (s0.1 55 10))
        exact ⟨rfl, (by first | (rw [q_bes, if_pos (by omega)]; subst_vars; rfl) | rw [q_bes, if_neg (by omega)])⟩
def o_X11_weight : List vg_I := [(0, .sipush 1000, 3, 0, 0, 0, 0), (3, .aload_n 0, 1, 0, 0, 0, 0), (4, .getfield 46, 3, 1084, 11, 23, 0), (7, .iload_n 1, 1, 0, 0, 0, 0), (8, .iaload, 1, 0, 0, 0, 0), (9, .iadd, 1, 0, 0, 0, 0), (10, .ireturn, 1, 0, 0, 0, 0)]
set_option maxRecDepth 100000 in
set_option maxHeartbeats 4000000 in
theorem c_X11_weight (l : Launch) (G : vg_G) (hp : vg_Hp G) : vg_Ct l G vg_sh r_X11_weight := by
  refine vg_meth hp vg_sh_ok r_X11_weight k_X11_weight rfl (fun h => by cases h) o_X11_weight [] false (by decide +kernel) (by decide +kernel) ⟨_, _, rfl, rfl⟩ (fun _ h => absurd h List.not_mem_nil) (fun h => by cases h) 600 ?_
  intro as s0 hpre
  obtain ⟨r, a1, rfl, hr, i0, p0⟩ := hpre
  simp only [List.mem_cons, List.not_mem_nil, or_false] at hr
  rcases hr with rfl
  ·
    have z1000 : (Int32.ofInt 1000).toInt = 1000 := by decide
    refine ⟨Nat.le_of_ble_eq_true rfl, [], ?_, fun _ h => absurd h List.not_mem_nil⟩
    ·
      refine And.intro ⟨by omega, by omega⟩ ?_
      intro v1 e2
      intro v3 e4
      show s0 = s0 ∧ (v3 = Int32.ofInt 1000 + s0.1 59 a1.toNatClampNeg)
      exact ⟨rfl, (by rw [e4, e2])⟩
def o_X11_weights : List vg_I := [(0, .iconst 0, 1, 0, 0, 0, 0), (1, .istore_n 1, 1, 0, 0, 0, 0), (2, .iconst 0, 1, 0, 0, 0, 0), (3, .istore_n 2, 1, 0, 0, 0, 0), (4, .iload_n 2, 1, 0, 0, 0, 0), (5, .aload_n 0, 1, 0, 0, 0, 0), (6, .invokevirtual 102, 3, 0, 11, 0, 1218), (9, .if_icmp .ge 17, 3, 0, 0, 0, 0), (12, .iload_n 1, 1, 0, 0, 0, 0), (13, .aload_n 0, 1, 0, 0, 0, 0), (14, .iload_n 2, 1, 0, 0, 0, 0), (15, .invokevirtual 106, 3, 1, 11, 1, 1242), (18, .iadd, 1, 0, 0, 0, 0), (19, .istore_n 1, 1, 0, 0, 0, 0), (20, .iinc 2 1, 3, 0, 0, 0, 0), (23, .goto (-19), 3, 0, 0, 0, 0), (26, .iload_n 1, 1, 0, 0, 0, 0), (27, .ireturn, 1, 0, 0, 0, 0)]
set_option maxRecDepth 100000 in
set_option maxHeartbeats 4000000 in
theorem c_X11_weights (l : Launch) (G : vg_G) (hp : vg_Hp G) : vg_Ct l G vg_sh r_X11_weights := by
  refine vg_meth hp vg_sh_ok r_X11_weights k_X11_weights rfl (fun h => by cases h) o_X11_weights [r_X11_elements, r_X11_weight] false (by decide +kernel) (by decide +kernel) ⟨_, _, rfl, rfl⟩ (List.forall_mem_cons.mpr ⟨⟨c_X11_elements l G hp, Nat.le_of_ble_eq_true rfl, Nat.le_of_ble_eq_true rfl⟩, List.forall_mem_cons.mpr ⟨⟨c_X11_weight l G hp, Nat.le_of_ble_eq_true rfl, Nat.le_of_ble_eq_true rfl⟩, fun _ h => absurd h List.not_mem_nil⟩⟩) (fun h => by cases h) 600 ?_
  intro as s0 hpre
  obtain ⟨r, rfl, hr, i0⟩ := hpre
  simp only [List.mem_cons, List.not_mem_nil, or_false] at hr
  rcases hr with rfl
  ·
    have z0 : (Int32.ofInt 0).toInt = 0 := by decide
    have z1 : (Int32.ofInt 1).toInt = 1 := by decide
    refine ⟨Nat.le_of_ble_eq_true rfl, [(4, [true, true, true], (fun L t => ∃ (x1 : Int32) (x2 : Int32), L = [some (.ref 55), some (.int x1), some (.int x2)] ∧ (0 : Int) ≤ x2.toInt ∧ x2.toInt ≤ (16 : Int) ∧ (x1 = vg_ws (s0.1 59) x2.toNatClampNeg ∧ x2.toInt ≤ (vg_me s0).toInt) ∧ t = s0), (fun L _ => (0 + (16 - (vg_li L 2).toInt) * 1000000000000).toNat))], ?_, List.forall_mem_cons.mpr ⟨?_, fun _ h => absurd h List.not_mem_nil⟩⟩
    ·
      exact ⟨rfl, ⟨(Int32.ofInt 0), (Int32.ofInt 0), rfl, (by omega), (by omega), (by first | exact ⟨rfl, by have h9 := i0.2; omega⟩ | exact ⟨vg_ws_step None.1 None None (by omega) (by omega), by omega⟩), rfl⟩, trivial⟩
    ·
      intro L s6 hL
      obtain ⟨w1, w2, rfl, b3, b4, x5, q9⟩ := hL
      have q9 := q9.symm
      subst q9
      refine And.intro (Nat.le_of_ble_eq_true rfl) (And.intro ⟨55, rfl, by decide, i0⟩ ?_)
      intro v10 s12 h11
      have h11 : s12 = s0 ∧ (v10 = vg_me s0 ∧ 1 ≤ v10.toInt ∧ v10.toInt ≤ 16) := h11
      have q15 := h11.1.symm
      subst q15
      have q16 := h11.2
      have y1 := congrArg Int32.toInt q16.1
      refine And.intro (fun c17 => ?_) (fun c17 => ?_)
      · have c17 : v10.toInt ≤ w2.toInt := c17
        show s0 = s0 ∧ (w1 = vg_ws (s0.1 59) (vg_me s0).toNatClampNeg)
        exact ⟨rfl, (vg_ws_at x5.1 (by omega))⟩
      · have c17 : ¬ (v10.toInt ≤ w2.toInt) := c17
        refine And.intro (Nat.le_of_ble_eq_true rfl) (And.intro ⟨55, w2, rfl, by decide, i0, by omega⟩ ?_)
        intro v18 s20 h19
        have h19 : s20 = s0 ∧ (v18 = Int32.ofInt 1000 + s0.1 59 w2.toNatClampNeg) := h19
        have q23 := h19.1.symm
        subst q23
        have q24 := h19.2
        intro v25 e26
        intro v27 e28
        have b29 := vg_add e28 (by omega) (by omega)
        exact ⟨rfl, ⟨v25, v27, rfl, (by omega), (by omega), (by first | exact ⟨rfl, by have h9 := i0.2; omega⟩ | exact ⟨vg_ws_step x5.1 q24 e26 (by omega) (by omega), by omega⟩), rfl⟩, (by show (0 + (16 - v27.toInt) * 1000000000000).toNat < (0 + (16 - w2.toInt) * 1000000000000).toNat; omega)⟩
def o_X11_tells : List vg_I := [(0, .sipush 145, 3, 0, 0, 0, 0), (3, .bipush 48, 2, 0, 0, 0, 0), (5, .iload_n 1, 1, 0, 0, 0, 0), (6, .imul, 1, 0, 0, 0, 0), (7, .iadd, 1, 0, 0, 0, 0), (8, .istore 4, 2, 0, 0, 0, 0), (10, .bipush 47, 2, 0, 0, 0, 0), (12, .istore 5, 2, 0, 0, 0, 0), (14, .iload 5, 2, 0, 0, 0, 0), (16, .ifCond .le 31, 3, 0, 0, 0, 0), (19, .aload_n 0, 1, 0, 0, 0, 0), (20, .getfield 7, 3, 1061, 11, 0, 0), (23, .iload 4, 2, 0, 0, 0, 0), (25, .iload 5, 2, 0, 0, 0, 0), (27, .iadd, 1, 0, 0, 0, 0), (28, .aload_n 0, 1, 0, 0, 0, 0), (29, .getfield 7, 3, 1061, 11, 0, 0), (32, .iload 4, 2, 0, 0, 0, 0), (34, .iload 5, 2, 0, 0, 0, 0), (36, .iadd, 1, 0, 0, 0, 0), (37, .iconst 1, 1, 0, 0, 0, 0), (38, .isub, 1, 0, 0, 0, 0), (39, .laload, 1, 0, 0, 0, 0), (40, .lastore, 1, 0, 0, 0, 0), (41, .iinc 5 (-1), 3, 0, 0, 0, 0), (44, .goto (-30), 3, 0, 0, 0, 0), (47, .aload_n 0, 1, 0, 0, 0, 0), (48, .getfield 7, 3, 1061, 11, 0, 0), (51, .iload 4, 2, 0, 0, 0, 0), (53, .lload_n 2, 1, 0, 0, 0, 0), (54, .lastore, 1, 0, 0, 0, 0), (55, .aload_n 0, 1, 0, 0, 0, 0), (56, .getfield 7, 3, 1061, 11, 0, 0), (59, .bipush 16, 2, 0, 0, 0, 0), (61, .iload_n 1, 1, 0, 0, 0, 0), (62, .iadd, 1, 0, 0, 0, 0), (63, .dup2, 1, 0, 0, 0, 0), (64, .laload, 1, 0, 0, 0, 0), (65, .lconst 1, 1, 0, 0, 0, 0), (66, .ladd, 1, 0, 0, 0, 0), (67, .lastore, 1, 0, 0, 0, 0), (68, .return_, 1, 0, 0, 0, 0)]
set_option maxRecDepth 100000 in
set_option maxHeartbeats 4000000 in
theorem c_X11_tells (l : Launch) (G : vg_G) (hp : vg_Hp G) : vg_Ct l G vg_sh r_X11_tells := by
  refine vg_meth hp vg_sh_ok r_X11_tells k_X11_tells rfl (fun h => by cases h) o_X11_tells [] false (by decide +kernel) (by decide +kernel) ⟨_, _, rfl, rfl⟩ (fun _ h => absurd h List.not_mem_nil) (fun h => by cases h) 600 ?_
  intro as s0 hpre
  obtain ⟨r, a1, a2, rfl, hr, i0, p0⟩ := hpre
  simp only [List.mem_cons, List.not_mem_nil, or_false] at hr
  rcases hr with rfl
  ·
    have zm1 : (Int32.ofInt (-1)).toInt = -1 := by decide
    have z1 : (Int32.ofInt 1).toInt = 1 := by decide
    have z16 : (Int32.ofInt 16).toInt = 16 := by decide
    have z47 : (Int32.ofInt 47).toInt = 47 := by decide
    have z48 : (Int32.ofInt 48).toInt = 48 := by decide
    have z145 : (Int32.ofInt 145).toInt = 145 := by decide
    refine ⟨Nat.le_of_ble_eq_true rfl, [(14, [true, true, true, false, true, true], (fun L t => ∃ (x4 : Int32) (x5 : Int32), L = [some (.ref 55), some (.int a1), some (.long a2), none, some (.int x4), some (.int x5)] ∧ (145 : Int) ≤ x4.toInt ∧ x4.toInt ≤ (433 : Int) ∧ (0 : Int) ≤ x5.toInt ∧ x5.toInt ≤ (47 : Int) ∧ Iv t ∧ Kp s0 t), (fun L _ => (0 + ((vg_li L 5).toInt - (0)) * 1000000000000).toNat))], ?_, List.forall_mem_cons.mpr ⟨?_, fun _ h => absurd h List.not_mem_nil⟩⟩
    ·
      intro v1 e2
      have b3 : v1.toInt = (48) * a1.toInt := vg_mulL e2 (by omega) (by omega) (by omega)
      intro v4 e5
      have b6 := vg_add e5 (by omega) (by omega)
      exact ⟨rfl, ⟨v4, (Int32.ofInt 47), rfl, (by omega), (by omega), (by omega), (by omega), i0, Kx.rf⟩, trivial⟩
    ·
      intro L s13 hL
      obtain ⟨w7, w10, rfl, b8, b9, b11, b12, i14, k15⟩ := hL
      refine And.intro (fun c16 => ?_) (fun c16 => ?_)
      · have c16 : w10.toInt ≤ 0 := c16
        refine And.intro ⟨by omega, by omega⟩ ?_
        intro s17 e18
        have i19 : Iv s17 := Iv.u2 i14 e18
        have k20 : Kp s0 s17 := Kx.u2 k15 e18 (vg_kq_pos rfl (by omega)).1
        intro v21 e22
        have b23 := vg_add e22 (by omega) (by omega)
        refine And.intro ⟨by omega, by omega⟩ ?_
        intro v24 e25
        intro v26 e27
        refine And.intro ⟨by omega, by omega⟩ ?_
        intro s28 e29
        have i30 : Iv s28 := Iv.u2 i19 e29
        have k31 : Kp s0 s28 := Kx.u2 k20 e29 (vg_kq_pos rfl (by omega)).1
        show Iv s28 ∧ Kp s0 s28 ∧ (True)
        exact ⟨i30, k31, (trivial)⟩
      · have c16 : ¬ (w10.toInt ≤ 0) := c16
        intro v32 e33
        have b34 := vg_add e33 (by omega) (by omega)
        intro v35 e36
        have b37 := vg_add e36 (by omega) (by omega)
        intro v38 e39
        have b40 := vg_sub e39 (by omega) (by omega)
        refine And.intro ⟨by omega, by omega⟩ ?_
        intro v41 e42
        refine And.intro ⟨by omega, by omega⟩ ?_
        intro s43 e44
        have i45 : Iv s43 := Iv.u2 i14 e44
        have k46 : Kp s0 s43 := Kx.u2 k15 e44 (vg_kq_pos rfl (by omega)).1
        intro v47 e48
        have b49 := vg_add e48 (by omega) (by omega)
        exact ⟨rfl, ⟨w7, v47, rfl, (by omega), (by omega), (by omega), (by omega), i45, k46⟩, (by show (0 + (v47.toInt - (0)) * 1000000000000).toNat < (0 + (w10.toInt - (0)) * 1000000000000).toNat; omega)⟩
def o_X11_many : List vg_I := [(0, .bipush 48, 2, 0, 0, 0, 0), (2, .aload_n 0, 1, 0, 0, 0, 0), (3, .bipush 16, 2, 0, 0, 0, 0), (5, .iload_n 1, 1, 0, 0, 0, 0), (6, .iadd, 1, 0, 0, 0, 0), (7, .invokevirtual 110, 3, 0, 11, 1, 1202), (10, .invokestatic 113, 3, 1, 1, 2, 1280), (13, .ireturn, 1, 0, 0, 0, 0)]
set_option maxRecDepth 100000 in
set_option maxHeartbeats 4000000 in
theorem c_X11_many (l : Launch) (G : vg_G) (hp : vg_Hp G) : vg_Ct l G vg_sh r_X11_many := by
  refine vg_meth hp vg_sh_ok r_X11_many k_X11_many rfl (fun h => by cases h) o_X11_many [r_X11_get, r_J9_min_7cf53] false (by decide +kernel) (by decide +kernel) ⟨_, _, rfl, rfl⟩ (List.forall_mem_cons.mpr ⟨⟨c_X11_get l G hp, Nat.le_of_ble_eq_true rfl, Nat.le_of_ble_eq_true rfl⟩, List.forall_mem_cons.mpr ⟨⟨c_J9_min_7cf53 l G hp, Nat.le_of_ble_eq_true rfl, Nat.le_of_ble_eq_true rfl⟩, fun _ h => absurd h List.not_mem_nil⟩⟩) (fun h => by cases h) 600 ?_
  intro as s0 hpre
  obtain ⟨r, a1, rfl, hr, i0, p0⟩ := hpre
  simp only [List.mem_cons, List.not_mem_nil, or_false] at hr
  rcases hr with rfl
  ·
    have z16 : (Int32.ofInt 16).toInt = 16 := by decide
    have z48 : (Int32.ofInt 48).toInt = 48 := by decide
    refine ⟨Nat.le_of_ble_eq_true rfl, [], ?_, fun _ h => absurd h List.not_mem_nil⟩
    ·
      intro v1 e2
      have b3 := vg_add e2 (by omega) (by omega)
      refine And.intro (Nat.le_of_ble_eq_true rfl) (And.intro ⟨55, v1, rfl, by decide, i0, by omega⟩ ?_)
      intro v4 s6 h5
      have h5 : s6 = s0 ∧ (v4 = (s0.2 56 v1.toNatClampNeg).toInt32) := h5
      have q9 := h5.1.symm
      subst q9
      have q10 := h5.2
      refine And.intro (Nat.le_of_ble_eq_true rfl) (And.intro ⟨(Int32.ofInt 48), v4, rfl, trivial⟩ ?_)
      intro v11 s13 h12
      have h12 : s13 = s0 ∧ (v11.toInt ≤ (Int32.ofInt 48).toInt ∧ v11.toInt ≤ v4.toInt ∧ (v11.toInt = (Int32.ofInt 48).toInt ∨ v11.toInt = v4.toInt)) := h12
      have q16 := h12.1.symm
      subst q16
      have q17 := h12.2
      show s0 = s0 ∧ (v11.toInt ≤ 48)
      exact ⟨rfl, (by first | trivial | omega | assumption)⟩
def o_X11_latestOf : List vg_I := [(0, .aload_n 0, 1, 0, 0, 0, 0), (1, .getfield 7, 3, 1061, 11, 0, 0), (4, .sipush 145, 3, 0, 0, 0, 0), (7, .bipush 48, 2, 0, 0, 0, 0), (9, .iload_n 1, 1, 0, 0, 0, 0), (10, .imul, 1, 0, 0, 0, 0), (11, .iadd, 1, 0, 0, 0, 0), (12, .iload_n 2, 1, 0, 0, 0, 0), (13, .iadd, 1, 0, 0, 0, 0), (14, .laload, 1, 0, 0, 0, 0), (15, .lreturn, 1, 0, 0, 0, 0)]
set_option maxRecDepth 100000 in
set_option maxHeartbeats 4000000 in
theorem c_X11_latestOf (l : Launch) (G : vg_G) (hp : vg_Hp G) : vg_Ct l G vg_sh r_X11_latestOf := by
  refine vg_meth hp vg_sh_ok r_X11_latestOf k_X11_latestOf rfl (fun h => by cases h) o_X11_latestOf [] false (by decide +kernel) (by decide +kernel) ⟨_, _, rfl, rfl⟩ (fun _ h => absurd h List.not_mem_nil) (fun h => by cases h) 600 ?_
  intro as s0 hpre
  obtain ⟨r, a1, a2, rfl, hr, i0, p0⟩ := hpre
  simp only [List.mem_cons, List.not_mem_nil, or_false] at hr
  rcases hr with rfl
  ·
    have z48 : (Int32.ofInt 48).toInt = 48 := by decide
    have z145 : (Int32.ofInt 145).toInt = 145 := by decide
    refine ⟨Nat.le_of_ble_eq_true rfl, [], ?_, fun _ h => absurd h List.not_mem_nil⟩
    ·
      intro v1 e2
      have b3 : v1.toInt = (48) * a1.toInt := vg_mulL e2 (by omega) (by omega) (by omega)
      intro v4 e5
      have b6 := vg_add e5 (by omega) (by omega)
      intro v7 e8
      have b9 := vg_add e8 (by omega) (by omega)
      refine And.intro ⟨by omega, by omega⟩ ?_
      intro v10 e11
      show s0 = s0 ∧ (True)
      exact ⟨rfl, (trivial)⟩
def o_X11_sourceAt : List vg_I := [(0, .aload_n 0, 1, 0, 0, 0, 0), (1, .getfield 116, 3, 1064, 11, 3, 0), (4, .ifCond .ne 10, 3, 0, 0, 0, 0), (7, .aload_n 0, 1, 0, 0, 0, 0), (8, .getfield 119, 3, 1065, 11, 4, 0), (11, .goto 76, 3, 0, 0, 0, 0), (14, .aload_n 0, 1, 0, 0, 0, 0), (15, .getfield 116, 3, 1064, 11, 3, 0), (18, .iconst 1, 1, 0, 0, 0, 0), (19, .if_icmp .ne 22, 3, 0, 0, 0, 0), (22, .aload_n 0, 1, 0, 0, 0, 0), (23, .getfield 119, 3, 1065, 11, 4, 0), (26, .aload_n 0, 1, 0, 0, 0, 0), (27, .getfield 122, 3, 1066, 11, 5, 0), (30, .iload_n 1, 1, 0, 0, 0, 0), (31, .aload_n 0, 1, 0, 0, 0, 0), (32, .getfield 16, 3, 1067, 11, 6, 0), (35, .irem, 1, 0, 0, 0, 0), (36, .imul, 1, 0, 0, 0, 0), (37, .iadd, 1, 0, 0, 0, 0), (38, .goto 49, 3, 0, 0, 0, 0), (41, .aload_n 0, 1, 0, 0, 0, 0), (42, .getfield 116, 3, 1064, 11, 3, 0), (45, .iconst 2, 1, 0, 0, 0, 0), (46, .if_icmp .ne 32, 3, 0, 0, 0, 0), (49, .iload_n 1, 1, 0, 0, 0, 0), (50, .iconst 2, 1, 0, 0, 0, 0), (51, .aload_n 0, 1, 0, 0, 0, 0), (52, .getfield 16, 3, 1067, 11, 6, 0), (55, .imul, 1, 0, 0, 0, 0), (56, .irem, 1, 0, 0, 0, 0), (57, .aload_n 0, 1, 0, 0, 0, 0), (58, .getfield 16, 3, 1067, 11, 6, 0), (61, .if_icmp .ge 10, 3, 0, 0, 0, 0), (64, .aload_n 0, 1, 0, 0, 0, 0), (65, .getfield 119, 3, 1065, 11, 4, 0), (68, .goto 19, 3, 0, 0, 0, 0), (71, .aload_n 0, 1, 0, 0, 0, 0), (72, .getfield 122, 3, 1066, 11, 5, 0), (75, .goto 12, 3, 0, 0, 0, 0), (78, .aload_n 0, 1, 0, 0, 0, 0), (79, .getfield 42, 3, 1083, 11, 22, 0), (82, .iload_n 1, 1, 0, 0, 0, 0), (83, .bipush 16, 2, 0, 0, 0, 0), (85, .irem, 1, 0, 0, 0, 0), (86, .iaload, 1, 0, 0, 0, 0), (87, .istore_n 2, 1, 0, 0, 0, 0), (88, .sipush (-30000), 3, 0, 0, 0, 0), (91, .sipush 30000, 3, 0, 0, 0, 0), (94, .iload_n 2, 1, 0, 0, 0, 0), (95, .invokestatic 113, 3, 0, 1, 2, 1280), (98, .invokestatic 90, 3, 1, 1, 2, 1201), (101, .ireturn, 1, 0, 0, 0, 0)]
set_option maxRecDepth 100000 in
set_option maxHeartbeats 4000000 in
theorem c_X11_sourceAt (l : Launch) (G : vg_G) (hp : vg_Hp G) : vg_Ct l G vg_sh r_X11_sourceAt := by
  refine vg_meth hp vg_sh_ok r_X11_sourceAt k_X11_sourceAt rfl (fun h => by cases h) o_X11_sourceAt [r_J9_min_7cf53, r_J9_max_7cf53] false (by decide +kernel) (by decide +kernel) ⟨_, _, rfl, rfl⟩ (List.forall_mem_cons.mpr ⟨⟨c_J9_min_7cf53 l G hp, Nat.le_of_ble_eq_true rfl, Nat.le_of_ble_eq_true rfl⟩, List.forall_mem_cons.mpr ⟨⟨c_J9_max_7cf53 l G hp, Nat.le_of_ble_eq_true rfl, Nat.le_of_ble_eq_true rfl⟩, fun _ h => absurd h List.not_mem_nil⟩⟩) (fun h => by cases h) 600 ?_
  intro as s0 hpre
  obtain ⟨r, a1, rfl, hr, i0, p0⟩ := hpre
  have ra1 := vg_rng a1
  simp only [List.mem_cons, List.not_mem_nil, or_false] at hr
  rcases hr with rfl
  ·
    have zm30000 : (Int32.ofInt (-30000)).toInt = -30000 := by decide
    have z1 : (Int32.ofInt 1).toInt = 1 := by decide
    have z2 : (Int32.ofInt 2).toInt = 2 := by decide
    have z16 : (Int32.ofInt 16).toInt = 16 := by decide
    have z30000 : (Int32.ofInt 30000).toInt = 30000 := by decide
    refine ⟨Nat.le_of_ble_eq_true rfl, [], ?_, fun _ h => absurd h List.not_mem_nil⟩
    ·
      intro v1 e2
      have g3 : s0.1 55 3 = v1 := by rw [e2]
      refine And.intro (fun c4 => ?_) (fun c4 => ?_)
      · have c4 : ¬ v1.toInt = 0 := c4
        intro v5 e6
        have w7 : v1 = v5 := by rw [e6, g3]
        subst w7
        refine And.intro (fun c8 => ?_) (fun c8 => ?_)
        · have c8 : ¬ v1.toInt = (Int32.ofInt 1).toInt := c8
          intro v9 e10
          have w11 : v1 = v9 := by rw [e10, g3]
          subst w11
          refine And.intro (fun c12 => ?_) (fun c12 => ?_)
          · have c12 : ¬ v1.toInt = (Int32.ofInt 2).toInt := c12
            refine And.intro (by omega) ?_
            intro v13 e14
            have b15 := (vg_rem e14 (by omega) (by omega)).2
            refine And.intro ⟨by omega, by omega⟩ ?_
            intro v16 e17
            refine And.intro (Nat.le_of_ble_eq_true rfl) (And.intro ⟨(Int32.ofInt 30000), v16, rfl, trivial⟩ ?_)
            intro v18 s20 h19
            have h19 : s20 = s0 ∧ (v18.toInt ≤ (Int32.ofInt 30000).toInt ∧ v18.toInt ≤ v16.toInt ∧ (v18.toInt = (Int32.ofInt 30000).toInt ∨ v18.toInt = v16.toInt)) := h19
            have q23 := h19.1.symm
            subst q23
            have q24 := h19.2
            refine And.intro (Nat.le_of_ble_eq_true rfl) (And.intro ⟨(Int32.ofInt (-30000)), v18, rfl, trivial⟩ ?_)
            intro v25 s27 h26
            have h26 : s27 = s0 ∧ ((Int32.ofInt (-30000)).toInt ≤ v25.toInt ∧ v18.toInt ≤ v25.toInt ∧ (v25.toInt = (Int32.ofInt (-30000)).toInt ∨ v25.toInt = v18.toInt)) := h26
            have q30 := h26.1.symm
            subst q30
            have q31 := h26.2
            show s0 = s0 ∧ (True)
            exact ⟨rfl, (trivial)⟩
          · have c12 : ¬ (¬ v1.toInt = (Int32.ofInt 2).toInt) := c12
            intro v32 e33
            have g34 : s0.1 55 6 = v32 := by rw [e33]
            have b35 : (1 : Int) ≤ v32.toInt ∧ v32.toInt ≤ 1000 := by rw [e33]; exact Iv_55_6 i0
            intro v36 e37
            have b38 : v36.toInt = (2) * v32.toInt := vg_mulL e37 (by omega) (by omega) (by omega)
            refine And.intro (by omega) ?_
            intro v39 e40
            have b41 := (vg_rem e40 (by omega) (by omega)).2
            intro v42 e43
            have w44 : v32 = v42 := by rw [e43, g34]
            subst w44
            refine And.intro (fun c45 => ?_) (fun c45 => ?_)
            · have c45 : v32.toInt ≤ v39.toInt := c45
              intro v46 e47
              have g48 : s0.1 55 5 = v46 := by rw [e47]
              refine And.intro (Nat.le_of_ble_eq_true rfl) (And.intro ⟨(Int32.ofInt 30000), v46, rfl, trivial⟩ ?_)
              intro v49 s51 h50
              have h50 : s51 = s0 ∧ (v49.toInt ≤ (Int32.ofInt 30000).toInt ∧ v49.toInt ≤ v46.toInt ∧ (v49.toInt = (Int32.ofInt 30000).toInt ∨ v49.toInt = v46.toInt)) := h50
              have q54 := h50.1.symm
              subst q54
              have q55 := h50.2
              refine And.intro (Nat.le_of_ble_eq_true rfl) (And.intro ⟨(Int32.ofInt (-30000)), v49, rfl, trivial⟩ ?_)
              intro v56 s58 h57
              have h57 : s58 = s0 ∧ ((Int32.ofInt (-30000)).toInt ≤ v56.toInt ∧ v49.toInt ≤ v56.toInt ∧ (v56.toInt = (Int32.ofInt (-30000)).toInt ∨ v56.toInt = v49.toInt)) := h57
              have q61 := h57.1.symm
              subst q61
              have q62 := h57.2
              show s0 = s0 ∧ (True)
              exact ⟨rfl, (trivial)⟩
            · have c45 : ¬ (v32.toInt ≤ v39.toInt) := c45
              intro v63 e64
              have g65 : s0.1 55 4 = v63 := by rw [e64]
              refine And.intro (Nat.le_of_ble_eq_true rfl) (And.intro ⟨(Int32.ofInt 30000), v63, rfl, trivial⟩ ?_)
              intro v66 s68 h67
              have h67 : s68 = s0 ∧ (v66.toInt ≤ (Int32.ofInt 30000).toInt ∧ v66.toInt ≤ v63.toInt ∧ (v66.toInt = (Int32.ofInt 30000).toInt ∨ v66.toInt = v63.toInt)) := h67
              have q71 := h67.1.symm
              subst q71
              have q72 := h67.2
              refine And.intro (Nat.le_of_ble_eq_true rfl) (And.intro ⟨(Int32.ofInt (-30000)), v66, rfl, trivial⟩ ?_)
              intro v73 s75 h74
              have h74 : s75 = s0 ∧ ((Int32.ofInt (-30000)).toInt ≤ v73.toInt ∧ v66.toInt ≤ v73.toInt ∧ (v73.toInt = (Int32.ofInt (-30000)).toInt ∨ v73.toInt = v66.toInt)) := h74
              have q78 := h74.1.symm
              subst q78
              have q79 := h74.2
              show s0 = s0 ∧ (True)
              exact ⟨rfl, (trivial)⟩
        · have c8 : ¬ (¬ v1.toInt = (Int32.ofInt 1).toInt) := c8
          intro v80 e81
          have g82 : s0.1 55 4 = v80 := by rw [e81]
          intro v83 e84
          have g85 : s0.1 55 5 = v83 := by rw [e84]
          intro v86 e87
          have g88 : s0.1 55 6 = v86 := by rw [e87]
          have b89 : (1 : Int) ≤ v86.toInt ∧ v86.toInt ≤ 1000 := by rw [e87]; exact Iv_55_6 i0
          refine And.intro (by omega) ?_
          intro v90 e91
          have b92 := (vg_rem e91 (by omega) (by omega)).2
          intro v93 e94
          intro v95 e96
          refine And.intro (Nat.le_of_ble_eq_true rfl) (And.intro ⟨(Int32.ofInt 30000), v95, rfl, trivial⟩ ?_)
          intro v97 s99 h98
          have h98 : s99 = s0 ∧ (v97.toInt ≤ (Int32.ofInt 30000).toInt ∧ v97.toInt ≤ v95.toInt ∧ (v97.toInt = (Int32.ofInt 30000).toInt ∨ v97.toInt = v95.toInt)) := h98
          have q102 := h98.1.symm
          subst q102
          have q103 := h98.2
          refine And.intro (Nat.le_of_ble_eq_true rfl) (And.intro ⟨(Int32.ofInt (-30000)), v97, rfl, trivial⟩ ?_)
          intro v104 s106 h105
          have h105 : s106 = s0 ∧ ((Int32.ofInt (-30000)).toInt ≤ v104.toInt ∧ v97.toInt ≤ v104.toInt ∧ (v104.toInt = (Int32.ofInt (-30000)).toInt ∨ v104.toInt = v97.toInt)) := h105
          have q109 := h105.1.symm
          subst q109
          have q110 := h105.2
          show s0 = s0 ∧ (True)
          exact ⟨rfl, (trivial)⟩
      · have c4 : ¬ (¬ v1.toInt = 0) := c4
        intro v111 e112
        have g113 : s0.1 55 4 = v111 := by rw [e112]
        refine And.intro (Nat.le_of_ble_eq_true rfl) (And.intro ⟨(Int32.ofInt 30000), v111, rfl, trivial⟩ ?_)
        intro v114 s116 h115
        have h115 : s116 = s0 ∧ (v114.toInt ≤ (Int32.ofInt 30000).toInt ∧ v114.toInt ≤ v111.toInt ∧ (v114.toInt = (Int32.ofInt 30000).toInt ∨ v114.toInt = v111.toInt)) := h115
        have q119 := h115.1.symm
        subst q119
        have q120 := h115.2
        refine And.intro (Nat.le_of_ble_eq_true rfl) (And.intro ⟨(Int32.ofInt (-30000)), v114, rfl, trivial⟩ ?_)
        intro v121 s123 h122
        have h122 : s123 = s0 ∧ ((Int32.ofInt (-30000)).toInt ≤ v121.toInt ∧ v114.toInt ≤ v121.toInt ∧ (v121.toInt = (Int32.ofInt (-30000)).toInt ∨ v121.toInt = v114.toInt)) := h122
        have q126 := h122.1.symm
        subst q126
        have q127 := h122.2
        show s0 = s0 ∧ (True)
        exact ⟨rfl, (trivial)⟩
def o_X11_valueOf : List vg_I := [(0, .aload_n 0, 1, 0, 0, 0, 0), (1, .getfield 23, 3, 1070, 11, 9, 0), (4, .iconst 2, 1, 0, 0, 0, 0), (5, .iload_n 1, 1, 0, 0, 0, 0), (6, .imul, 1, 0, 0, 0, 0), (7, .iconst 1, 1, 0, 0, 0, 0), (8, .iadd, 1, 0, 0, 0, 0), (9, .aload_n 0, 1, 0, 0, 0, 0), (10, .getfield 26, 3, 1071, 11, 10, 0), (13, .isub, 1, 0, 0, 0, 0), (14, .imul, 1, 0, 0, 0, 0), (15, .ireturn, 1, 0, 0, 0, 0)]
set_option maxRecDepth 100000 in
set_option maxHeartbeats 4000000 in
theorem c_X11_valueOf (l : Launch) (G : vg_G) (hp : vg_Hp G) : vg_Ct l G vg_sh r_X11_valueOf := by
  refine vg_meth hp vg_sh_ok r_X11_valueOf k_X11_valueOf rfl (fun h => by cases h) o_X11_valueOf [] false (by decide +kernel) (by decide +kernel) ⟨_, _, rfl, rfl⟩ (fun _ h => absurd h List.not_mem_nil) (fun h => by cases h) 600 ?_
  intro as s0 hpre
  obtain ⟨r, a1, rfl, hr, i0⟩ := hpre
  simp only [List.mem_cons, List.not_mem_nil, or_false] at hr
  rcases hr with rfl
  ·
    have z1 : (Int32.ofInt 1).toInt = 1 := by decide
    have z2 : (Int32.ofInt 2).toInt = 2 := by decide
    refine ⟨Nat.le_of_ble_eq_true rfl, [], ?_, fun _ h => absurd h List.not_mem_nil⟩
    ·
      intro v1 e2
      have g3 : s0.1 55 9 = v1 := by rw [e2]
      intro v4 e5
      intro v6 e7
      intro v8 e9
      have g10 : s0.1 55 10 = v8 := by rw [e9]
      have b11 : (2 : Int) ≤ v8.toInt ∧ v8.toInt ≤ 17 := by rw [e9]; exact Iv_55_10 i0
      intro v12 e13
      intro v14 e15
      show s0 = s0 ∧ (v14 = q_val (s0.1 55 9) (s0.1 55 10) a1)
      exact ⟨rfl, (by subst_vars; rfl)⟩
def o_X11_nearest : List vg_I := [(0, .iconst 0, 1, 0, 0, 0, 0), (1, .istore_n 2, 1, 0, 0, 0, 0), (2, .iconst 1, 1, 0, 0, 0, 0), (3, .istore_n 3, 1, 0, 0, 0, 0), (4, .iload_n 3, 1, 0, 0, 0, 0), (5, .aload_n 0, 1, 0, 0, 0, 0), (6, .getfield 26, 3, 1071, 11, 10, 0), (9, .if_icmp .ge 34, 3, 0, 0, 0, 0), (12, .aload_n 0, 1, 0, 0, 0, 0), (13, .iload_n 3, 1, 0, 0, 0, 0), (14, .invokevirtual 125, 3, 0, 11, 1, 1305), (17, .iload_n 1, 1, 0, 0, 0, 0), (18, .isub, 1, 0, 0, 0, 0), (19, .invokestatic 128, 3, 1, 1, 1, 1309), (22, .aload_n 0, 1, 0, 0, 0, 0), (23, .iload_n 2, 1, 0, 0, 0, 0), (24, .invokevirtual 125, 3, 0, 11, 1, 1305), (27, .iload_n 1, 1, 0, 0, 0, 0), (28, .isub, 1, 0, 0, 0, 0), (29, .invokestatic 128, 3, 1, 1, 1, 1309), (32, .if_icmp .ge 5, 3, 0, 0, 0, 0), (35, .iload_n 3, 1, 0, 0, 0, 0), (36, .istore_n 2, 1, 0, 0, 0, 0), (37, .iinc 3 1, 3, 0, 0, 0, 0), (40, .goto (-36), 3, 0, 0, 0, 0), (43, .iload_n 2, 1, 0, 0, 0, 0), (44, .ireturn, 1, 0, 0, 0, 0)]
set_option maxRecDepth 100000 in
set_option maxHeartbeats 4000000 in
theorem c_X11_nearest (l : Launch) (G : vg_G) (hp : vg_Hp G) : vg_Ct l G vg_sh r_X11_nearest := by
  refine vg_meth hp vg_sh_ok r_X11_nearest k_X11_nearest rfl (fun h => by cases h) o_X11_nearest [r_X11_valueOf, r_J9_abs_0f7a4] false (by decide +kernel) (by decide +kernel) ⟨_, _, rfl, rfl⟩ (List.forall_mem_cons.mpr ⟨⟨c_X11_valueOf l G hp, Nat.le_of_ble_eq_true rfl, Nat.le_of_ble_eq_true rfl⟩, List.forall_mem_cons.mpr ⟨⟨c_J9_abs_0f7a4 l G hp, Nat.le_of_ble_eq_true rfl, Nat.le_of_ble_eq_true rfl⟩, fun _ h => absurd h List.not_mem_nil⟩⟩) (fun h => by cases h) 600 ?_
  intro as s0 hpre
  obtain ⟨r, a1, rfl, hr, i0⟩ := hpre
  simp only [List.mem_cons, List.not_mem_nil, or_false] at hr
  rcases hr with rfl
  ·
    have z0 : (Int32.ofInt 0).toInt = 0 := by decide
    have z1 : (Int32.ofInt 1).toInt = 1 := by decide
    refine ⟨Nat.le_of_ble_eq_true rfl, [(4, [true, true, true, true], (fun L t => ∃ (x2 : Int32) (x3 : Int32), L = [some (.ref 55), some (.int a1), some (.int x2), some (.int x3)] ∧ (1 : Int) ≤ x3.toInt ∧ x3.toInt ≤ (17 : Int) ∧ (x2 = q_best (s0.1 55 9) (s0.1 55 10) a1 (x3.toInt - 1).toNat ∧ x3.toInt ≤ (s0.1 55 10).toInt) ∧ t = s0), (fun L _ => (0 + (17 - (vg_li L 3).toInt) * 1000000000000).toNat))], ?_, List.forall_mem_cons.mpr ⟨?_, fun _ h => absurd h List.not_mem_nil⟩⟩
    ·
      exact ⟨rfl, ⟨(Int32.ofInt 0), (Int32.ofInt 1), rfl, (by omega), (by omega), (by first | exact ⟨by rw [z1]; rfl, by have h9 := Iv_55_10 i0; omega⟩ | exact ⟨(q_best_up None.1 y0 y1 y2 y3 y4 y5 (by omega) (by omega)).1 (by omega), by omega⟩ | exact ⟨(q_best_up None.1 y0 y1 y2 y3 y4 y5 (by omega) (by omega)).2 (by omega), by omega⟩), rfl⟩, trivial⟩
    ·
      intro L s6 hL
      obtain ⟨w1, w2, rfl, b3, b4, x5, q9⟩ := hL
      have q9 := q9.symm
      subst q9
      intro v10 e11
      have g12 : s0.1 55 10 = v10 := by rw [e11]
      have b13 : v10.toInt = (s0.1 55 10).toInt := congrArg Int32.toInt e11
      have b14 : (2 : Int) ≤ v10.toInt ∧ v10.toInt ≤ 17 := by rw [e11]; exact Iv_55_10 i0
      refine And.intro (fun c15 => ?_) (fun c15 => ?_)
      · have c15 : v10.toInt ≤ w2.toInt := c15
        show s0 = s0 ∧ (w1 = q_near (s0.1 55 9) (s0.1 55 10) a1)
        exact ⟨rfl, (q_near_at x5.1 (by omega))⟩
      · have c15 : ¬ (v10.toInt ≤ w2.toInt) := c15
        refine And.intro (Nat.le_of_ble_eq_true rfl) (And.intro ⟨55, w2, rfl, by decide, i0⟩ ?_)
        intro v16 s18 h17
        have h17 : s18 = s0 ∧ (v16 = q_val (s0.1 55 9) (s0.1 55 10) w2) := h17
        have q21 := h17.1.symm
        subst q21
        have q22 := h17.2
        have y0 := q22
        intro v23 e24
        have y1 := e24
        refine And.intro (Nat.le_of_ble_eq_true rfl) (And.intro ⟨v23, rfl, trivial⟩ ?_)
        intro v25 s27 h26
        have h26 : s27 = s0 ∧ (v25 = q_abs v23) := h26
        have q30 := h26.1.symm
        subst q30
        have q31 := h26.2
        have y2 := q31
        refine And.intro (Nat.le_of_ble_eq_true rfl) (And.intro ⟨55, w1, rfl, by decide, i0⟩ ?_)
        intro v32 s34 h33
        have h33 : s34 = s0 ∧ (v32 = q_val (s0.1 55 9) (s0.1 55 10) w1) := h33
        have q37 := h33.1.symm
        subst q37
        have q38 := h33.2
        have y3 := q38
        intro v39 e40
        have y4 := e40
        refine And.intro (Nat.le_of_ble_eq_true rfl) (And.intro ⟨v39, rfl, trivial⟩ ?_)
        intro v41 s43 h42
        have h42 : s43 = s0 ∧ (v41 = q_abs v39) := h42
        have q46 := h42.1.symm
        subst q46
        have q47 := h42.2
        have y5 := q47
        refine And.intro (fun c48 => ?_) (fun c48 => ?_)
        · have c48 : v41.toInt ≤ v25.toInt := c48
          intro v49 e50
          have b51 := vg_add e50 (by omega) (by omega)
          exact ⟨rfl, ⟨w1, v49, rfl, (by omega), (by omega), (by first | exact ⟨by rw [z1]; rfl, by have h9 := Iv_55_10 i0; omega⟩ | exact ⟨(q_best_up x5.1 y0 y1 y2 y3 y4 y5 (by omega) (by omega)).1 (by omega), by omega⟩ | exact ⟨(q_best_up x5.1 y0 y1 y2 y3 y4 y5 (by omega) (by omega)).2 (by omega), by omega⟩), rfl⟩, (by show (0 + (17 - v49.toInt) * 1000000000000).toNat < (0 + (17 - w2.toInt) * 1000000000000).toNat; omega)⟩
        · have c48 : ¬ (v41.toInt ≤ v25.toInt) := c48
          intro v52 e53
          have b54 := vg_add e53 (by omega) (by omega)
          exact ⟨rfl, ⟨w2, v52, rfl, (by omega), (by omega), (by first | exact ⟨by rw [z1]; rfl, by have h9 := Iv_55_10 i0; omega⟩ | exact ⟨(q_best_up x5.1 y0 y1 y2 y3 y4 y5 (by omega) (by omega)).1 (by omega), by omega⟩ | exact ⟨(q_best_up x5.1 y0 y1 y2 y3 y4 y5 (by omega) (by omega)).2 (by omega), by omega⟩), rfl⟩, (by show (0 + (17 - v52.toInt) * 1000000000000).toNat < (0 + (17 - w2.toInt) * 1000000000000).toNat; omega)⟩
def o_X11_held : List vg_I := [(0, .aload_n 0, 1, 0, 0, 0, 0), (1, .getfield 30, 3, 1072, 11, 11, 0), (4, .ineg, 1, 0, 0, 0, 0), (5, .aload_n 0, 1, 0, 0, 0, 0), (6, .getfield 30, 3, 1072, 11, 11, 0), (9, .iload_n 1, 1, 0, 0, 0, 0), (10, .invokestatic 113, 3, 0, 1, 2, 1280), (13, .invokestatic 90, 3, 1, 1, 2, 1201), (16, .istore_n 2, 1, 0, 0, 0, 0), (17, .iload_n 2, 1, 0, 0, 0, 0), (18, .iload_n 1, 1, 0, 0, 0, 0), (19, .if_icmp .eq 35, 3, 0, 0, 0, 0), (22, .aload_n 0, 1, 0, 0, 0, 0), (23, .getfield 7, 3, 1061, 11, 0, 0), (26, .iconst 3, 1, 0, 0, 0, 0), (27, .dup2, 1, 0, 0, 0, 0), (28, .laload, 1, 0, 0, 0, 0), (29, .lconst 1, 1, 0, 0, 0, 0), (30, .ladd, 1, 0, 0, 0, 0), (31, .lastore, 1, 0, 0, 0, 0), (32, .aload_n 0, 1, 0, 0, 0, 0), (33, .getfield 7, 3, 1061, 11, 0, 0), (36, .sipush 144, 3, 0, 0, 0, 0), (39, .lconst 1, 1, 0, 0, 0, 0), (40, .lastore, 1, 0, 0, 0, 0), (41, .aload_n 0, 1, 0, 0, 0, 0), (42, .getfield 7, 3, 1061, 11, 0, 0), (45, .iconst 5, 1, 0, 0, 0, 0), (46, .dup2, 1, 0, 0, 0, 0), (47, .laload, 1, 0, 0, 0, 0), (48, .iload_n 1, 1, 0, 0, 0, 0), (49, .iload_n 2, 1, 0, 0, 0, 0), (50, .isub, 1, 0, 0, 0, 0), (51, .i2l, 1, 0, 0, 0, 0), (52, .ladd, 1, 0, 0, 0, 0), (53, .lastore, 1, 0, 0, 0, 0), (54, .iload_n 2, 1, 0, 0, 0, 0), (55, .ireturn, 1, 0, 0, 0, 0)]
set_option maxRecDepth 100000 in
set_option maxHeartbeats 4000000 in
theorem c_X11_held (l : Launch) (G : vg_G) (hp : vg_Hp G) : vg_Ct l G vg_sh r_X11_held := by
  refine vg_meth hp vg_sh_ok r_X11_held k_X11_held rfl (fun h => by cases h) o_X11_held [r_J9_min_7cf53, r_J9_max_7cf53] false (by decide +kernel) (by decide +kernel) ⟨_, _, rfl, rfl⟩ (List.forall_mem_cons.mpr ⟨⟨c_J9_min_7cf53 l G hp, Nat.le_of_ble_eq_true rfl, Nat.le_of_ble_eq_true rfl⟩, List.forall_mem_cons.mpr ⟨⟨c_J9_max_7cf53 l G hp, Nat.le_of_ble_eq_true rfl, Nat.le_of_ble_eq_true rfl⟩, fun _ h => absurd h List.not_mem_nil⟩⟩) (fun h => by cases h) 600 ?_
  intro as s0 hpre
  obtain ⟨r, a1, rfl, hr, i0⟩ := hpre
  simp only [List.mem_cons, List.not_mem_nil, or_false] at hr
  rcases hr with rfl
  ·
    have z3 : (Int32.ofInt 3).toInt = 3 := by decide
    have z5 : (Int32.ofInt 5).toInt = 5 := by decide
    have z144 : (Int32.ofInt 144).toInt = 144 := by decide
    refine ⟨Nat.le_of_ble_eq_true rfl, [], ?_, fun _ h => absurd h List.not_mem_nil⟩
    ·
      intro v1 e2
      have g3 : s0.1 55 11 = v1 := by rw [e2]
      have b4 : v1.toInt = (s0.1 55 11).toInt := congrArg Int32.toInt e2
      have b5 : (1 : Int) ≤ v1.toInt ∧ v1.toInt ≤ 60000 := by rw [e2]; exact Iv_55_11 i0
      have yl := e2
      intro v6 e7
      have y0 := e7
      intro v8 e9
      have w10 : v1 = v8 := by rw [e9, g3]
      subst w10
      refine And.intro (Nat.le_of_ble_eq_true rfl) (And.intro ⟨v1, a1, rfl, trivial⟩ ?_)
      intro v11 s13 h12
      have h12 : s13 = s0 ∧ (v11.toInt ≤ v1.toInt ∧ v11.toInt ≤ a1.toInt ∧ (v11.toInt = v1.toInt ∨ v11.toInt = a1.toInt)) := h12
      have q16 := h12.1.symm
      subst q16
      have q17 := h12.2
      have y1 := q17
      refine And.intro (Nat.le_of_ble_eq_true rfl) (And.intro ⟨v6, v11, rfl, trivial⟩ ?_)
      intro v18 s20 h19
      have h19 : s20 = s0 ∧ (v6.toInt ≤ v18.toInt ∧ v11.toInt ≤ v18.toInt ∧ (v18.toInt = v6.toInt ∨ v18.toInt = v11.toInt)) := h19
      have q23 := h19.1.symm
      subst q23
      have q24 := h19.2
      have y2 : v18 = q_held (s0.1 55 11) a1 := by rw [← yl]; exact q_held_mm (by omega) y0 y1 q24
      refine And.intro (fun c25 => ?_) (fun c25 => ?_)
      · have c25 : v18.toInt = a1.toInt := c25
        show Iv s0 ∧ Kp s0 s0 ∧ (v18 = q_held (s0.1 55 11) a1 ∧ qh s0 s0 ∧ s0.2 56 144 = cond (q_ht a1 v18) (Int64.ofNat 1) (s0.2 56 144))
        exact ⟨i0, Kx.rf, (by first | exact ⟨y2, (q_hdA ).1, by rw [q_ht1 (by omega)]; exact (q_hdA ).2⟩ | exact ⟨y2, qh_rf, by rw [q_ht0 (by omega)]; rfl⟩)⟩
      · have c25 : ¬ (v18.toInt = a1.toInt) := c25
        refine And.intro ⟨by omega, by omega⟩ ?_
        intro v26 e27
        intro v28 e29
        refine And.intro ⟨by omega, by omega⟩ ?_
        intro s30 e31
        have i32 : Iv s30 := Iv.u2 i0 e31
        have k33 : Kp s0 s30 := Kx.u2 Kx.rf e31 (vg_kq_pos rfl (by omega)).1
        refine And.intro ⟨by omega, by omega⟩ ?_
        intro s34 e35
        have i36 : Iv s34 := Iv.u2 i32 e35
        have k37 : Kp s0 s34 := Kx.u2 k33 e35 (vg_kq_pos rfl (by omega)).1
        refine And.intro ⟨by omega, by omega⟩ ?_
        intro v38 e39
        intro v40 e41
        intro v42 e43
        intro v44 e45
        refine And.intro ⟨by omega, by omega⟩ ?_
        intro s46 e47
        have i48 : Iv s46 := Iv.u2 i36 e47
        have k49 : Kp s0 s46 := Kx.u2 k37 e47 (vg_kq_pos rfl (by omega)).1
        show Iv s46 ∧ Kp s0 s46 ∧ (v18 = q_held (s0.1 55 11) a1 ∧ qh s0 s46 ∧ s46.2 56 144 = cond (q_ht a1 v18) (Int64.ofNat 1) (s0.2 56 144))
        exact ⟨i48, k49, (by first | exact ⟨y2, (q_hdA e31 e35 e47).1, by rw [q_ht1 (by omega)]; exact (q_hdA e31 e35 e47).2⟩ | exact ⟨y2, qh_rf, by rw [q_ht0 (by omega)]; rfl⟩)⟩
def o_X11_drawn : List vg_I := [(0, .aload_n 0, 1, 0, 0, 0, 0), (1, .getfield 131, 3, 1073, 11, 12, 0), (4, .ifCond .ne 5, 3, 0, 0, 0, 0), (7, .iconst 0, 1, 0, 0, 0, 0), (8, .ireturn, 1, 0, 0, 0, 0), (9, .aload_n 0, 1, 0, 0, 0, 0), (10, .getfield 7, 3, 1061, 11, 0, 0), (13, .iconst 1, 1, 0, 0, 0, 0), (14, .aload_n 0, 1, 0, 0, 0, 0), (15, .getfield 7, 3, 1061, 11, 0, 0), (18, .iconst 1, 1, 0, 0, 0, 0), (19, .laload, 1, 0, 0, 0, 0), (20, .ldc2_w 134, 3, 1289, 0, 0, 1103515245), (23, .lmul, 1, 0, 0, 0, 0), (24, .ldc2_w 136, 3, 1290, 0, 0, 12345), (27, .ladd, 1, 0, 0, 0, 0), (28, .ldc2_w 138, 3, 1291, 0, 0, 2147483648), (31, .lrem, 1, 0, 0, 0, 0), (32, .lastore, 1, 0, 0, 0, 0), (33, .aload_n 0, 1, 0, 0, 0, 0), (34, .getfield 7, 3, 1061, 11, 0, 0), (37, .iconst 1, 1, 0, 0, 0, 0), (38, .laload, 1, 0, 0, 0, 0), (39, .ldc2_w 140, 3, 1292, 0, 0, 65536), (42, .ldiv, 1, 0, 0, 0, 0), (43, .iconst 2, 1, 0, 0, 0, 0), (44, .aload_n 0, 1, 0, 0, 0, 0), (45, .getfield 131, 3, 1073, 11, 12, 0), (48, .imul, 1, 0, 0, 0, 0), (49, .iconst 1, 1, 0, 0, 0, 0), (50, .iadd, 1, 0, 0, 0, 0), (51, .i2l, 1, 0, 0, 0, 0), (52, .lrem, 1, 0, 0, 0, 0), (53, .l2i, 1, 0, 0, 0, 0), (54, .aload_n 0, 1, 0, 0, 0, 0), (55, .getfield 131, 3, 1073, 11, 12, 0), (58, .isub, 1, 0, 0, 0, 0), (59, .ireturn, 1, 0, 0, 0, 0)]
set_option maxRecDepth 100000 in
set_option maxHeartbeats 4000000 in
theorem c_X11_drawn (l : Launch) (G : vg_G) (hp : vg_Hp G) : vg_Ct l G vg_sh r_X11_drawn := by
  refine vg_meth hp vg_sh_ok r_X11_drawn k_X11_drawn rfl (fun h => by cases h) o_X11_drawn [] false (by decide +kernel) (by decide +kernel) ⟨_, _, rfl, rfl⟩ (fun _ h => absurd h List.not_mem_nil) (fun h => by cases h) 600 ?_
  intro as s0 hpre
  obtain ⟨r, rfl, hr, i0⟩ := hpre
  simp only [List.mem_cons, List.not_mem_nil, or_false] at hr
  rcases hr with rfl
  ·
    have z0 : (Int32.ofInt 0).toInt = 0 := by decide
    have z1 : (Int32.ofInt 1).toInt = 1 := by decide
    have z2 : (Int32.ofInt 2).toInt = 2 := by decide
    refine ⟨Nat.le_of_ble_eq_true rfl, [], ?_, fun _ h => absurd h List.not_mem_nil⟩
    ·
      intro v1 e2
      have g3 : s0.1 55 12 = v1 := by rw [e2]
      have b4 : (0 : Int) ≤ v1.toInt ∧ v1.toInt ≤ 5000 := by rw [e2]; exact Iv_55_12 i0
      refine And.intro (fun c5 => ?_) (fun c5 => ?_)
      · have c5 : ¬ v1.toInt = 0 := c5
        refine And.intro ⟨by omega, by omega⟩ ?_
        intro v6 e7
        intro v8 e9
        intro v10 e11
        refine And.intro (by decide) ?_
        intro v12 e13
        refine And.intro ⟨by omega, by omega⟩ ?_
        intro s14 e15
        have i16 : Iv s14 := Iv.u2 i0 e15
        have k17 : Kp s0 s14 := Kx.u2 Kx.rf e15 (vg_kq_pos rfl (by omega)).1
        refine And.intro ⟨by omega, by omega⟩ ?_
        intro v18 e19
        refine And.intro (by decide) ?_
        intro v20 e21
        intro v22 e23
        have w24 : v1 = v22 := by rw [e23, e15, vg_u2_1, g3]
        subst w24
        intro v25 e26
        have b27 : v25.toInt = (2) * v1.toInt := vg_mulL e26 (by omega) (by omega) (by omega)
        intro v28 e29
        have b30 := vg_add e29 (by omega) (by omega)
        intro v31 e32
        have b33 := vg_i2l e32
        refine And.intro (by omega) ?_
        intro v34 e35
        intro v36 e37
        intro v38 e39
        have w40 : v1 = v38 := by rw [e39, e15, vg_u2_1, g3]
        subst w40
        intro v41 e42
        show Iv s14 ∧ Kp s0 s14 ∧ (True)
        exact ⟨i16, k17, (trivial)⟩
      · have c5 : ¬ (¬ v1.toInt = 0) := c5
        show Iv s0 ∧ Kp s0 s0 ∧ (True)
        exact ⟨i0, Kx.rf, (trivial)⟩
def o_X11_byErrors : List vg_I := [(0, .iload_n 1, 1, 0, 0, 0, 0), (1, .istore_n 3, 1, 0, 0, 0, 0), (2, .iconst 1, 1, 0, 0, 0, 0), (3, .istore 4, 2, 0, 0, 0, 0), (5, .iconst 1, 1, 0, 0, 0, 0), (6, .istore 5, 2, 0, 0, 0, 0), (8, .iload 5, 2, 0, 0, 0, 0), (10, .aload_n 0, 1, 0, 0, 0, 0), (11, .getfield 20, 3, 1069, 11, 8, 0), (14, .if_icmp .gt 69, 3, 0, 0, 0, 0), (17, .iload 4, 2, 0, 0, 0, 0), (19, .aload_n 0, 1, 0, 0, 0, 0), (20, .getfield 20, 3, 1069, 11, 8, 0), (23, .iconst 1, 1, 0, 0, 0, 0), (24, .iadd, 1, 0, 0, 0, 0), (25, .iload 5, 2, 0, 0, 0, 0), (27, .isub, 1, 0, 0, 0, 0), (28, .imul, 1, 0, 0, 0, 0), (29, .iload 5, 2, 0, 0, 0, 0), (31, .idiv, 1, 0, 0, 0, 0), (32, .istore 4, 2, 0, 0, 0, 0), (34, .iload_n 3, 1, 0, 0, 0, 0), (35, .iload 5, 2, 0, 0, 0, 0), (37, .iconst 2, 1, 0, 0, 0, 0), (38, .irem, 1, 0, 0, 0, 0), (39, .iconst 1, 1, 0, 0, 0, 0), (40, .if_icmp .ne 20, 3, 0, 0, 0, 0), (43, .iload 4, 2, 0, 0, 0, 0), (45, .aload_n 0, 1, 0, 0, 0, 0), (46, .bipush 23, 2, 0, 0, 0, 0), (48, .iload 5, 2, 0, 0, 0, 0), (50, .iadd, 1, 0, 0, 0, 0), (51, .iconst 1, 1, 0, 0, 0, 0), (52, .isub, 1, 0, 0, 0, 0), (53, .invokevirtual 110, 3, 0, 11, 1, 1202), (56, .imul, 1, 0, 0, 0, 0), (57, .goto 18, 3, 0, 0, 0, 0), (60, .iload 4, 2, 0, 0, 0, 0), (62, .ineg, 1, 0, 0, 0, 0), (63, .aload_n 0, 1, 0, 0, 0, 0), (64, .bipush 23, 2, 0, 0, 0, 0), (66, .iload 5, 2, 0, 0, 0, 0), (68, .iadd, 1, 0, 0, 0, 0), (69, .iconst 1, 1, 0, 0, 0, 0), (70, .isub, 1, 0, 0, 0, 0), (71, .invokevirtual 110, 3, 0, 11, 1, 1202), (74, .imul, 1, 0, 0, 0, 0), (75, .iadd, 1, 0, 0, 0, 0), (76, .istore_n 3, 1, 0, 0, 0, 0), (77, .iinc 5 1, 3, 0, 0, 0, 0), (80, .goto (-72), 3, 0, 0, 0, 0), (83, .aload_n 0, 1, 0, 0, 0, 0), (84, .iload_n 3, 1, 0, 0, 0, 0), (85, .iload_n 2, 1, 0, 0, 0, 0), (86, .iadd, 1, 0, 0, 0, 0), (87, .invokevirtual 158, 3, 1, 11, 1, 1301), (90, .istore 5, 2, 0, 0, 0, 0), (92, .aload_n 0, 1, 0, 0, 0, 0), (93, .iload_n 3, 1, 0, 0, 0, 0), (94, .aload_n 0, 1, 0, 0, 0, 0), (95, .iload 5, 2, 0, 0, 0, 0), (97, .invokevirtual 125, 3, 2, 11, 1, 1305), (100, .isub, 1, 0, 0, 0, 0), (101, .invokevirtual 161, 3, 3, 11, 1, 1310), (104, .istore 6, 2, 0, 0, 0, 0), (106, .aload_n 0, 1, 0, 0, 0, 0), (107, .getfield 20, 3, 1069, 11, 8, 0), (110, .iconst 1, 1, 0, 0, 0, 0), (111, .isub, 1, 0, 0, 0, 0), (112, .istore 7, 2, 0, 0, 0, 0), (114, .iload 7, 2, 0, 0, 0, 0), (116, .ifCond .le 31, 3, 0, 0, 0, 0), (119, .aload_n 0, 1, 0, 0, 0, 0), (120, .getfield 7, 3, 1061, 11, 0, 0), (123, .bipush 23, 2, 0, 0, 0, 0), (125, .iload 7, 2, 0, 0, 0, 0), (127, .iadd, 1, 0, 0, 0, 0), (128, .aload_n 0, 1, 0, 0, 0, 0), (129, .getfield 7, 3, 1061, 11, 0, 0), (132, .bipush 23, 2, 0, 0, 0, 0), (134, .iload 7, 2, 0, 0, 0, 0), (136, .iadd, 1, 0, 0, 0, 0), (137, .iconst 1, 1, 0, 0, 0, 0), (138, .isub, 1, 0, 0, 0, 0), (139, .laload, 1, 0, 0, 0, 0), (140, .lastore, 1, 0, 0, 0, 0), (141, .iinc 7 (-1), 3, 0, 0, 0, 0), (144, .goto (-30), 3, 0, 0, 0, 0), (147, .aload_n 0, 1, 0, 0, 0, 0), (148, .getfield 7, 3, 1061, 11, 0, 0), (151, .bipush 23, 2, 0, 0, 0, 0), (153, .iload 6, 2, 0, 0, 0, 0), (155, .i2l, 1, 0, 0, 0, 0), (156, .lastore, 1, 0, 0, 0, 0), (157, .iload 5, 2, 0, 0, 0, 0), (159, .ireturn, 1, 0, 0, 0, 0)]
set_option maxRecDepth 100000 in
set_option maxHeartbeats 4000000 in
theorem c_X11_byErrors (l : Launch) (G : vg_G) (hp : vg_Hp G) : vg_Ct l G vg_sh r_X11_byErrors := by
  refine vg_meth hp vg_sh_ok r_X11_byErrors k_X11_byErrors rfl (fun h => by cases h) o_X11_byErrors [r_X11_get, r_X11_nearest, r_X11_valueOf, r_X11_held] false (by decide +kernel) (by decide +kernel) ⟨_, _, rfl, rfl⟩ (List.forall_mem_cons.mpr ⟨⟨c_X11_get l G hp, Nat.le_of_ble_eq_true rfl, Nat.le_of_ble_eq_true rfl⟩, List.forall_mem_cons.mpr ⟨⟨c_X11_nearest l G hp, Nat.le_of_ble_eq_true rfl, Nat.le_of_ble_eq_true rfl⟩, List.forall_mem_cons.mpr ⟨⟨c_X11_valueOf l G hp, Nat.le_of_ble_eq_true rfl, Nat.le_of_ble_eq_true rfl⟩, List.forall_mem_cons.mpr ⟨⟨c_X11_held l G hp, Nat.le_of_ble_eq_true rfl, Nat.le_of_ble_eq_true rfl⟩, fun _ h => absurd h List.not_mem_nil⟩⟩⟩⟩) (fun h => by cases h) 600 ?_
  intro as s0 hpre
  obtain ⟨r, a1, a2, rfl, hr, i0, p0⟩ := hpre
  simp only [List.mem_cons, List.not_mem_nil, or_false] at hr
  rcases hr with rfl
  ·
    have zm1 : (Int32.ofInt (-1)).toInt = -1 := by decide
    have z1 : (Int32.ofInt 1).toInt = 1 := by decide
    have z2 : (Int32.ofInt 2).toInt = 2 := by decide
    have z23 : (Int32.ofInt 23).toInt = 23 := by decide
    refine ⟨Nat.le_of_ble_eq_true rfl, [(8, [true, false, true, true, true, true, false, false], (fun L t => ∃ (x3 : Int32) (x4 : Int32) (x5 : Int32), L = [some (.ref 55), none, some (.int a2), some (.int x3), some (.int x4), some (.int x5), none, none] ∧ (1 : Int) ≤ x5.toInt ∧ x5.toInt ≤ (5 : Int) ∧ (q_beW s0 t a1 x3 x4 x5) ∧ Iv t ∧ Kp s0 t), (fun L _ => (10000000000000000 + (5 - (vg_li L 5).toInt) * 1000000000000).toNat)), (114, [true, false, false, false, false, true, true, true], (fun L t => ∃ (x5 : Int32) (x6 : Int32) (x7 : Int32), L = [some (.ref 55), none, none, none, none, some (.int x5), some (.int x6), some (.int x7)] ∧ (0 : Int) ≤ x7.toInt ∧ x7.toInt ≤ (3 : Int) ∧ (q_beI s0 t a1 a2 x5 x6 x7) ∧ Iv t ∧ Kp s0 t), (fun L _ => (0 + ((vg_li L 7).toInt - (0)) * 1000000000000).toNat))], ?_, List.forall_mem_cons.mpr ⟨?_, List.forall_mem_cons.mpr ⟨?_, fun _ h => absurd h List.not_mem_nil⟩⟩⟩
    ·
      exact ⟨rfl, ⟨a1, (Int32.ofInt 1), (Int32.ofInt 1), rfl, (by omega), (by omega), (by first | exact q_bw0 (show 1 ≤ (s0.1 55 8).toInt by have h9 := Iv_55_8 i0; omega) rfl (by omega) | exact q_bw1 None (by omega) yn (by omega) ya1 ya2 ya3 ya4 ya5 (Or.inl ⟨propext ⟨fun _ => rfl, fun _ => by omega⟩, rfl⟩) yg (by omega) yt yw (by omega) | exact q_bw1 None (by omega) yn (by omega) ya1 ya2 ya3 ya4 ya5 (Or.inr ⟨propext ⟨fun h => absurd h (by omega), fun h => Bool.noConfusion h⟩, yc⟩) yg (by omega) yt yw (by omega)), i0, Kx.rf⟩, trivial⟩
    ·
      intro L s7 hL
      obtain ⟨w1, w2, w3, rfl, b4, b5, x6, i8, k9⟩ := hL
      intro v10 e11
      have g12 : s7.1 55 8 = v10 := by rw [e11]
      have b13 : v10.toInt = (s7.1 55 8).toInt := congrArg Int32.toInt e11
      have b14 : (1 : Int) ≤ v10.toInt ∧ v10.toInt ≤ 4 := by rw [e11]; exact Iv_55_8 i8
      have yn := e11
      have yk : (s7.1 55 8).toInt = (s0.1 55 8).toInt := by rw [x6.1]
      refine And.intro (fun c15 => ?_) (fun c15 => ?_)
      · have c15 : v10.toInt < w3.toInt := c15
        have yz := q_bw2 x6 (show 1 ≤ (s0.1 55 8).toInt ∧ (s0.1 55 8).toInt ≤ 4 by have h9 := Iv_55_8 i0; omega) (show (s0.1 55 8).toInt < _ by omega)
        intro v16 e17
        have y2 := e17
        refine And.intro (Nat.le_of_ble_eq_true rfl) (And.intro ⟨55, v16, rfl, by decide, i8⟩ ?_)
        intro v18 s20 h19
        have h19 : s20 = s7 ∧ (v18 = q_near (s7.1 55 9) (s7.1 55 10) v16) := h19
        have q23 := h19.1.symm
        subst q23
        have q24 := h19.2
        have y3 := q24
        refine And.intro (Nat.le_of_ble_eq_true rfl) (And.intro ⟨55, v18, rfl, by decide, i8⟩ ?_)
        intro v25 s27 h26
        have h26 : s27 = s7 ∧ (v25 = q_val (s7.1 55 9) (s7.1 55 10) v18) := h26
        have q30 := h26.1.symm
        subst q30
        have q31 := h26.2
        have y4 := q31
        intro v32 e33
        have y5 := e33
        refine And.intro (Nat.le_of_ble_eq_true rfl) (And.intro ⟨55, v32, rfl, by decide, i8⟩ ?_)
        intro v34 s36 h35
        have h35 : Iv s36 ∧ Kp s7 s36 ∧ (v34 = q_held (s7.1 55 11) v32 ∧ qh s7 s36 ∧ s36.2 56 144 = cond (q_ht v32 v34) (Int64.ofNat 1) (s7.2 56 144)) := h35
        have i37 := h35.1
        have k38 : Kp s0 s36 := Kx.tr k9 (h35.2.1)
        have q39 := h35.2.2
        have y6 := q39
        intro v40 e41
        have g42 : s36.1 55 8 = v40 := by rw [e41]
        have b43 : v40.toInt = (s36.1 55 8).toInt := congrArg Int32.toInt e41
        have b44 : (1 : Int) ≤ v40.toInt ∧ v40.toInt ≤ 4 := by rw [e41]; exact Iv_55_8 i37
        have y7 := e41
        intro v45 e46
        have b47 := vg_sub e46 (by omega) (by omega)
        exact ⟨rfl, ⟨v18, v34, v45, rfl, (by omega), (by omega), (by first | exact q_be0s yz.1 p0 yz.2 y2 y3 y4 y5 y6.1 y6.2.1 y6.2.2 y7 (by omega) | exact q_be1 x6 None rfl (by omega) (by omega) (by omega) (by omega) (by omega)), i37, k38⟩, (by show (0 + (v45.toInt - (0)) * 1000000000000).toNat < (10000000000000000 + (5 - w3.toInt) * 1000000000000).toNat; omega)⟩
      · have c15 : ¬ (v10.toInt < w3.toInt) := c15
        intro v48 e49
        have w50 : v10 = v48 := by rw [e49, g12]
        subst w50
        intro v51 e52
        have b53 := vg_add e52 (by omega) (by omega)
        have ya1 := e52
        intro v54 e55
        have b56 := vg_sub e55 (by omega) (by omega)
        have ya2 := e55
        intro v57 e58
        have ya3 := e58
        refine And.intro (by omega) ?_
        intro v59 e60
        have ya4 := e60
        refine And.intro (by omega) ?_
        intro v61 e62
        have b63 := (vg_rem e62 (by omega) (by omega)).2
        have ya5 := e62
        refine And.intro (fun c64 => ?_) (fun c64 => ?_)
        · have c64 : ¬ v61.toInt = (Int32.ofInt 1).toInt := c64
          intro v65 e66
          have yc := e66
          intro v67 e68
          have b69 := vg_add e68 (by omega) (by omega)
          intro v70 e71
          have b72 := vg_sub e71 (by omega) (by omega)
          refine And.intro (Nat.le_of_ble_eq_true rfl) (And.intro ⟨55, v70, rfl, by decide, i8, by omega⟩ ?_)
          intro v73 s75 h74
          have h74 : s75 = s7 ∧ (v73 = (s7.2 56 v70.toNatClampNeg).toInt32) := h74
          have q78 := h74.1.symm
          subst q78
          have q79 := h74.2
          have yg := q79
          intro v80 e81
          have yt := e81
          intro v82 e83
          have yw := e83
          intro v84 e85
          have b86 := vg_add e85 (by omega) (by omega)
          exact ⟨rfl, ⟨v82, v59, v84, rfl, (by omega), (by omega), (by first | exact q_bw0 (show 1 ≤ (s0.1 55 8).toInt by have h9 := Iv_55_8 i0; omega) rfl (by omega) | exact q_bw1 x6 (by omega) yn (by omega) ya1 ya2 ya3 ya4 ya5 (Or.inl ⟨propext ⟨fun _ => rfl, fun _ => by omega⟩, rfl⟩) yg (by omega) yt yw (by omega) | exact q_bw1 x6 (by omega) yn (by omega) ya1 ya2 ya3 ya4 ya5 (Or.inr ⟨propext ⟨fun h => absurd h (by omega), fun h => Bool.noConfusion h⟩, yc⟩) yg (by omega) yt yw (by omega)), i8, k9⟩, (by show (10000000000000000 + (5 - v84.toInt) * 1000000000000).toNat < (10000000000000000 + (5 - w3.toInt) * 1000000000000).toNat; omega)⟩
        · have c64 : ¬ (¬ v61.toInt = (Int32.ofInt 1).toInt) := c64
          intro v87 e88
          have b89 := vg_add e88 (by omega) (by omega)
          intro v90 e91
          have b92 := vg_sub e91 (by omega) (by omega)
          refine And.intro (Nat.le_of_ble_eq_true rfl) (And.intro ⟨55, v90, rfl, by decide, i8, by omega⟩ ?_)
          intro v93 s95 h94
          have h94 : s95 = s7 ∧ (v93 = (s7.2 56 v90.toNatClampNeg).toInt32) := h94
          have q98 := h94.1.symm
          subst q98
          have q99 := h94.2
          have yg := q99
          intro v100 e101
          have yt := e101
          intro v102 e103
          have yw := e103
          intro v104 e105
          have b106 := vg_add e105 (by omega) (by omega)
          exact ⟨rfl, ⟨v102, v59, v104, rfl, (by omega), (by omega), (by first | exact q_bw0 (show 1 ≤ (s0.1 55 8).toInt by have h9 := Iv_55_8 i0; omega) rfl (by omega) | exact q_bw1 x6 (by omega) yn (by omega) ya1 ya2 ya3 ya4 ya5 (Or.inl ⟨propext ⟨fun _ => rfl, fun _ => by omega⟩, rfl⟩) yg (by omega) yt yw (by omega) | exact q_bw1 x6 (by omega) yn (by omega) ya1 ya2 ya3 ya4 ya5 (Or.inr ⟨propext ⟨fun h => absurd h (by omega), fun h => Bool.noConfusion h⟩, yc⟩) yg (by omega) yt yw (by omega)), i8, k9⟩, (by show (10000000000000000 + (5 - v104.toInt) * 1000000000000).toNat < (10000000000000000 + (5 - w3.toInt) * 1000000000000).toNat; omega)⟩
    ·
      intro L s113 hL
      obtain ⟨w107, w108, w109, rfl, b110, b111, x112, i114, k115⟩ := hL
      refine And.intro (fun c116 => ?_) (fun c116 => ?_)
      · have c116 : w109.toInt ≤ 0 := c116
        intro v117 e118
        refine And.intro ⟨by omega, by omega⟩ ?_
        intro s119 e120
        have i121 : Iv s119 := Iv.u2 i114 e120
        have k122 : Kp s0 s119 := Kx.u2 k115 e120 (vg_kq_pos rfl (by omega)).1
        show Iv s119 ∧ Kp s0 s119 ∧ (q_ry s0 s119 w107 (q_yE (q_plR s0) a1 a2 (qE s0) (qP s0)))
        exact ⟨i121, k122, (q_be2 x112 e118 e120 (by omega) (show (s0.1 55 8).toInt ≤ 4 by have h9 := Iv_55_8 i0; omega))⟩
      · have c116 : ¬ (w109.toInt ≤ 0) := c116
        intro v123 e124
        have b125 := vg_add e124 (by omega) (by omega)
        intro v126 e127
        have b128 := vg_add e127 (by omega) (by omega)
        intro v129 e130
        have b131 := vg_sub e130 (by omega) (by omega)
        refine And.intro ⟨by omega, by omega⟩ ?_
        intro v132 e133
        refine And.intro ⟨by omega, by omega⟩ ?_
        intro s134 e135
        have i136 : Iv s134 := Iv.u2 i114 e135
        have k137 : Kp s0 s134 := Kx.u2 k115 e135 (vg_kq_pos rfl (by omega)).1
        intro v138 e139
        have b140 := vg_add e139 (by omega) (by omega)
        exact ⟨rfl, ⟨w107, w108, v138, rfl, (by omega), (by omega), (by first | exact q_be0s yz.1 p0 yz.2 y2 y3 y4 y5 y6.1 y6.2.1 y6.2.2 y7 (by omega) | exact q_be1 x112 e133 e135 (by omega) (by omega) (by omega) (by omega) (by omega)), i136, k137⟩, (by show (0 + (v138.toInt - (0)) * 1000000000000).toNat < (0 + (w109.toInt - (0)) * 1000000000000).toNat; omega)⟩
def o_X11_bySums : List vg_I := [(0, .iload_n 1, 1, 0, 0, 0, 0), (1, .istore_n 3, 1, 0, 0, 0, 0), (2, .iconst 0, 1, 0, 0, 0, 0), (3, .istore 4, 2, 0, 0, 0, 0), (5, .iload 4, 2, 0, 0, 0, 0), (7, .aload_n 0, 1, 0, 0, 0, 0), (8, .getfield 20, 3, 1069, 11, 8, 0), (11, .if_icmp .ge 51, 3, 0, 0, 0, 0), (14, .aload_n 0, 1, 0, 0, 0, 0), (15, .getfield 7, 3, 1061, 11, 0, 0), (18, .bipush 23, 2, 0, 0, 0, 0), (20, .iload 4, 2, 0, 0, 0, 0), (22, .iadd, 1, 0, 0, 0, 0), (23, .aload_n 0, 1, 0, 0, 0, 0), (24, .aload_n 0, 1, 0, 0, 0, 0), (25, .bipush 23, 2, 0, 0, 0, 0), (27, .iload 4, 2, 0, 0, 0, 0), (29, .iadd, 1, 0, 0, 0, 0), (30, .invokevirtual 110, 3, 0, 11, 1, 1202), (33, .iload_n 3, 1, 0, 0, 0, 0), (34, .iadd, 1, 0, 0, 0, 0), (35, .aload_n 0, 1, 0, 0, 0, 0), (36, .iconst 2, 1, 0, 0, 0, 0), (37, .invokevirtual 110, 3, 0, 11, 1, 1202), (40, .isub, 1, 0, 0, 0, 0), (41, .invokevirtual 161, 3, 1, 11, 1, 1310), (44, .i2l, 1, 0, 0, 0, 0), (45, .lastore, 1, 0, 0, 0, 0), (46, .aload_n 0, 1, 0, 0, 0, 0), (47, .bipush 23, 2, 0, 0, 0, 0), (49, .iload 4, 2, 0, 0, 0, 0), (51, .iadd, 1, 0, 0, 0, 0), (52, .invokevirtual 110, 3, 0, 11, 1, 1202), (55, .istore_n 3, 1, 0, 0, 0, 0), (56, .iinc 4 1, 3, 0, 0, 0, 0), (59, .goto (-54), 3, 0, 0, 0, 0), (62, .aload_n 0, 1, 0, 0, 0, 0), (63, .iload_n 3, 1, 0, 0, 0, 0), (64, .iload_n 2, 1, 0, 0, 0, 0), (65, .iadd, 1, 0, 0, 0, 0), (66, .invokevirtual 158, 3, 2, 11, 1, 1301), (69, .ireturn, 1, 0, 0, 0, 0)]
set_option maxRecDepth 100000 in
set_option maxHeartbeats 4000000 in
theorem c_X11_bySums (l : Launch) (G : vg_G) (hp : vg_Hp G) : vg_Ct l G vg_sh r_X11_bySums := by
  refine vg_meth hp vg_sh_ok r_X11_bySums k_X11_bySums rfl (fun h => by cases h) o_X11_bySums [r_X11_get, r_X11_held, r_X11_nearest] false (by decide +kernel) (by decide +kernel) ⟨_, _, rfl, rfl⟩ (List.forall_mem_cons.mpr ⟨⟨c_X11_get l G hp, Nat.le_of_ble_eq_true rfl, Nat.le_of_ble_eq_true rfl⟩, List.forall_mem_cons.mpr ⟨⟨c_X11_held l G hp, Nat.le_of_ble_eq_true rfl, Nat.le_of_ble_eq_true rfl⟩, List.forall_mem_cons.mpr ⟨⟨c_X11_nearest l G hp, Nat.le_of_ble_eq_true rfl, Nat.le_of_ble_eq_true rfl⟩, fun _ h => absurd h List.not_mem_nil⟩⟩⟩) (fun h => by cases h) 600 ?_
  intro as s0 hpre
  obtain ⟨r, a1, a2, rfl, hr, i0⟩ := hpre
  simp only [List.mem_cons, List.not_mem_nil, or_false] at hr
  rcases hr with rfl
  ·
    have z0 : (Int32.ofInt 0).toInt = 0 := by decide
    have z1 : (Int32.ofInt 1).toInt = 1 := by decide
    have z2 : (Int32.ofInt 2).toInt = 2 := by decide
    have z23 : (Int32.ofInt 23).toInt = 23 := by decide
    refine ⟨Nat.le_of_ble_eq_true rfl, [(5, [true, false, true, true, true], (fun L t => ∃ (x3 : Int32) (x4 : Int32), L = [some (.ref 55), none, some (.int a2), some (.int x3), some (.int x4)] ∧ (0 : Int) ≤ x4.toInt ∧ x4.toInt ≤ (4 : Int) ∧ (q_bsI s0 t a1 x3 x4) ∧ Iv t ∧ Kp s0 t), (fun L _ => (0 + (4 - (vg_li L 4).toInt) * 1000000000000).toNat))], ?_, List.forall_mem_cons.mpr ⟨?_, fun _ h => absurd h List.not_mem_nil⟩⟩
    ·
      exact ⟨rfl, ⟨a1, (Int32.ofInt 0), rfl, (by omega), (by omega), (by first | exact q_bs0 (show 1 ≤ (s0.1 55 8).toInt by have h9 := Iv_55_8 i0; omega) | exact q_bs1 None y1 y2 y3 y4 y5.1 y5.2.1 y5.2.2 y6 y7 y8 (by omega) (by omega) (by omega) (by omega) (by omega) (show _ < (s0.1 55 8).toInt by omega) (by omega)), i0, Kx.rf⟩, trivial⟩
    ·
      intro L s6 hL
      obtain ⟨w1, w2, rfl, b3, b4, x5, i7, k8⟩ := hL
      intro v9 e10
      have g11 : s6.1 55 8 = v9 := by rw [e10]
      have b12 : v9.toInt = (s6.1 55 8).toInt := congrArg Int32.toInt e10
      have b13 : (1 : Int) ≤ v9.toInt ∧ v9.toInt ≤ 4 := by rw [e10]; exact Iv_55_8 i7
      have yk : (s6.1 55 8).toInt = (s0.1 55 8).toInt := by rw [x5.2.2.2.1]
      refine And.intro (fun c14 => ?_) (fun c14 => ?_)
      · have c14 : v9.toInt ≤ w2.toInt := c14
        intro v15 e16
        have y9 := e16
        refine And.intro (Nat.le_of_ble_eq_true rfl) (And.intro ⟨55, v15, rfl, by decide, i7⟩ ?_)
        intro v17 s19 h18
        have h18 : s19 = s6 ∧ (v17 = q_near (s6.1 55 9) (s6.1 55 10) v15) := h18
        have q22 := h18.1.symm
        subst q22
        have q23 := h18.2
        show Iv s6 ∧ Kp s0 s6 ∧ (q_ry s0 s6 v17 (q_yS (q_plR s0) a1 a2 (qE s0) (qP s0) (qV s0)))
        exact ⟨i7, k8, (q_bs2 x5 y9 q23 (show (s0.1 55 8).toInt ≤ _ by omega))⟩
      · have c14 : ¬ (v9.toInt ≤ w2.toInt) := c14
        intro v24 e25
        have b26 := vg_add e25 (by omega) (by omega)
        intro v27 e28
        have b29 := vg_add e28 (by omega) (by omega)
        refine And.intro (Nat.le_of_ble_eq_true rfl) (And.intro ⟨55, v27, rfl, by decide, i7, by omega⟩ ?_)
        intro v30 s32 h31
        have h31 : s32 = s6 ∧ (v30 = (s6.2 56 v27.toNatClampNeg).toInt32) := h31
        have q35 := h31.1.symm
        subst q35
        have q36 := h31.2
        have y1 := q36
        intro v37 e38
        have y2 := e38
        refine And.intro (Nat.le_of_ble_eq_true rfl) (And.intro ⟨55, (Int32.ofInt 2), rfl, by decide, i7, by omega⟩ ?_)
        intro v39 s41 h40
        have h40 : s41 = s6 ∧ (v39 = (s6.2 56 (Int32.ofInt 2).toNatClampNeg).toInt32) := h40
        have q44 := h40.1.symm
        subst q44
        have q45 := h40.2
        have y3 := q45
        intro v46 e47
        have y4 := e47
        refine And.intro (Nat.le_of_ble_eq_true rfl) (And.intro ⟨55, v46, rfl, by decide, i7⟩ ?_)
        intro v48 s50 h49
        have h49 : Iv s50 ∧ Kp s6 s50 ∧ (v48 = q_held (s6.1 55 11) v46 ∧ qh s6 s50 ∧ s50.2 56 144 = cond (q_ht v46 v48) (Int64.ofNat 1) (s6.2 56 144)) := h49
        have i51 := h49.1
        have k52 : Kp s0 s50 := Kx.tr k8 (h49.2.1)
        have q53 := h49.2.2
        have y5 := q53
        intro v54 e55
        have y6 := e55
        refine And.intro ⟨by omega, by omega⟩ ?_
        intro s56 e57
        have i58 : Iv s56 := Iv.u2 i51 e57
        have k59 : Kp s0 s56 := Kx.u2 k52 e57 (vg_kq_pos rfl (by omega)).1
        have y7 := e57
        intro v60 e61
        have b62 := vg_add e61 (by omega) (by omega)
        refine And.intro (Nat.le_of_ble_eq_true rfl) (And.intro ⟨55, v60, rfl, by decide, i58, by omega⟩ ?_)
        intro v63 s65 h64
        have h64 : s65 = s56 ∧ (v63 = (s56.2 56 v60.toNatClampNeg).toInt32) := h64
        have q68 := h64.1.symm
        subst q68
        have q69 := h64.2
        have y8 := q69
        intro v70 e71
        have b72 := vg_add e71 (by omega) (by omega)
        exact ⟨rfl, ⟨v63, v70, rfl, (by omega), (by omega), (by first | exact q_bs0 (show 1 ≤ (s0.1 55 8).toInt by have h9 := Iv_55_8 i0; omega) | exact q_bs1 x5 y1 y2 y3 y4 y5.1 y5.2.1 y5.2.2 y6 y7 y8 (by omega) (by omega) (by omega) (by omega) (by omega) (show _ < (s0.1 55 8).toInt by omega) (by omega)), i58, k59⟩, (by show (0 + (4 - v70.toInt) * 1000000000000).toNat < (0 + (4 - w2.toInt) * 1000000000000).toNat; omega)⟩
def o_X11_byCascade : List vg_I := [(0, .iload_n 1, 1, 0, 0, 0, 0), (1, .istore_n 3, 1, 0, 0, 0, 0), (2, .aload_n 0, 1, 0, 0, 0, 0), (3, .invokevirtual 151, 3, 0, 11, 0, 1322), (6, .istore 4, 2, 0, 0, 0, 0), (8, .iconst 0, 1, 0, 0, 0, 0), (9, .istore 5, 2, 0, 0, 0, 0), (11, .iload 5, 2, 0, 0, 0, 0), (13, .aload_n 0, 1, 0, 0, 0, 0), (14, .getfield 20, 3, 1069, 11, 8, 0), (17, .if_icmp .ge 241, 3, 0, 0, 0, 0), (20, .iload_n 3, 1, 0, 0, 0, 0), (21, .aload_n 0, 1, 0, 0, 0, 0), (22, .bipush 23, 2, 0, 0, 0, 0), (24, .iload 5, 2, 0, 0, 0, 0), (26, .iadd, 1, 0, 0, 0, 0), (27, .invokevirtual 110, 3, 1, 11, 1, 1202), (30, .iadd, 1, 0, 0, 0, 0), (31, .istore 6, 2, 0, 0, 0, 0), (33, .aload_n 0, 1, 0, 0, 0, 0), (34, .iload 5, 2, 0, 0, 0, 0), (36, .ifCond .ne 10, 3, 0, 0, 0, 0), (39, .iload 6, 2, 0, 0, 0, 0), (41, .iload_n 2, 1, 0, 0, 0, 0), (42, .iadd, 1, 0, 0, 0, 0), (43, .goto 5, 3, 0, 0, 0, 0), (46, .iload 6, 2, 0, 0, 0, 0), (48, .invokevirtual 158, 3, 2, 11, 1, 1301), (51, .istore 7, 2, 0, 0, 0, 0), (53, .aload_n 0, 1, 0, 0, 0, 0), (54, .getfield 7, 3, 1061, 11, 0, 0), (57, .bipush 23, 2, 0, 0, 0, 0), (59, .iload 5, 2, 0, 0, 0, 0), (61, .iadd, 1, 0, 0, 0, 0), (62, .aload_n 0, 1, 0, 0, 0, 0), (63, .iload 6, 2, 0, 0, 0, 0), (65, .aload_n 0, 1, 0, 0, 0, 0), (66, .iload 7, 2, 0, 0, 0, 0), (68, .invokevirtual 125, 3, 3, 11, 1, 1305), (71, .isub, 1, 0, 0, 0, 0), (72, .invokevirtual 161, 3, 4, 11, 1, 1310), (75, .i2l, 1, 0, 0, 0, 0), (76, .lastore, 1, 0, 0, 0, 0), (77, .aload_n 0, 1, 0, 0, 0, 0), (78, .bipush 23, 2, 0, 0, 0, 0), (80, .iload 5, 2, 0, 0, 0, 0), (82, .iadd, 1, 0, 0, 0, 0), (83, .invokevirtual 110, 3, 1, 11, 1, 1202), (86, .istore_n 3, 1, 0, 0, 0, 0), (87, .iload 4, 2, 0, 0, 0, 0), (89, .iload 7, 2, 0, 0, 0, 0), (91, .iadd, 1, 0, 0, 0, 0), (92, .istore 4, 2, 0, 0, 0, 0), (94, .iconst 1, 1, 0, 0, 0, 0), (95, .istore 8, 2, 0, 0, 0, 0), (97, .iconst 1, 1, 0, 0, 0, 0), (98, .istore 9, 2, 0, 0, 0, 0), (100, .iload 9, 2, 0, 0, 0, 0), (102, .iload 5, 2, 0, 0, 0, 0), (104, .if_icmp .gt 79, 3, 0, 0, 0, 0), (107, .iload 8, 2, 0, 0, 0, 0), (109, .iload 5, 2, 0, 0, 0, 0), (111, .iconst 1, 1, 0, 0, 0, 0), (112, .iadd, 1, 0, 0, 0, 0), (113, .iload 9, 2, 0, 0, 0, 0), (115, .isub, 1, 0, 0, 0, 0), (116, .imul, 1, 0, 0, 0, 0), (117, .iload 9, 2, 0, 0, 0, 0), (119, .idiv, 1, 0, 0, 0, 0), (120, .istore 8, 2, 0, 0, 0, 0), (122, .iload 4, 2, 0, 0, 0, 0), (124, .iload 9, 2, 0, 0, 0, 0), (126, .iconst 2, 1, 0, 0, 0, 0), (127, .irem, 1, 0, 0, 0, 0), (128, .iconst 1, 1, 0, 0, 0, 0), (129, .if_icmp .ne 26, 3, 0, 0, 0, 0), (132, .iload 8, 2, 0, 0, 0, 0), (134, .ineg, 1, 0, 0, 0, 0), (135, .aload_n 0, 1, 0, 0, 0, 0), (136, .bipush 27, 2, 0, 0, 0, 0), (138, .iconst 3, 1, 0, 0, 0, 0), (139, .iload 5, 2, 0, 0, 0, 0), (141, .imul, 1, 0, 0, 0, 0), (142, .iadd, 1, 0, 0, 0, 0), (143, .iload 9, 2, 0, 0, 0, 0), (145, .iadd, 1, 0, 0, 0, 0), (146, .iconst 1, 1, 0, 0, 0, 0), (147, .isub, 1, 0, 0, 0, 0), (148, .invokevirtual 110, 3, 1, 11, 1, 1202), (151, .imul, 1, 0, 0, 0, 0), (152, .goto 22, 3, 0, 0, 0, 0), (155, .iload 8, 2, 0, 0, 0, 0), (157, .aload_n 0, 1, 0, 0, 0, 0), (158, .bipush 27, 2, 0, 0, 0, 0), (160, .iconst 3, 1, 0, 0, 0, 0), (161, .iload 5, 2, 0, 0, 0, 0), (163, .imul, 1, 0, 0, 0, 0), (164, .iadd, 1, 0, 0, 0, 0), (165, .iload 9, 2, 0, 0, 0, 0), (167, .iadd, 1, 0, 0, 0, 0), (168, .iconst 1, 1, 0, 0, 0, 0), (169, .isub, 1, 0, 0, 0, 0), (170, .invokevirtual 110, 3, 1, 11, 1, 1202), (173, .imul, 1, 0, 0, 0, 0), (174, .iadd, 1, 0, 0, 0, 0), (175, .istore 4, 2, 0, 0, 0, 0), (177, .iinc 9 1, 3, 0, 0, 0, 0), (180, .goto (-80), 3, 0, 0, 0, 0), (183, .iload 5, 2, 0, 0, 0, 0), (185, .iconst 1, 1, 0, 0, 0, 0), (186, .isub, 1, 0, 0, 0, 0), (187, .istore 9, 2, 0, 0, 0, 0), (189, .iload 9, 2, 0, 0, 0, 0), (191, .ifCond .le 41, 3, 0, 0, 0, 0), (194, .aload_n 0, 1, 0, 0, 0, 0), (195, .getfield 7, 3, 1061, 11, 0, 0), (198, .bipush 27, 2, 0, 0, 0, 0), (200, .iconst 3, 1, 0, 0, 0, 0), (201, .iload 5, 2, 0, 0, 0, 0), (203, .imul, 1, 0, 0, 0, 0), (204, .iadd, 1, 0, 0, 0, 0), (205, .iload 9, 2, 0, 0, 0, 0), (207, .iadd, 1, 0, 0, 0, 0), (208, .aload_n 0, 1, 0, 0, 0, 0), (209, .getfield 7, 3, 1061, 11, 0, 0), (212, .bipush 27, 2, 0, 0, 0, 0), (214, .iconst 3, 1, 0, 0, 0, 0), (215, .iload 5, 2, 0, 0, 0, 0), (217, .imul, 1, 0, 0, 0, 0), (218, .iadd, 1, 0, 0, 0, 0), (219, .iload 9, 2, 0, 0, 0, 0), (221, .iadd, 1, 0, 0, 0, 0), (222, .iconst 1, 1, 0, 0, 0, 0), (223, .isub, 1, 0, 0, 0, 0), (224, .laload, 1, 0, 0, 0, 0), (225, .lastore, 1, 0, 0, 0, 0), (226, .iinc 9 (-1), 3, 0, 0, 0, 0), (229, .goto (-40), 3, 0, 0, 0, 0), (232, .iload 5, 2, 0, 0, 0, 0), (234, .ifCond .le 18, 3, 0, 0, 0, 0), (237, .aload_n 0, 1, 0, 0, 0, 0), (238, .getfield 7, 3, 1061, 11, 0, 0), (241, .bipush 27, 2, 0, 0, 0, 0), (243, .iconst 3, 1, 0, 0, 0, 0), (244, .iload 5, 2, 0, 0, 0, 0), (246, .imul, 1, 0, 0, 0, 0), (247, .iadd, 1, 0, 0, 0, 0), (248, .iload 7, 2, 0, 0, 0, 0), (250, .i2l, 1, 0, 0, 0, 0), (251, .lastore, 1, 0, 0, 0, 0), (252, .iinc 5 1, 3, 0, 0, 0, 0), (255, .goto (-244), 3, 0, 0, 0, 0), (258, .iload 4, 2, 0, 0, 0, 0), (260, .ireturn, 1, 0, 0, 0, 0)]
set_option maxRecDepth 100000 in
set_option maxHeartbeats 4000000 in
theorem c_X11_byCascade (l : Launch) (G : vg_G) (hp : vg_Hp G) : vg_Ct l G vg_sh r_X11_byCascade := by
  refine vg_meth hp vg_sh_ok r_X11_byCascade k_X11_byCascade rfl (fun h => by cases h) o_X11_byCascade [r_X11_besides, r_X11_get, r_X11_nearest, r_X11_valueOf, r_X11_held] false (by decide +kernel) (by decide +kernel) ⟨_, _, rfl, rfl⟩ (List.forall_mem_cons.mpr ⟨⟨c_X11_besides l G hp, Nat.le_of_ble_eq_true rfl, Nat.le_of_ble_eq_true rfl⟩, List.forall_mem_cons.mpr ⟨⟨c_X11_get l G hp, Nat.le_of_ble_eq_true rfl, Nat.le_of_ble_eq_true rfl⟩, List.forall_mem_cons.mpr ⟨⟨c_X11_nearest l G hp, Nat.le_of_ble_eq_true rfl, Nat.le_of_ble_eq_true rfl⟩, List.forall_mem_cons.mpr ⟨⟨c_X11_valueOf l G hp, Nat.le_of_ble_eq_true rfl, Nat.le_of_ble_eq_true rfl⟩, List.forall_mem_cons.mpr ⟨⟨c_X11_held l G hp, Nat.le_of_ble_eq_true rfl, Nat.le_of_ble_eq_true rfl⟩, fun _ h => absurd h List.not_mem_nil⟩⟩⟩⟩⟩) (fun h => by cases h) 600 ?_
  intro as s0 hpre
  obtain ⟨r, a1, a2, rfl, hr, i0⟩ := hpre
  simp only [List.mem_cons, List.not_mem_nil, or_false] at hr
  rcases hr with rfl
  ·
    have zm1 : (Int32.ofInt (-1)).toInt = -1 := by decide
    have z0 : (Int32.ofInt 0).toInt = 0 := by decide
    have z1 : (Int32.ofInt 1).toInt = 1 := by decide
    have z2 : (Int32.ofInt 2).toInt = 2 := by decide
    have z3 : (Int32.ofInt 3).toInt = 3 := by decide
    have z23 : (Int32.ofInt 23).toInt = 23 := by decide
    have z27 : (Int32.ofInt 27).toInt = 27 := by decide
    refine ⟨Nat.le_of_ble_eq_true rfl, [(11, [true, false, true, true, true, true, false, false, false, false], (fun L t => ∃ (x3 : Int32) (x4 : Int32) (x5 : Int32), L = [some (.ref 55), none, some (.int a2), some (.int x3), some (.int x4), some (.int x5), none, none, none, none] ∧ (0 : Int) ≤ x5.toInt ∧ x5.toInt ≤ (4 : Int) ∧ (q_bcI s0 t a1 a2 x3 x4 x5) ∧ Iv t ∧ Kp s0 t), (fun L _ => (0 + (4 - (vg_li L 5).toInt) * 1000000000000).toNat)), (100, [true, false, true, true, true, true, false, true, true, true], (fun L t => ∃ (x3 : Int32) (x4 : Int32) (x5 : Int32) (x7 : Int32) (x8 : Int32) (x9 : Int32), L = [some (.ref 55), none, some (.int a2), some (.int x3), some (.int x4), some (.int x5), none, some (.int x7), some (.int x8), some (.int x9)] ∧ (0 : Int) ≤ x5.toInt ∧ x5.toInt ≤ (3 : Int) ∧ (1 : Int) ≤ x9.toInt ∧ x9.toInt ≤ (4 : Int) ∧ (q_bcA s0 t a1 a2 x3 x4 x7 x8 x5 x9) ∧ Iv t ∧ Kp s0 t), (fun L _ => (0 + (4 - (vg_li L 5).toInt) * 1000000000000 - 1000000000000 + 10000000000 + (4 - (vg_li L 9).toInt) * 100000 + 1).toNat)), (189, [true, false, true, true, true, true, false, true, false, true], (fun L t => ∃ (x3 : Int32) (x4 : Int32) (x5 : Int32) (x7 : Int32) (x9 : Int32), L = [some (.ref 55), none, some (.int a2), some (.int x3), some (.int x4), some (.int x5), none, some (.int x7), none, some (.int x9)] ∧ (0 : Int) ≤ x5.toInt ∧ x5.toInt ≤ (3 : Int) ∧ (-1 : Int) ≤ x9.toInt ∧ x9.toInt ≤ (2 : Int) ∧ (q_bcB s0 t a1 a2 x3 x4 x7 x5 x9) ∧ Iv t ∧ Kp s0 t), (fun L _ => (0 + (4 - (vg_li L 5).toInt) * 1000000000000 - 1000000000000 + 0 + ((vg_li L 9).toInt - (-1)) * 100000 + 1).toNat))], ?_, List.forall_mem_cons.mpr ⟨?_, List.forall_mem_cons.mpr ⟨?_, List.forall_mem_cons.mpr ⟨?_, fun _ h => absurd h List.not_mem_nil⟩⟩⟩⟩
    ·
      refine And.intro (Nat.le_of_ble_eq_true rfl) (And.intro ⟨55, rfl, by decide, i0⟩ ?_)
      intro v1 s3 h2
      have h2 : s3 = s0 ∧ (v1 = q_bes (s0.1 55 7) (s0.1 55 8) (s0.1 55 10)) := h2
      have q6 := h2.1.symm
      subst q6
      have q7 := h2.2
      have yb := q7
      exact ⟨rfl, ⟨a1, v1, (Int32.ofInt 0), rfl, (by omega), (by omega), (by first | exact q_bc0 (show 1 ≤ (s0.1 55 8).toInt by have h9 := Iv_55_8 i0; omega) yb | exact q_bcI0 None (by omega) (by omega) | exact q_bcI1 None None rfl (by omega) (by omega) (by omega) (by omega) (by omega)), i0, Kx.rf⟩, trivial⟩
    ·
      intro L s14 hL
      obtain ⟨w8, w9, w10, rfl, b11, b12, x13, i15, k16⟩ := hL
      intro v17 e18
      have g19 : s14.1 55 8 = v17 := by rw [e18]
      have b20 : v17.toInt = (s14.1 55 8).toInt := congrArg Int32.toInt e18
      have b21 : (1 : Int) ≤ v17.toInt ∧ v17.toInt ≤ 4 := by rw [e18]; exact Iv_55_8 i15
      have yk : (s14.1 55 8).toInt = (s0.1 55 8).toInt := by rw [x13.2.2.2.2.2.1.1]
      refine And.intro (fun c22 => ?_) (fun c22 => ?_)
      · have c22 : v17.toInt ≤ w10.toInt := c22
        show Iv s14 ∧ Kp s0 s14 ∧ (q_ry s0 s14 w9 (q_yC (q_plR s0) a1 a2 (qE s0) (qP s0)))
        exact ⟨i15, k16, (q_bc2 x13 (show (s0.1 55 8).toInt ≤ _ by omega))⟩
      · have c22 : ¬ (v17.toInt ≤ w10.toInt) := c22
        intro v23 e24
        have b25 := vg_add e24 (by omega) (by omega)
        refine And.intro (Nat.le_of_ble_eq_true rfl) (And.intro ⟨55, v23, rfl, by decide, i15, by omega⟩ ?_)
        intro v26 s28 h27
        have h27 : s28 = s14 ∧ (v26 = (s14.2 56 v23.toNatClampNeg).toInt32) := h27
        have q31 := h27.1.symm
        subst q31
        have q32 := h27.2
        have y1 := q32
        intro v33 e34
        have y2 := e34
        refine And.intro (fun c35 => ?_) (fun c35 => ?_)
        · have c35 : ¬ w10.toInt = 0 := c35
          have ya : v33 = if w10.toNatClampNeg = 0 then v33 + a2 else v33 := by first | (rw [if_pos (by (have h9 : w10.toNatClampNeg = w10.toInt.toNat := rfl); omega)]; exact yd) | rw [if_neg (by (have h9 : w10.toNatClampNeg = w10.toInt.toNat := rfl); omega)]
          refine And.intro (Nat.le_of_ble_eq_true rfl) (And.intro ⟨55, v33, rfl, by decide, i15⟩ ?_)
          intro v36 s38 h37
          have h37 : s38 = s14 ∧ (v36 = q_near (s14.1 55 9) (s14.1 55 10) v33) := h37
          have q41 := h37.1.symm
          subst q41
          have q42 := h37.2
          have y3 := q42
          intro v43 e44
          have b45 := vg_add e44 (by omega) (by omega)
          refine And.intro (Nat.le_of_ble_eq_true rfl) (And.intro ⟨55, v36, rfl, by decide, i15⟩ ?_)
          intro v46 s48 h47
          have h47 : s48 = s14 ∧ (v46 = q_val (s14.1 55 9) (s14.1 55 10) v36) := h47
          have q51 := h47.1.symm
          subst q51
          have q52 := h47.2
          have y4 := q52
          intro v53 e54
          have y5 := e54
          refine And.intro (Nat.le_of_ble_eq_true rfl) (And.intro ⟨55, v53, rfl, by decide, i15⟩ ?_)
          intro v55 s57 h56
          have h56 : Iv s57 ∧ Kp s14 s57 ∧ (v55 = q_held (s14.1 55 11) v53 ∧ qh s14 s57 ∧ s57.2 56 144 = cond (q_ht v53 v55) (Int64.ofNat 1) (s14.2 56 144)) := h56
          have i58 := h56.1
          have k59 : Kp s0 s57 := Kx.tr k16 (h56.2.1)
          have q60 := h56.2.2
          have y6 := q60
          intro v61 e62
          have y7 := e62
          refine And.intro ⟨by omega, by omega⟩ ?_
          intro s63 e64
          have i65 : Iv s63 := Iv.u2 i58 e64
          have k66 : Kp s0 s63 := Kx.u2 k59 e64 (vg_kq_pos rfl (by omega)).1
          have y8 := e64
          intro v67 e68
          have b69 := vg_add e68 (by omega) (by omega)
          refine And.intro (Nat.le_of_ble_eq_true rfl) (And.intro ⟨55, v67, rfl, by decide, i65, by omega⟩ ?_)
          intro v70 s72 h71
          have h71 : s72 = s63 ∧ (v70 = (s63.2 56 v67.toNatClampNeg).toInt32) := h71
          have q75 := h71.1.symm
          subst q75
          have q76 := h71.2
          have y9 := q76
          intro v77 e78
          have y10 := e78
          exact ⟨rfl, ⟨v70, v77, w10, v36, (Int32.ofInt 1), (Int32.ofInt 1), rfl, (by omega), (by omega), (by omega), (by omega), (by first | exact q_bcA0 x13 y1 y2 ya y3 y4 y5 y6.1 y6.2.1 y6.2.2 y7 y8 y9 y10 rfl (by omega) (by omega) (by omega) (by omega) (by omega) (by omega) (show _ < (s0.1 55 8).toInt by omega) | exact q_bcA1 x13 (by omega) (by omega) (by omega) yb1 yb2 yb3 yb4 yb5 (Or.inr ⟨propext ⟨fun _ => rfl, fun _ => by omega⟩, yc⟩) yg (by omega) yt yw (by omega) | exact q_bcA1 x13 (by omega) (by omega) (by omega) yb1 yb2 yb3 yb4 yb5 (Or.inl ⟨propext ⟨fun h => absurd h (by omega), fun h => Bool.noConfusion h⟩, rfl⟩) yg (by omega) yt yw (by omega)), i65, k66⟩, (by show (0 + (4 - w10.toInt) * 1000000000000 - 1000000000000 + 10000000000 + (4 - (Int32.ofInt 1).toInt) * 100000 + 1).toNat < (0 + (4 - w10.toInt) * 1000000000000).toNat; omega)⟩
        · have c35 : ¬ (¬ w10.toInt = 0) := c35
          intro v79 e80
          have yd := e80
          have ya : v79 = if w10.toNatClampNeg = 0 then v33 + a2 else v33 := by first | (rw [if_pos (by (have h9 : w10.toNatClampNeg = w10.toInt.toNat := rfl); omega)]; exact yd) | rw [if_neg (by (have h9 : w10.toNatClampNeg = w10.toInt.toNat := rfl); omega)]
          refine And.intro (Nat.le_of_ble_eq_true rfl) (And.intro ⟨55, v79, rfl, by decide, i15⟩ ?_)
          intro v81 s83 h82
          have h82 : s83 = s14 ∧ (v81 = q_near (s14.1 55 9) (s14.1 55 10) v79) := h82
          have q86 := h82.1.symm
          subst q86
          have q87 := h82.2
          have y3 := q87
          intro v88 e89
          have b90 := vg_add e89 (by omega) (by omega)
          refine And.intro (Nat.le_of_ble_eq_true rfl) (And.intro ⟨55, v81, rfl, by decide, i15⟩ ?_)
          intro v91 s93 h92
          have h92 : s93 = s14 ∧ (v91 = q_val (s14.1 55 9) (s14.1 55 10) v81) := h92
          have q96 := h92.1.symm
          subst q96
          have q97 := h92.2
          have y4 := q97
          intro v98 e99
          have y5 := e99
          refine And.intro (Nat.le_of_ble_eq_true rfl) (And.intro ⟨55, v98, rfl, by decide, i15⟩ ?_)
          intro v100 s102 h101
          have h101 : Iv s102 ∧ Kp s14 s102 ∧ (v100 = q_held (s14.1 55 11) v98 ∧ qh s14 s102 ∧ s102.2 56 144 = cond (q_ht v98 v100) (Int64.ofNat 1) (s14.2 56 144)) := h101
          have i103 := h101.1
          have k104 : Kp s0 s102 := Kx.tr k16 (h101.2.1)
          have q105 := h101.2.2
          have y6 := q105
          intro v106 e107
          have y7 := e107
          refine And.intro ⟨by omega, by omega⟩ ?_
          intro s108 e109
          have i110 : Iv s108 := Iv.u2 i103 e109
          have k111 : Kp s0 s108 := Kx.u2 k104 e109 (vg_kq_pos rfl (by omega)).1
          have y8 := e109
          intro v112 e113
          have b114 := vg_add e113 (by omega) (by omega)
          refine And.intro (Nat.le_of_ble_eq_true rfl) (And.intro ⟨55, v112, rfl, by decide, i110, by omega⟩ ?_)
          intro v115 s117 h116
          have h116 : s117 = s108 ∧ (v115 = (s108.2 56 v112.toNatClampNeg).toInt32) := h116
          have q120 := h116.1.symm
          subst q120
          have q121 := h116.2
          have y9 := q121
          intro v122 e123
          have y10 := e123
          exact ⟨rfl, ⟨v115, v122, w10, v81, (Int32.ofInt 1), (Int32.ofInt 1), rfl, (by omega), (by omega), (by omega), (by omega), (by first | exact q_bcA0 x13 y1 y2 ya y3 y4 y5 y6.1 y6.2.1 y6.2.2 y7 y8 y9 y10 rfl (by omega) (by omega) (by omega) (by omega) (by omega) (by omega) (show _ < (s0.1 55 8).toInt by omega) | exact q_bcA1 x13 (by omega) (by omega) (by omega) yb1 yb2 yb3 yb4 yb5 (Or.inr ⟨propext ⟨fun _ => rfl, fun _ => by omega⟩, yc⟩) yg (by omega) yt yw (by omega) | exact q_bcA1 x13 (by omega) (by omega) (by omega) yb1 yb2 yb3 yb4 yb5 (Or.inl ⟨propext ⟨fun h => absurd h (by omega), fun h => Bool.noConfusion h⟩, rfl⟩) yg (by omega) yt yw (by omega)), i110, k111⟩, (by show (0 + (4 - w10.toInt) * 1000000000000 - 1000000000000 + 10000000000 + (4 - (Int32.ofInt 1).toInt) * 100000 + 1).toNat < (0 + (4 - w10.toInt) * 1000000000000).toNat; omega)⟩
    ·
      intro L s135 hL
      obtain ⟨w124, w125, w126, w129, w130, w131, rfl, b127, b128, b132, b133, x134, i136, k137⟩ := hL
      refine And.intro (fun c138 => ?_) (fun c138 => ?_)
      · have c138 : w126.toInt < w131.toInt := c138
        intro v139 e140
        have b141 := vg_sub e140 (by omega) (by omega)
        exact ⟨rfl, ⟨w124, w125, w126, w129, v139, rfl, (by omega), (by omega), (by omega), (by omega), (by first | exact q_bcB0 x134 (by omega) (by omega) (by omega) (by omega) | exact q_bcB1 x134 None rfl (by omega) (by omega) (by omega) (by omega) (by omega) (by omega)), i136, k137⟩, (by show (0 + (4 - w126.toInt) * 1000000000000 - 1000000000000 + 0 + (v139.toInt - (-1)) * 100000 + 1).toNat < (0 + (4 - w126.toInt) * 1000000000000 - 1000000000000 + 10000000000 + (4 - w131.toInt) * 100000 + 1).toNat; omega)⟩
      · have c138 : ¬ (w126.toInt < w131.toInt) := c138
        intro v142 e143
        have b144 := vg_add e143 (by omega) (by omega)
        have yb1 := e143
        intro v145 e146
        have b147 := vg_sub e146 (by omega) (by omega)
        have yb2 := e146
        intro v148 e149
        have yb3 := e149
        refine And.intro (by omega) ?_
        intro v150 e151
        have yb4 := e151
        refine And.intro (by omega) ?_
        intro v152 e153
        have b154 := (vg_rem e153 (by omega) (by omega)).2
        have yb5 := e153
        refine And.intro (fun c155 => ?_) (fun c155 => ?_)
        · have c155 : ¬ v152.toInt = (Int32.ofInt 1).toInt := c155
          intro v156 e157
          have b158 : v156.toInt = (3) * w126.toInt := vg_mulL e157 (by omega) (by omega) (by omega)
          intro v159 e160
          have b161 := vg_add e160 (by omega) (by omega)
          intro v162 e163
          have b164 := vg_add e163 (by omega) (by omega)
          intro v165 e166
          have b167 := vg_sub e166 (by omega) (by omega)
          refine And.intro (Nat.le_of_ble_eq_true rfl) (And.intro ⟨55, v165, rfl, by decide, i136, by omega⟩ ?_)
          intro v168 s170 h169
          have h169 : s170 = s135 ∧ (v168 = (s135.2 56 v165.toNatClampNeg).toInt32) := h169
          have q173 := h169.1.symm
          subst q173
          have q174 := h169.2
          have yg := q174
          intro v175 e176
          have yt := e176
          intro v177 e178
          have yw := e178
          intro v179 e180
          have b181 := vg_add e180 (by omega) (by omega)
          exact ⟨rfl, ⟨w124, v177, w126, w129, v150, v179, rfl, (by omega), (by omega), (by omega), (by omega), (by first | exact q_bcA0 x134 y1 y2 ya y3 y4 y5 y6.1 y6.2.1 y6.2.2 y7 y8 y9 y10 rfl (by omega) (by omega) (by omega) (by omega) (by omega) (by omega) (show _ < (s0.1 55 8).toInt by omega) | exact q_bcA1 x134 (by omega) (by omega) (by omega) yb1 yb2 yb3 yb4 yb5 (Or.inr ⟨propext ⟨fun _ => rfl, fun _ => by omega⟩, yc⟩) yg (by omega) yt yw (by omega) | exact q_bcA1 x134 (by omega) (by omega) (by omega) yb1 yb2 yb3 yb4 yb5 (Or.inl ⟨propext ⟨fun h => absurd h (by omega), fun h => Bool.noConfusion h⟩, rfl⟩) yg (by omega) yt yw (by omega)), i136, k137⟩, (by show (0 + (4 - w126.toInt) * 1000000000000 - 1000000000000 + 10000000000 + (4 - v179.toInt) * 100000 + 1).toNat < (0 + (4 - w126.toInt) * 1000000000000 - 1000000000000 + 10000000000 + (4 - w131.toInt) * 100000 + 1).toNat; omega)⟩
        · have c155 : ¬ (¬ v152.toInt = (Int32.ofInt 1).toInt) := c155
          intro v182 e183
          have yc := e183
          intro v184 e185
          have b186 : v184.toInt = (3) * w126.toInt := vg_mulL e185 (by omega) (by omega) (by omega)
          intro v187 e188
          have b189 := vg_add e188 (by omega) (by omega)
          intro v190 e191
          have b192 := vg_add e191 (by omega) (by omega)
          intro v193 e194
          have b195 := vg_sub e194 (by omega) (by omega)
          refine And.intro (Nat.le_of_ble_eq_true rfl) (And.intro ⟨55, v193, rfl, by decide, i136, by omega⟩ ?_)
          intro v196 s198 h197
          have h197 : s198 = s135 ∧ (v196 = (s135.2 56 v193.toNatClampNeg).toInt32) := h197
          have q201 := h197.1.symm
          subst q201
          have q202 := h197.2
          have yg := q202
          intro v203 e204
          have yt := e204
          intro v205 e206
          have yw := e206
          intro v207 e208
          have b209 := vg_add e208 (by omega) (by omega)
          exact ⟨rfl, ⟨w124, v205, w126, w129, v150, v207, rfl, (by omega), (by omega), (by omega), (by omega), (by first | exact q_bcA0 x134 y1 y2 ya y3 y4 y5 y6.1 y6.2.1 y6.2.2 y7 y8 y9 y10 rfl (by omega) (by omega) (by omega) (by omega) (by omega) (by omega) (show _ < (s0.1 55 8).toInt by omega) | exact q_bcA1 x134 (by omega) (by omega) (by omega) yb1 yb2 yb3 yb4 yb5 (Or.inr ⟨propext ⟨fun _ => rfl, fun _ => by omega⟩, yc⟩) yg (by omega) yt yw (by omega) | exact q_bcA1 x134 (by omega) (by omega) (by omega) yb1 yb2 yb3 yb4 yb5 (Or.inl ⟨propext ⟨fun h => absurd h (by omega), fun h => Bool.noConfusion h⟩, rfl⟩) yg (by omega) yt yw (by omega)), i136, k137⟩, (by show (0 + (4 - w126.toInt) * 1000000000000 - 1000000000000 + 10000000000 + (4 - v207.toInt) * 100000 + 1).toNat < (0 + (4 - w126.toInt) * 1000000000000 - 1000000000000 + 10000000000 + (4 - w131.toInt) * 100000 + 1).toNat; omega)⟩
    ·
      intro L s220 hL
      obtain ⟨w210, w211, w212, w215, w216, rfl, b213, b214, b217, b218, x219, i221, k222⟩ := hL
      refine And.intro (fun c223 => ?_) (fun c223 => ?_)
      · have c223 : w216.toInt ≤ 0 := c223
        refine And.intro (fun c224 => ?_) (fun c224 => ?_)
        · have c224 : w212.toInt ≤ 0 := c224
          intro v225 e226
          have b227 := vg_add e226 (by omega) (by omega)
          exact ⟨rfl, ⟨w210, w211, v225, rfl, (by omega), (by omega), (by first | exact q_bc0 (show 1 ≤ (s0.1 55 8).toInt by have h9 := Iv_55_8 i0; omega) yb | exact q_bcI0 x219 (by omega) (by omega) | exact q_bcI1 x219 None rfl (by omega) (by omega) (by omega) (by omega) (by omega)), i221, k222⟩, (by show (0 + (4 - v225.toInt) * 1000000000000).toNat < (0 + (4 - w212.toInt) * 1000000000000 - 1000000000000 + 0 + (w216.toInt - (-1)) * 100000 + 1).toNat; omega)⟩
        · have c224 : ¬ (w212.toInt ≤ 0) := c224
          intro v228 e229
          have b230 : v228.toInt = (3) * w212.toInt := vg_mulL e229 (by omega) (by omega) (by omega)
          intro v231 e232
          have b233 := vg_add e232 (by omega) (by omega)
          intro v234 e235
          refine And.intro ⟨by omega, by omega⟩ ?_
          intro s236 e237
          have i238 : Iv s236 := Iv.u2 i221 e237
          have k239 : Kp s0 s236 := Kx.u2 k222 e237 (vg_kq_pos rfl (by omega)).1
          intro v240 e241
          have b242 := vg_add e241 (by omega) (by omega)
          exact ⟨rfl, ⟨w210, w211, v240, rfl, (by omega), (by omega), (by first | exact q_bc0 (show 1 ≤ (s0.1 55 8).toInt by have h9 := Iv_55_8 i0; omega) yb | exact q_bcI0 x219 (by omega) (by omega) | exact q_bcI1 x219 e235 e237 (by omega) (by omega) (by omega) (by omega) (by omega)), i238, k239⟩, (by show (0 + (4 - v240.toInt) * 1000000000000).toNat < (0 + (4 - w212.toInt) * 1000000000000 - 1000000000000 + 0 + (w216.toInt - (-1)) * 100000 + 1).toNat; omega)⟩
      · have c223 : ¬ (w216.toInt ≤ 0) := c223
        intro v243 e244
        have b245 : v243.toInt = (3) * w212.toInt := vg_mulL e244 (by omega) (by omega) (by omega)
        intro v246 e247
        have b248 := vg_add e247 (by omega) (by omega)
        intro v249 e250
        have b251 := vg_add e250 (by omega) (by omega)
        intro v252 e253
        have b254 : v252.toInt = (3) * w212.toInt := vg_mulL e253 (by omega) (by omega) (by omega)
        intro v255 e256
        have b257 := vg_add e256 (by omega) (by omega)
        intro v258 e259
        have b260 := vg_add e259 (by omega) (by omega)
        intro v261 e262
        have b263 := vg_sub e262 (by omega) (by omega)
        refine And.intro ⟨by omega, by omega⟩ ?_
        intro v264 e265
        refine And.intro ⟨by omega, by omega⟩ ?_
        intro s266 e267
        have i268 : Iv s266 := Iv.u2 i221 e267
        have k269 : Kp s0 s266 := Kx.u2 k222 e267 (vg_kq_pos rfl (by omega)).1
        intro v270 e271
        have b272 := vg_add e271 (by omega) (by omega)
        exact ⟨rfl, ⟨w210, w211, w212, w215, v270, rfl, (by omega), (by omega), (by omega), (by omega), (by first | exact q_bcB0 x219 (by omega) (by omega) (by omega) (by omega) | exact q_bcB1 x219 e265 e267 (by omega) (by omega) (by omega) (by omega) (by omega) (by omega)), i268, k269⟩, (by show (0 + (4 - w212.toInt) * 1000000000000 - 1000000000000 + 0 + (v270.toInt - (-1)) * 100000 + 1).toNat < (0 + (4 - w212.toInt) * 1000000000000 - 1000000000000 + 0 + (w216.toInt - (-1)) * 100000 + 1).toNat; omega)⟩
def o_X11_loops : List vg_I := [(0, .aload_n 0, 1, 0, 0, 0, 0), (1, .getfield 7, 3, 1061, 11, 0, 0), (4, .sipush 144, 3, 0, 0, 0, 0), (7, .lconst 0, 1, 0, 0, 0, 0), (8, .lastore, 1, 0, 0, 0, 0), (9, .aload_n 0, 1, 0, 0, 0, 0), (10, .getfield 99, 3, 1068, 11, 7, 0), (13, .ifCond .ne 12, 3, 0, 0, 0, 0), (16, .aload_n 0, 1, 0, 0, 0, 0), (17, .iload_n 1, 1, 0, 0, 0, 0), (18, .iload_n 2, 1, 0, 0, 0, 0), (19, .invokevirtual 142, 3, 0, 11, 2, 1297), (22, .goto 26, 3, 0, 0, 0, 0), (25, .aload_n 0, 1, 0, 0, 0, 0), (26, .getfield 99, 3, 1068, 11, 7, 0), (29, .iconst 1, 1, 0, 0, 0, 0), (30, .if_icmp .ne 12, 3, 0, 0, 0, 0), (33, .aload_n 0, 1, 0, 0, 0, 0), (34, .iload_n 1, 1, 0, 0, 0, 0), (35, .iload_n 2, 1, 0, 0, 0, 0), (36, .invokevirtual 145, 3, 1, 11, 2, 1314), (39, .goto 9, 3, 0, 0, 0, 0), (42, .aload_n 0, 1, 0, 0, 0, 0), (43, .iload_n 1, 1, 0, 0, 0, 0), (44, .iload_n 2, 1, 0, 0, 0, 0), (45, .invokevirtual 148, 3, 2, 11, 2, 1318), (48, .istore_n 3, 1, 0, 0, 0, 0), (49, .aload_n 0, 1, 0, 0, 0, 0), (50, .getfield 7, 3, 1061, 11, 0, 0), (53, .iconst 2, 1, 0, 0, 0, 0), (54, .aload_n 0, 1, 0, 0, 0, 0), (55, .getfield 23, 3, 1070, 11, 9, 0), (58, .iconst 2, 1, 0, 0, 0, 0), (59, .iload_n 3, 1, 0, 0, 0, 0), (60, .imul, 1, 0, 0, 0, 0), (61, .iconst 1, 1, 0, 0, 0, 0), (62, .iadd, 1, 0, 0, 0, 0), (63, .aload_n 0, 1, 0, 0, 0, 0), (64, .getfield 26, 3, 1071, 11, 10, 0), (67, .isub, 1, 0, 0, 0, 0), (68, .iconst 2, 1, 0, 0, 0, 0), (69, .aload_n 0, 1, 0, 0, 0, 0), (70, .invokevirtual 151, 3, 3, 11, 0, 1322), (73, .imul, 1, 0, 0, 0, 0), (74, .isub, 1, 0, 0, 0, 0), (75, .imul, 1, 0, 0, 0, 0), (76, .i2l, 1, 0, 0, 0, 0), (77, .lastore, 1, 0, 0, 0, 0), (78, .aload_n 0, 1, 0, 0, 0, 0), (79, .getfield 154, 3, 1075, 11, 14, 0), (82, .ifCond .eq 23, 3, 0, 0, 0, 0), (85, .aload_n 0, 1, 0, 0, 0, 0), (86, .getfield 7, 3, 1061, 11, 0, 0), (89, .sipush 144, 3, 0, 0, 0, 0), (92, .laload, 1, 0, 0, 0, 0), (93, .lconst 1, 1, 0, 0, 0, 0), (94, .lcmp, 1, 0, 0, 0, 0), (95, .ifCond .ne 10, 3, 0, 0, 0, 0), (98, .aload_n 0, 1, 0, 0, 0, 0), (99, .bipush 23, 2, 0, 0, 0, 0), (101, .iconst 4, 1, 0, 0, 0, 0), (102, .invokevirtual 80, 3, 4, 11, 2, 1189), (105, .iload_n 3, 1, 0, 0, 0, 0), (106, .ireturn, 1, 0, 0, 0, 0)]
set_option maxRecDepth 100000 in
set_option maxHeartbeats 4000000 in
theorem c_X11_loops (l : Launch) (G : vg_G) (hp : vg_Hp G) : vg_Ct l G vg_sh r_X11_loops := by
  refine vg_meth hp vg_sh_ok r_X11_loops k_X11_loops rfl (fun h => by cases h) o_X11_loops [r_X11_byErrors, r_X11_bySums, r_X11_byCascade, r_X11_besides, r_X11_wipes] false (by decide +kernel) (by decide +kernel) ⟨_, _, rfl, rfl⟩ (List.forall_mem_cons.mpr ⟨⟨c_X11_byErrors l G hp, Nat.le_of_ble_eq_true rfl, Nat.le_of_ble_eq_true rfl⟩, List.forall_mem_cons.mpr ⟨⟨c_X11_bySums l G hp, Nat.le_of_ble_eq_true rfl, Nat.le_of_ble_eq_true rfl⟩, List.forall_mem_cons.mpr ⟨⟨c_X11_byCascade l G hp, Nat.le_of_ble_eq_true rfl, Nat.le_of_ble_eq_true rfl⟩, List.forall_mem_cons.mpr ⟨⟨c_X11_besides l G hp, Nat.le_of_ble_eq_true rfl, Nat.le_of_ble_eq_true rfl⟩, List.forall_mem_cons.mpr ⟨⟨c_X11_wipes l G hp, Nat.le_of_ble_eq_true rfl, Nat.le_of_ble_eq_true rfl⟩, fun _ h => absurd h List.not_mem_nil⟩⟩⟩⟩⟩) (fun h => by cases h) 600 ?_
  intro as s0 hpre
  obtain ⟨r, a1, a2, rfl, hr, i0⟩ := hpre
  simp only [List.mem_cons, List.not_mem_nil, or_false] at hr
  rcases hr with rfl
  ·
    have z1 : (Int32.ofInt 1).toInt = 1 := by decide
    have z2 : (Int32.ofInt 2).toInt = 2 := by decide
    have z4 : (Int32.ofInt 4).toInt = 4 := by decide
    have z23 : (Int32.ofInt 23).toInt = 23 := by decide
    have z144 : (Int32.ofInt 144).toInt = 144 := by decide
    refine ⟨Nat.le_of_ble_eq_true rfl, [], ?_, fun _ h => absurd h List.not_mem_nil⟩
    ·
      refine And.intro ⟨by omega, by omega⟩ ?_
      intro s1 e2
      have i3 : Iv s1 := Iv.u2 i0 e2
      have k4 : Kp s0 s1 := Kx.u2 Kx.rf e2 (vg_kq_pos rfl (by omega)).1
      have y0 := e2
      have yz : s1.1 = s0.1 := by rw [e2, vg_u2_1]
      intro v5 e6
      have g7 : s0.1 55 7 = v5 := by rw [e6, e2, vg_u2_1]
      have b8 : v5.toInt = (s1.1 55 7).toInt := congrArg Int32.toInt e6
      have b9 : v5.toInt = (s0.1 55 7).toInt := congrArg Int32.toInt g7.symm
      have b10 : (0 : Int) ≤ v5.toInt ∧ v5.toInt ≤ 2 := by rw [e6]; exact Iv_55_7 i3
      refine And.intro (fun c11 => ?_) (fun c11 => ?_)
      · have c11 : ¬ v5.toInt = 0 := c11
        intro v12 e13
        have w14 : v5 = v12 := by rw [e13, e2, vg_u2_1, g7]
        subst w14
        refine And.intro (fun c15 => ?_) (fun c15 => ?_)
        · have c15 : ¬ v5.toInt = (Int32.ofInt 1).toInt := c15
          refine And.intro (Nat.le_of_ble_eq_true rfl) (And.intro ⟨55, a1, a2, rfl, by decide, i3⟩ ?_)
          intro v16 s18 h17
          have h17 : Iv s18 ∧ Kp s1 s18 ∧ (q_ry s1 s18 v16 (q_yC (q_plR s1) a1 a2 (qE s1) (qP s1))) := h17
          have i19 := h17.1
          have k20 : Kp s0 s18 := Kx.tr k4 (h17.2.1)
          have q21 := h17.2.2
          have yq := q21
          intro v22 e23
          have g24 : s18.1 55 9 = v22 := by rw [e23]
          have yS := e23
          intro v25 e26
          have y1 := e26
          intro v27 e28
          have y2 := e28
          intro v29 e30
          have g31 : s18.1 55 10 = v29 := by rw [e30]
          have b32 : (2 : Int) ≤ v29.toInt ∧ v29.toInt ≤ 17 := by rw [e30]; exact Iv_55_10 i19
          have yL := e30
          intro v33 e34
          have y3 := e34
          refine And.intro (Nat.le_of_ble_eq_true rfl) (And.intro ⟨55, rfl, by decide, i19⟩ ?_)
          intro v35 s37 h36
          have h36 : s37 = s18 ∧ (v35 = q_bes (s18.1 55 7) (s18.1 55 8) (s18.1 55 10)) := h36
          have q40 := h36.1.symm
          subst q40
          have q41 := h36.2
          have y4 := q41
          intro v42 e43
          have y5 := e43
          intro v44 e45
          have y6 := e45
          intro v46 e47
          have y7 := e47
          intro v48 e49
          have y8 := e49
          refine And.intro ⟨by omega, by omega⟩ ?_
          intro s50 e51
          have i52 : Iv s50 := Iv.u2 i19 e51
          have k53 : Kp s0 s50 := Kx.u2 k20 e51 (vg_kq_pos rfl (by omega)).1
          have yv : q_lv s0 s50 a1 a2 v16 := by first | exact q_lp0 y0 (q_ryE yq yz (by omega)) (by rw [← y4, ← yS, ← yL]; exact q_valb y1 y2 y3 y5 y6 y7) y8 e51 | exact q_lp0 y0 (q_ryS yq yz (by omega)) (by rw [← y4, ← yS, ← yL]; exact q_valb y1 y2 y3 y5 y6 y7) y8 e51 | exact q_lp0 y0 (q_ryC yq yz (by omega)) (by rw [← y4, ← yS, ← yL]; exact q_valb y1 y2 y3 y5 y6 y7) y8 e51
          intro v54 e55
          have g56 : s18.1 55 14 = v54 := by rw [e55, e51, vg_u2_1]
          have b57 : v54.toInt = (s50.1 55 14).toInt := congrArg Int32.toInt e55
          have b58 : v54.toInt = (s18.1 55 14).toInt := congrArg Int32.toInt g56.symm
          have yw : (s50.1 55 14).toInt = (s0.1 55 14).toInt := by rw [yv.1]
          refine And.intro (fun c59 => ?_) (fun c59 => ?_)
          · have c59 : v54.toInt = 0 := c59
            show Iv s50 ∧ Kp s0 s50 ∧ (q_ld s0 s50 a1 a2 v16)
            exact ⟨i52, k53, (by first | exact q_ld0 yv (Or.inl (show (s0.1 55 14).toInt = 0 by omega)) | exact q_ld0 yv (Or.inr (fun hh => c59 ((q_c1 yl).mpr (by rw [ya, q_m144]; exact hh)))) | exact q_ld1 yv (show ¬ (s0.1 55 14).toInt = 0 by omega) (by rw [← q_m144, ← ya]; exact (q_c1 yl).mp (by omega)) q41 (by omega) (by omega))⟩
          · have c59 : ¬ (v54.toInt = 0) := c59
            refine And.intro ⟨by omega, by omega⟩ ?_
            intro v60 e61
            intro v62 e63
            have yl := e63
            have ya := e61
            refine And.intro (fun c64 => ?_) (fun c64 => ?_)
            · have c64 : ¬ v62.toInt = 0 := c64
              show Iv s50 ∧ Kp s0 s50 ∧ (q_ld s0 s50 a1 a2 v16)
              exact ⟨i52, k53, (by first | exact q_ld0 yv (Or.inl (show (s0.1 55 14).toInt = 0 by omega)) | exact q_ld0 yv (Or.inr (fun hh => c64 ((q_c1 yl).mpr (by rw [ya, q_m144]; exact hh)))) | exact q_ld1 yv (show ¬ (s0.1 55 14).toInt = 0 by omega) (by rw [← q_m144, ← ya]; exact (q_c1 yl).mp (by omega)) q41 (by omega) (by omega))⟩
            · have c64 : ¬ (¬ v62.toInt = 0) := c64
              refine And.intro (Nat.le_of_ble_eq_true rfl) (And.intro ⟨55, (Int32.ofInt 23), (Int32.ofInt 4), rfl, by decide, i52, by omega⟩ ?_)
              intro s66 h65
              have h65 : Iv s66 ∧ Kp s50 s66 ∧ (q_wi s50 s66 (Int32.ofInt 23).toInt ((Int32.ofInt 23).toInt + (Int32.ofInt 4).toInt)) := h65
              have i67 := h65.1
              have k68 : Kp s0 s66 := Kx.tr k53 (h65.2.1)
              have q69 := h65.2.2
              show Iv s66 ∧ Kp s0 s66 ∧ (q_ld s0 s66 a1 a2 v16)
              exact ⟨i67, k68, (by first | exact q_ld0 yv (Or.inl (show (s0.1 55 14).toInt = 0 by omega)) | exact q_ld0 yv (Or.inr (fun hh => c64 ((q_c1 yl).mpr (by rw [ya, q_m144]; exact hh)))) | exact q_ld1 yv (show ¬ (s0.1 55 14).toInt = 0 by omega) (by rw [← q_m144, ← ya]; exact (q_c1 yl).mp (by omega)) q69 (by omega) (by omega))⟩
        · have c15 : ¬ (¬ v5.toInt = (Int32.ofInt 1).toInt) := c15
          refine And.intro (Nat.le_of_ble_eq_true rfl) (And.intro ⟨55, a1, a2, rfl, by decide, i3⟩ ?_)
          intro v70 s72 h71
          have h71 : Iv s72 ∧ Kp s1 s72 ∧ (q_ry s1 s72 v70 (q_yS (q_plR s1) a1 a2 (qE s1) (qP s1) (qV s1))) := h71
          have i73 := h71.1
          have k74 : Kp s0 s72 := Kx.tr k4 (h71.2.1)
          have q75 := h71.2.2
          have yq := q75
          intro v76 e77
          have g78 : s72.1 55 9 = v76 := by rw [e77]
          have yS := e77
          intro v79 e80
          have y1 := e80
          intro v81 e82
          have y2 := e82
          intro v83 e84
          have g85 : s72.1 55 10 = v83 := by rw [e84]
          have b86 : (2 : Int) ≤ v83.toInt ∧ v83.toInt ≤ 17 := by rw [e84]; exact Iv_55_10 i73
          have yL := e84
          intro v87 e88
          have y3 := e88
          refine And.intro (Nat.le_of_ble_eq_true rfl) (And.intro ⟨55, rfl, by decide, i73⟩ ?_)
          intro v89 s91 h90
          have h90 : s91 = s72 ∧ (v89 = q_bes (s72.1 55 7) (s72.1 55 8) (s72.1 55 10)) := h90
          have q94 := h90.1.symm
          subst q94
          have q95 := h90.2
          have y4 := q95
          intro v96 e97
          have y5 := e97
          intro v98 e99
          have y6 := e99
          intro v100 e101
          have y7 := e101
          intro v102 e103
          have y8 := e103
          refine And.intro ⟨by omega, by omega⟩ ?_
          intro s104 e105
          have i106 : Iv s104 := Iv.u2 i73 e105
          have k107 : Kp s0 s104 := Kx.u2 k74 e105 (vg_kq_pos rfl (by omega)).1
          have yv : q_lv s0 s104 a1 a2 v70 := by first | exact q_lp0 y0 (q_ryE yq yz (by omega)) (by rw [← y4, ← yS, ← yL]; exact q_valb y1 y2 y3 y5 y6 y7) y8 e105 | exact q_lp0 y0 (q_ryS yq yz (by omega)) (by rw [← y4, ← yS, ← yL]; exact q_valb y1 y2 y3 y5 y6 y7) y8 e105 | exact q_lp0 y0 (q_ryC yq yz (by omega)) (by rw [← y4, ← yS, ← yL]; exact q_valb y1 y2 y3 y5 y6 y7) y8 e105
          intro v108 e109
          have g110 : s72.1 55 14 = v108 := by rw [e109, e105, vg_u2_1]
          have b111 : v108.toInt = (s104.1 55 14).toInt := congrArg Int32.toInt e109
          have b112 : v108.toInt = (s72.1 55 14).toInt := congrArg Int32.toInt g110.symm
          have yw : (s104.1 55 14).toInt = (s0.1 55 14).toInt := by rw [yv.1]
          refine And.intro (fun c113 => ?_) (fun c113 => ?_)
          · have c113 : v108.toInt = 0 := c113
            show Iv s104 ∧ Kp s0 s104 ∧ (q_ld s0 s104 a1 a2 v70)
            exact ⟨i106, k107, (by first | exact q_ld0 yv (Or.inl (show (s0.1 55 14).toInt = 0 by omega)) | exact q_ld0 yv (Or.inr (fun hh => c113 ((q_c1 yl).mpr (by rw [ya, q_m144]; exact hh)))) | exact q_ld1 yv (show ¬ (s0.1 55 14).toInt = 0 by omega) (by rw [← q_m144, ← ya]; exact (q_c1 yl).mp (by omega)) q95 (by omega) (by omega))⟩
          · have c113 : ¬ (v108.toInt = 0) := c113
            refine And.intro ⟨by omega, by omega⟩ ?_
            intro v114 e115
            intro v116 e117
            have yl := e117
            have ya := e115
            refine And.intro (fun c118 => ?_) (fun c118 => ?_)
            · have c118 : ¬ v116.toInt = 0 := c118
              show Iv s104 ∧ Kp s0 s104 ∧ (q_ld s0 s104 a1 a2 v70)
              exact ⟨i106, k107, (by first | exact q_ld0 yv (Or.inl (show (s0.1 55 14).toInt = 0 by omega)) | exact q_ld0 yv (Or.inr (fun hh => c118 ((q_c1 yl).mpr (by rw [ya, q_m144]; exact hh)))) | exact q_ld1 yv (show ¬ (s0.1 55 14).toInt = 0 by omega) (by rw [← q_m144, ← ya]; exact (q_c1 yl).mp (by omega)) q95 (by omega) (by omega))⟩
            · have c118 : ¬ (¬ v116.toInt = 0) := c118
              refine And.intro (Nat.le_of_ble_eq_true rfl) (And.intro ⟨55, (Int32.ofInt 23), (Int32.ofInt 4), rfl, by decide, i106, by omega⟩ ?_)
              intro s120 h119
              have h119 : Iv s120 ∧ Kp s104 s120 ∧ (q_wi s104 s120 (Int32.ofInt 23).toInt ((Int32.ofInt 23).toInt + (Int32.ofInt 4).toInt)) := h119
              have i121 := h119.1
              have k122 : Kp s0 s120 := Kx.tr k107 (h119.2.1)
              have q123 := h119.2.2
              show Iv s120 ∧ Kp s0 s120 ∧ (q_ld s0 s120 a1 a2 v70)
              exact ⟨i121, k122, (by first | exact q_ld0 yv (Or.inl (show (s0.1 55 14).toInt = 0 by omega)) | exact q_ld0 yv (Or.inr (fun hh => c118 ((q_c1 yl).mpr (by rw [ya, q_m144]; exact hh)))) | exact q_ld1 yv (show ¬ (s0.1 55 14).toInt = 0 by omega) (by rw [← q_m144, ← ya]; exact (q_c1 yl).mp (by omega)) q123 (by omega) (by omega))⟩
      · have c11 : ¬ (¬ v5.toInt = 0) := c11
        refine And.intro (Nat.le_of_ble_eq_true rfl) (And.intro ⟨55, a1, a2, rfl, by decide, i3, by omega⟩ ?_)
        intro v124 s126 h125
        have h125 : Iv s126 ∧ Kp s1 s126 ∧ (q_ry s1 s126 v124 (q_yE (q_plR s1) a1 a2 (qE s1) (qP s1))) := h125
        have i127 := h125.1
        have k128 : Kp s0 s126 := Kx.tr k4 (h125.2.1)
        have q129 := h125.2.2
        have yq := q129
        intro v130 e131
        have g132 : s126.1 55 9 = v130 := by rw [e131]
        have yS := e131
        intro v133 e134
        have y1 := e134
        intro v135 e136
        have y2 := e136
        intro v137 e138
        have g139 : s126.1 55 10 = v137 := by rw [e138]
        have b140 : (2 : Int) ≤ v137.toInt ∧ v137.toInt ≤ 17 := by rw [e138]; exact Iv_55_10 i127
        have yL := e138
        intro v141 e142
        have y3 := e142
        refine And.intro (Nat.le_of_ble_eq_true rfl) (And.intro ⟨55, rfl, by decide, i127⟩ ?_)
        intro v143 s145 h144
        have h144 : s145 = s126 ∧ (v143 = q_bes (s126.1 55 7) (s126.1 55 8) (s126.1 55 10)) := h144
        have q148 := h144.1.symm
        subst q148
        have q149 := h144.2
        have y4 := q149
        intro v150 e151
        have y5 := e151
        intro v152 e153
        have y6 := e153
        intro v154 e155
        have y7 := e155
        intro v156 e157
        have y8 := e157
        refine And.intro ⟨by omega, by omega⟩ ?_
        intro s158 e159
        have i160 : Iv s158 := Iv.u2 i127 e159
        have k161 : Kp s0 s158 := Kx.u2 k128 e159 (vg_kq_pos rfl (by omega)).1
        have yv : q_lv s0 s158 a1 a2 v124 := by first | exact q_lp0 y0 (q_ryE yq yz (by omega)) (by rw [← y4, ← yS, ← yL]; exact q_valb y1 y2 y3 y5 y6 y7) y8 e159 | exact q_lp0 y0 (q_ryS yq yz (by omega)) (by rw [← y4, ← yS, ← yL]; exact q_valb y1 y2 y3 y5 y6 y7) y8 e159 | exact q_lp0 y0 (q_ryC yq yz (by omega)) (by rw [← y4, ← yS, ← yL]; exact q_valb y1 y2 y3 y5 y6 y7) y8 e159
        intro v162 e163
        have g164 : s126.1 55 14 = v162 := by rw [e163, e159, vg_u2_1]
        have b165 : v162.toInt = (s158.1 55 14).toInt := congrArg Int32.toInt e163
        have b166 : v162.toInt = (s126.1 55 14).toInt := congrArg Int32.toInt g164.symm
        have yw : (s158.1 55 14).toInt = (s0.1 55 14).toInt := by rw [yv.1]
        refine And.intro (fun c167 => ?_) (fun c167 => ?_)
        · have c167 : v162.toInt = 0 := c167
          show Iv s158 ∧ Kp s0 s158 ∧ (q_ld s0 s158 a1 a2 v124)
          exact ⟨i160, k161, (by first | exact q_ld0 yv (Or.inl (show (s0.1 55 14).toInt = 0 by omega)) | exact q_ld0 yv (Or.inr (fun hh => c167 ((q_c1 yl).mpr (by rw [ya, q_m144]; exact hh)))) | exact q_ld1 yv (show ¬ (s0.1 55 14).toInt = 0 by omega) (by rw [← q_m144, ← ya]; exact (q_c1 yl).mp (by omega)) q149 (by omega) (by omega))⟩
        · have c167 : ¬ (v162.toInt = 0) := c167
          refine And.intro ⟨by omega, by omega⟩ ?_
          intro v168 e169
          intro v170 e171
          have yl := e171
          have ya := e169
          refine And.intro (fun c172 => ?_) (fun c172 => ?_)
          · have c172 : ¬ v170.toInt = 0 := c172
            show Iv s158 ∧ Kp s0 s158 ∧ (q_ld s0 s158 a1 a2 v124)
            exact ⟨i160, k161, (by first | exact q_ld0 yv (Or.inl (show (s0.1 55 14).toInt = 0 by omega)) | exact q_ld0 yv (Or.inr (fun hh => c172 ((q_c1 yl).mpr (by rw [ya, q_m144]; exact hh)))) | exact q_ld1 yv (show ¬ (s0.1 55 14).toInt = 0 by omega) (by rw [← q_m144, ← ya]; exact (q_c1 yl).mp (by omega)) q149 (by omega) (by omega))⟩
          · have c172 : ¬ (¬ v170.toInt = 0) := c172
            refine And.intro (Nat.le_of_ble_eq_true rfl) (And.intro ⟨55, (Int32.ofInt 23), (Int32.ofInt 4), rfl, by decide, i160, by omega⟩ ?_)
            intro s174 h173
            have h173 : Iv s174 ∧ Kp s158 s174 ∧ (q_wi s158 s174 (Int32.ofInt 23).toInt ((Int32.ofInt 23).toInt + (Int32.ofInt 4).toInt)) := h173
            have i175 := h173.1
            have k176 : Kp s0 s174 := Kx.tr k161 (h173.2.1)
            have q177 := h173.2.2
            show Iv s174 ∧ Kp s0 s174 ∧ (q_ld s0 s174 a1 a2 v124)
            exact ⟨i175, k176, (by first | exact q_ld0 yv (Or.inl (show (s0.1 55 14).toInt = 0 by omega)) | exact q_ld0 yv (Or.inr (fun hh => c172 ((q_c1 yl).mpr (by rw [ya, q_m144]; exact hh)))) | exact q_ld1 yv (show ¬ (s0.1 55 14).toInt = 0 by omega) (by rw [← q_m144, ← ya]; exact (q_c1 yl).mp (by omega)) q177 (by omega) (by omega))⟩
