def o_X10_status : List vg_I := [(0, .aload_n 0, 1, 0, 0, 0, 0), (1, .getfield 78, 3, 427, 10, 0, 0), (4, .ireturn, 1, 0, 0, 0, 0)]
set_option maxRecDepth 100000 in
set_option maxHeartbeats 4000000 in
theorem c_X10_status (l : Launch) (G : vg_G) (hp : vg_Hp G) : vg_Ct l G vg_sh r_X10_status := by
  refine vg_meth hp vg_sh_ok r_X10_status k_X10_status rfl (fun h => by cases h) o_X10_status [] false (by decide +kernel) (by decide +kernel) ⟨_, _, rfl, rfl⟩ (fun _ h => absurd h List.not_mem_nil) (fun h => by cases h) 600 ?_
  intro as s0 hpre
  obtain ⟨r, rfl, hr, i0⟩ := hpre
  simp only [List.mem_cons, List.not_mem_nil, or_false] at hr
  rcases hr with rfl
  ·
    refine ⟨Nat.le_of_ble_eq_true rfl, [], ?_, fun _ h => absurd h List.not_mem_nil⟩
    ·
      intro v1 e2
      have g3 : s0.1 0 0 = v1 := by rw [e2]
      show s0 = s0 ∧ (True)
      exact ⟨rfl, (trivial)⟩
def o_X10_refuse : List vg_I := [(0, .aload_n 0, 1, 0, 0, 0, 0), (1, .iload_n 1, 1, 0, 0, 0, 0), (2, .putfield 78, 3, 427, 10, 0, 0), (5, .iconst (-1), 1, 0, 0, 0, 0), (6, .ireturn, 1, 0, 0, 0, 0)]
set_option maxRecDepth 100000 in
set_option maxHeartbeats 4000000 in
theorem c_X10_refuse (l : Launch) (G : vg_G) (hp : vg_Hp G) : vg_Ct l G vg_sh r_X10_refuse := by
  refine vg_meth hp vg_sh_ok r_X10_refuse k_X10_refuse rfl (fun h => by cases h) o_X10_refuse [] false (by decide +kernel) (by decide +kernel) ⟨_, _, rfl, rfl⟩ (fun _ h => absurd h List.not_mem_nil) (fun h => by cases h) 600 ?_
  intro as s0 hpre
  obtain ⟨r, a1, rfl, hr, i0⟩ := hpre
  simp only [List.mem_cons, List.not_mem_nil, or_false] at hr
  rcases hr with rfl
  ·
    have zm1 : (Int32.ofInt (-1)).toInt = -1 := by decide
    refine ⟨Nat.le_of_ble_eq_true rfl, [], ?_, fun _ h => absurd h List.not_mem_nil⟩
    ·
      intro s1 e2
      have i3 : Iv s1 := Iv.u1 i0 e2 rfl
      have k4 : Kp s0 s1 := Kx.u1 Kx.rf e2 rfl
      show Iv s1 ∧ Kp s0 s1 ∧ ((Int32.ofInt (-1)).toInt = -1)
      exact ⟨i3, k4, (by first | trivial | omega | assumption)⟩
def o_X10_answer : List vg_I := [(0, .aload_n 0, 1, 0, 0, 0, 0), (1, .iconst 0, 1, 0, 0, 0, 0), (2, .putfield 78, 3, 427, 10, 0, 0), (5, .iload_n 1, 1, 0, 0, 0, 0), (6, .ireturn, 1, 0, 0, 0, 0)]
set_option maxRecDepth 100000 in
set_option maxHeartbeats 4000000 in
theorem c_X10_answer (l : Launch) (G : vg_G) (hp : vg_Hp G) : vg_Ct l G vg_sh r_X10_answer := by
  refine vg_meth hp vg_sh_ok r_X10_answer k_X10_answer rfl (fun h => by cases h) o_X10_answer [] false (by decide +kernel) (by decide +kernel) ⟨_, _, rfl, rfl⟩ (fun _ h => absurd h List.not_mem_nil) (fun h => by cases h) 600 ?_
  intro as s0 hpre
  obtain ⟨r, a1, rfl, hr, i0⟩ := hpre
  simp only [List.mem_cons, List.not_mem_nil, or_false] at hr
  rcases hr with rfl
  ·
    have z0 : (Int32.ofInt 0).toInt = 0 := by decide
    refine ⟨Nat.le_of_ble_eq_true rfl, [], ?_, fun _ h => absurd h List.not_mem_nil⟩
    ·
      intro s1 e2
      have i3 : Iv s1 := Iv.u1 i0 e2 rfl
      have k4 : Kp s0 s1 := Kx.u1 Kx.rf e2 rfl
      show Iv s1 ∧ Kp s0 s1 ∧ (a1 = a1 ∧ a1.toInt = a1.toInt)
      exact ⟨i3, k4, (by exact ⟨rfl, rfl⟩)⟩
def o_X10_answerLong : List vg_I := [(0, .aload_n 0, 1, 0, 0, 0, 0), (1, .iconst 0, 1, 0, 0, 0, 0), (2, .putfield 78, 3, 427, 10, 0, 0), (5, .lload_n 1, 1, 0, 0, 0, 0), (6, .lreturn, 1, 0, 0, 0, 0)]
set_option maxRecDepth 100000 in
set_option maxHeartbeats 4000000 in
theorem c_X10_answerLong (l : Launch) (G : vg_G) (hp : vg_Hp G) : vg_Ct l G vg_sh r_X10_answerLong := by
  refine vg_meth hp vg_sh_ok r_X10_answerLong k_X10_answerLong rfl (fun h => by cases h) o_X10_answerLong [] false (by decide +kernel) (by decide +kernel) ⟨_, _, rfl, rfl⟩ (fun _ h => absurd h List.not_mem_nil) (fun h => by cases h) 600 ?_
  intro as s0 hpre
  obtain ⟨r, a1, rfl, hr, i0⟩ := hpre
  simp only [List.mem_cons, List.not_mem_nil, or_false] at hr
  rcases hr with rfl
  ·
    have z0 : (Int32.ofInt 0).toInt = 0 := by decide
    refine ⟨Nat.le_of_ble_eq_true rfl, [], ?_, fun _ h => absurd h List.not_mem_nil⟩
    ·
      intro s1 e2
      have i3 : Iv s1 := Iv.u1 i0 e2 rfl
      have k4 : Kp s0 s1 := Kx.u1 Kx.rf e2 rfl
      show Iv s1 ∧ Kp s0 s1 ∧ (a1 = a1)
      exact ⟨i3, k4, (by first | trivial | omega | assumption)⟩
def o_X10_beginAnewFrom : List vg_I := [(0, .iload_n 1, 1, 0, 0, 0, 0), (1, .istore_n 2, 1, 0, 0, 0, 0), (2, .iload_n 2, 1, 0, 0, 0, 0), (3, .bipush 7, 2, 0, 0, 0, 0), (5, .if_icmp .ge 18, 3, 0, 0, 0, 0), (8, .aload_n 0, 1, 0, 0, 0, 0), (9, .getfield 52, 3, 436, 10, 9, 0), (12, .iload_n 2, 1, 0, 0, 0, 0), (13, .aaload, 1, 0, 0, 0, 0), (14, .invokevirtual 413, 3, 0, 4, 0, 492), (17, .iinc 2 1, 3, 0, 0, 0, 0), (20, .goto (-18), 3, 0, 0, 0, 0), (23, .iload_n 1, 1, 0, 0, 0, 0), (24, .iconst 1, 1, 0, 0, 0, 0), (25, .if_icmp .gt 10, 3, 0, 0, 0, 0), (28, .aload_n 0, 1, 0, 0, 0, 0), (29, .getfield 19, 3, 431, 10, 4, 0), (32, .invokevirtual 416, 3, 1, 5, 0, 496), (35, .iload_n 1, 1, 0, 0, 0, 0), (36, .iconst 2, 1, 0, 0, 0, 0), (37, .if_icmp .gt 10, 3, 0, 0, 0, 0), (40, .aload_n 0, 1, 0, 0, 0, 0), (41, .getfield 26, 3, 432, 10, 5, 0), (44, .invokevirtual 419, 3, 2, 2, 0, 503), (47, .iload_n 1, 1, 0, 0, 0, 0), (48, .iconst 3, 1, 0, 0, 0, 0), (49, .if_icmp .gt 10, 3, 0, 0, 0, 0), (52, .aload_n 0, 1, 0, 0, 0, 0), (53, .getfield 33, 3, 433, 10, 6, 0), (56, .invokevirtual 420, 3, 3, 1, 0, 508), (59, .iconst 0, 1, 0, 0, 0, 0), (60, .istore_n 2, 1, 0, 0, 0, 0), (61, .iload_n 2, 1, 0, 0, 0, 0), (62, .iconst 3, 1, 0, 0, 0, 0), (63, .if_icmp .ge 25, 3, 0, 0, 0, 0), (66, .iload_n 1, 1, 0, 0, 0, 0), (67, .iconst 4, 1, 0, 0, 0, 0), (68, .iload_n 2, 1, 0, 0, 0, 0), (69, .iadd, 1, 0, 0, 0, 0), (70, .if_icmp .gt 12, 3, 0, 0, 0, 0), (73, .aload_n 0, 1, 0, 0, 0, 0), (74, .getfield 46, 3, 435, 10, 8, 0), (77, .iload_n 2, 1, 0, 0, 0, 0), (78, .aaload, 1, 0, 0, 0, 0), (79, .invokevirtual 421, 3, 4, 3, 0, 515), (82, .iinc 2 1, 3, 0, 0, 0, 0), (85, .goto (-24), 3, 0, 0, 0, 0), (88, .return_, 1, 0, 0, 0, 0)]
set_option maxRecDepth 100000 in
set_option maxHeartbeats 4000000 in
theorem c_X10_beginAnewFrom (l : Launch) (G : vg_G) (hp : vg_Hp G) : vg_Ct l G vg_sh r_X10_beginAnewFrom := by
  refine vg_meth hp vg_sh_ok r_X10_beginAnewFrom k_X10_beginAnewFrom rfl (fun h => by cases h) o_X10_beginAnewFrom [r_X4_clear, r_X5_begin, r_X2_begin, r_X1_begin, r_X3_begin] false (by decide +kernel) (by decide +kernel) ⟨_, _, rfl, rfl⟩ (List.forall_mem_cons.mpr ⟨⟨c_X4_clear l G hp, Nat.le_of_ble_eq_true rfl, Nat.le_of_ble_eq_true rfl⟩, List.forall_mem_cons.mpr ⟨⟨c_X5_begin l G hp, Nat.le_of_ble_eq_true rfl, Nat.le_of_ble_eq_true rfl⟩, List.forall_mem_cons.mpr ⟨⟨c_X2_begin l G hp, Nat.le_of_ble_eq_true rfl, Nat.le_of_ble_eq_true rfl⟩, List.forall_mem_cons.mpr ⟨⟨c_X1_begin l G hp, Nat.le_of_ble_eq_true rfl, Nat.le_of_ble_eq_true rfl⟩, List.forall_mem_cons.mpr ⟨⟨c_X3_begin l G hp, Nat.le_of_ble_eq_true rfl, Nat.le_of_ble_eq_true rfl⟩, fun _ h => absurd h List.not_mem_nil⟩⟩⟩⟩⟩) (fun h => by cases h) 600 ?_
  intro as s0 hpre
  obtain ⟨r, a1, rfl, hr, i0, p0⟩ := hpre
  simp only [List.mem_cons, List.not_mem_nil, or_false] at hr
  rcases hr with rfl
  ·
    have z0 : (Int32.ofInt 0).toInt = 0 := by decide
    have z1 : (Int32.ofInt 1).toInt = 1 := by decide
    have z2 : (Int32.ofInt 2).toInt = 2 := by decide
    have z3 : (Int32.ofInt 3).toInt = 3 := by decide
    have z4 : (Int32.ofInt 4).toInt = 4 := by decide
    have z7 : (Int32.ofInt 7).toInt = 7 := by decide
    refine ⟨Nat.le_of_ble_eq_true rfl, [(2, [true, true, true], (fun L t => ∃ (x2 : Int32), L = [some (.ref 0), some (.int a1), some (.int x2)] ∧ (0 : Int) ≤ x2.toInt ∧ x2.toInt ≤ (7 : Int) ∧ Iv t ∧ Kp s0 t), (fun L _ => (10000000000000000 + (7 - (vg_li L 2).toInt) * 1000000000000).toNat)), (61, [true, true, true], (fun L t => ∃ (x2 : Int32), L = [some (.ref 0), some (.int a1), some (.int x2)] ∧ (0 : Int) ≤ x2.toInt ∧ x2.toInt ≤ (3 : Int) ∧ Iv t ∧ Kp s0 t), (fun L _ => (0 + (3 - (vg_li L 2).toInt) * 1000000000000).toNat))], ?_, List.forall_mem_cons.mpr ⟨?_, List.forall_mem_cons.mpr ⟨?_, fun _ h => absurd h List.not_mem_nil⟩⟩⟩
    ·
      exact ⟨rfl, ⟨a1, rfl, (by omega), (by omega), i0, Kx.rf⟩, trivial⟩
    ·
      intro L s4 hL
      obtain ⟨w1, rfl, b2, b3, i5, k6⟩ := hL
      refine And.intro (fun c7 => ?_) (fun c7 => ?_)
      · have c7 : (Int32.ofInt 7).toInt ≤ w1.toInt := c7
        refine And.intro (fun c8 => ?_) (fun c8 => ?_)
        · have c8 : (Int32.ofInt 1).toInt < a1.toInt := c8
          refine And.intro (fun c9 => ?_) (fun c9 => ?_)
          · have c9 : (Int32.ofInt 2).toInt < a1.toInt := c9
            refine And.intro (fun c10 => ?_) (fun c10 => ?_)
            · have c10 : (Int32.ofInt 3).toInt < a1.toInt := c10
              exact ⟨rfl, ⟨(Int32.ofInt 0), rfl, (by omega), (by omega), i5, k6⟩, (by show (0 + (3 - (Int32.ofInt 0).toInt) * 1000000000000).toNat < (10000000000000000 + (7 - w1.toInt) * 1000000000000).toNat; omega)⟩
            · have c10 : ¬ ((Int32.ofInt 3).toInt < a1.toInt) := c10
              refine And.intro (Nat.le_of_ble_eq_true rfl) (And.intro ⟨12, rfl, by decide, i5⟩ ?_)
              intro s12 h11
              have h11 : Iv s12 ∧ Kp s4 s12 ∧ (True) := h11
              have i13 := h11.1
              have k14 : Kp s0 s12 := Kx.tr k6 (h11.2.1)
              exact ⟨rfl, ⟨(Int32.ofInt 0), rfl, (by omega), (by omega), i13, k14⟩, (by show (0 + (3 - (Int32.ofInt 0).toInt) * 1000000000000).toNat < (10000000000000000 + (7 - w1.toInt) * 1000000000000).toNat; omega)⟩
          · have c9 : ¬ ((Int32.ofInt 2).toInt < a1.toInt) := c9
            refine And.intro (Nat.le_of_ble_eq_true rfl) (And.intro ⟨7, rfl, by decide, i5⟩ ?_)
            intro s16 h15
            have h15 : Iv s16 ∧ Kp s4 s16 ∧ (True) := h15
            have i17 := h15.1
            have k18 : Kp s0 s16 := Kx.tr k6 (h15.2.1)
            refine And.intro (fun c19 => ?_) (fun c19 => ?_)
            · have c19 : (Int32.ofInt 3).toInt < a1.toInt := c19
              exfalso
              omega
            · have c19 : ¬ ((Int32.ofInt 3).toInt < a1.toInt) := c19
              refine And.intro (Nat.le_of_ble_eq_true rfl) (And.intro ⟨12, rfl, by decide, i17⟩ ?_)
              intro s21 h20
              have h20 : Iv s21 ∧ Kp s16 s21 ∧ (True) := h20
              have i22 := h20.1
              have k23 : Kp s0 s21 := Kx.tr k18 (h20.2.1)
              exact ⟨rfl, ⟨(Int32.ofInt 0), rfl, (by omega), (by omega), i22, k23⟩, (by show (0 + (3 - (Int32.ofInt 0).toInt) * 1000000000000).toNat < (10000000000000000 + (7 - w1.toInt) * 1000000000000).toNat; omega)⟩
        · have c8 : ¬ ((Int32.ofInt 1).toInt < a1.toInt) := c8
          refine And.intro (Nat.le_of_ble_eq_true rfl) (And.intro ⟨3, rfl, by decide, i5⟩ ?_)
          intro s25 h24
          have h24 : Iv s25 ∧ Kp s4 s25 ∧ (True) := h24
          have i26 := h24.1
          have k27 : Kp s0 s25 := Kx.tr k6 (h24.2.1)
          refine And.intro (fun c28 => ?_) (fun c28 => ?_)
          · have c28 : (Int32.ofInt 2).toInt < a1.toInt := c28
            exfalso
            omega
          · have c28 : ¬ ((Int32.ofInt 2).toInt < a1.toInt) := c28
            refine And.intro (Nat.le_of_ble_eq_true rfl) (And.intro ⟨7, rfl, by decide, i26⟩ ?_)
            intro s30 h29
            have h29 : Iv s30 ∧ Kp s25 s30 ∧ (True) := h29
            have i31 := h29.1
            have k32 : Kp s0 s30 := Kx.tr k27 (h29.2.1)
            refine And.intro (fun c33 => ?_) (fun c33 => ?_)
            · have c33 : (Int32.ofInt 3).toInt < a1.toInt := c33
              exfalso
              omega
            · have c33 : ¬ ((Int32.ofInt 3).toInt < a1.toInt) := c33
              refine And.intro (Nat.le_of_ble_eq_true rfl) (And.intro ⟨12, rfl, by decide, i31⟩ ?_)
              intro s35 h34
              have h34 : Iv s35 ∧ Kp s30 s35 ∧ (True) := h34
              have i36 := h34.1
              have k37 : Kp s0 s35 := Kx.tr k32 (h34.2.1)
              exact ⟨rfl, ⟨(Int32.ofInt 0), rfl, (by omega), (by omega), i36, k37⟩, (by show (0 + (3 - (Int32.ofInt 0).toInt) * 1000000000000).toNat < (10000000000000000 + (7 - w1.toInt) * 1000000000000).toNat; omega)⟩
      · have c7 : ¬ ((Int32.ofInt 7).toInt ≤ w1.toInt) := c7
        refine And.intro rfl (And.intro ⟨by omega, by omega⟩ ?_)
        refine And.intro (fun c38 => ?_) ?_
        · have c38 : w1.toInt = (0) := c38
          refine And.intro (Nat.le_of_ble_eq_true rfl) (And.intro ⟨41, rfl, by decide, i5⟩ ?_)
          intro s40 h39
          have h39 : Iv s40 ∧ Kp s4 s40 ∧ (True) := h39
          have i41 := h39.1
          have k42 : Kp s0 s40 := Kx.tr k6 (h39.2.1)
          intro v43 e44
          have b45 := vg_add e44 (by omega) (by omega)
          exact ⟨rfl, ⟨v43, rfl, (by omega), (by omega), i41, k42⟩, (by show (10000000000000000 + (7 - v43.toInt) * 1000000000000).toNat < (10000000000000000 + (7 - w1.toInt) * 1000000000000).toNat; omega)⟩
        refine And.intro (fun c46 => ?_) ?_
        · have c46 : w1.toInt = (1) := c46
          refine And.intro (Nat.le_of_ble_eq_true rfl) (And.intro ⟨43, rfl, by decide, i5⟩ ?_)
          intro s48 h47
          have h47 : Iv s48 ∧ Kp s4 s48 ∧ (True) := h47
          have i49 := h47.1
          have k50 : Kp s0 s48 := Kx.tr k6 (h47.2.1)
          intro v51 e52
          have b53 := vg_add e52 (by omega) (by omega)
          exact ⟨rfl, ⟨v51, rfl, (by omega), (by omega), i49, k50⟩, (by show (10000000000000000 + (7 - v51.toInt) * 1000000000000).toNat < (10000000000000000 + (7 - w1.toInt) * 1000000000000).toNat; omega)⟩
        refine And.intro (fun c54 => ?_) ?_
        · have c54 : w1.toInt = (2) := c54
          refine And.intro (Nat.le_of_ble_eq_true rfl) (And.intro ⟨45, rfl, by decide, i5⟩ ?_)
          intro s56 h55
          have h55 : Iv s56 ∧ Kp s4 s56 ∧ (True) := h55
          have i57 := h55.1
          have k58 : Kp s0 s56 := Kx.tr k6 (h55.2.1)
          intro v59 e60
          have b61 := vg_add e60 (by omega) (by omega)
          exact ⟨rfl, ⟨v59, rfl, (by omega), (by omega), i57, k58⟩, (by show (10000000000000000 + (7 - v59.toInt) * 1000000000000).toNat < (10000000000000000 + (7 - w1.toInt) * 1000000000000).toNat; omega)⟩
        refine And.intro (fun c62 => ?_) ?_
        · have c62 : w1.toInt = (3) := c62
          refine And.intro (Nat.le_of_ble_eq_true rfl) (And.intro ⟨47, rfl, by decide, i5⟩ ?_)
          intro s64 h63
          have h63 : Iv s64 ∧ Kp s4 s64 ∧ (True) := h63
          have i65 := h63.1
          have k66 : Kp s0 s64 := Kx.tr k6 (h63.2.1)
          intro v67 e68
          have b69 := vg_add e68 (by omega) (by omega)
          exact ⟨rfl, ⟨v67, rfl, (by omega), (by omega), i65, k66⟩, (by show (10000000000000000 + (7 - v67.toInt) * 1000000000000).toNat < (10000000000000000 + (7 - w1.toInt) * 1000000000000).toNat; omega)⟩
        refine And.intro (fun c70 => ?_) ?_
        · have c70 : w1.toInt = (4) := c70
          refine And.intro (Nat.le_of_ble_eq_true rfl) (And.intro ⟨49, rfl, by decide, i5⟩ ?_)
          intro s72 h71
          have h71 : Iv s72 ∧ Kp s4 s72 ∧ (True) := h71
          have i73 := h71.1
          have k74 : Kp s0 s72 := Kx.tr k6 (h71.2.1)
          intro v75 e76
          have b77 := vg_add e76 (by omega) (by omega)
          exact ⟨rfl, ⟨v75, rfl, (by omega), (by omega), i73, k74⟩, (by show (10000000000000000 + (7 - v75.toInt) * 1000000000000).toNat < (10000000000000000 + (7 - w1.toInt) * 1000000000000).toNat; omega)⟩
        refine And.intro (fun c78 => ?_) ?_
        · have c78 : w1.toInt = (5) := c78
          refine And.intro (Nat.le_of_ble_eq_true rfl) (And.intro ⟨51, rfl, by decide, i5⟩ ?_)
          intro s80 h79
          have h79 : Iv s80 ∧ Kp s4 s80 ∧ (True) := h79
          have i81 := h79.1
          have k82 : Kp s0 s80 := Kx.tr k6 (h79.2.1)
          intro v83 e84
          have b85 := vg_add e84 (by omega) (by omega)
          exact ⟨rfl, ⟨v83, rfl, (by omega), (by omega), i81, k82⟩, (by show (10000000000000000 + (7 - v83.toInt) * 1000000000000).toNat < (10000000000000000 + (7 - w1.toInt) * 1000000000000).toNat; omega)⟩
        refine And.intro (fun c86 => ?_) ?_
        · have c86 : w1.toInt = (6) := c86
          refine And.intro (Nat.le_of_ble_eq_true rfl) (And.intro ⟨53, rfl, by decide, i5⟩ ?_)
          intro s88 h87
          have h87 : Iv s88 ∧ Kp s4 s88 ∧ (True) := h87
          have i89 := h87.1
          have k90 : Kp s0 s88 := Kx.tr k6 (h87.2.1)
          intro v91 e92
          have b93 := vg_add e92 (by omega) (by omega)
          exact ⟨rfl, ⟨v91, rfl, (by omega), (by omega), i89, k90⟩, (by show (10000000000000000 + (7 - v91.toInt) * 1000000000000).toNat < (10000000000000000 + (7 - w1.toInt) * 1000000000000).toNat; omega)⟩
        exact trivial
    ·
      intro L s97 hL
      obtain ⟨w94, rfl, b95, b96, i98, k99⟩ := hL
      refine And.intro (fun c100 => ?_) (fun c100 => ?_)
      · have c100 : (Int32.ofInt 3).toInt ≤ w94.toInt := c100
        show Iv s97 ∧ Kp s0 s97 ∧ (True)
        exact ⟨i98, k99, (trivial)⟩
      · have c100 : ¬ ((Int32.ofInt 3).toInt ≤ w94.toInt) := c100
        intro v101 e102
        have b103 := vg_add e102 (by omega) (by omega)
        refine And.intro (fun c104 => ?_) (fun c104 => ?_)
        · have c104 : v101.toInt < a1.toInt := c104
          intro v105 e106
          have b107 := vg_add e106 (by omega) (by omega)
          exact ⟨rfl, ⟨v105, rfl, (by omega), (by omega), i98, k99⟩, (by show (0 + (3 - v105.toInt) * 1000000000000).toNat < (0 + (3 - w94.toInt) * 1000000000000).toNat; omega)⟩
        · have c104 : ¬ (v101.toInt < a1.toInt) := c104
          refine And.intro rfl (And.intro ⟨by omega, by omega⟩ ?_)
          refine And.intro (fun c108 => ?_) ?_
          · have c108 : w94.toInt = (0) := c108
            refine And.intro (Nat.le_of_ble_eq_true rfl) (And.intro ⟨35, rfl, by decide, i98⟩ ?_)
            intro s110 h109
            have h109 : Iv s110 ∧ Kp s97 s110 ∧ (True) := h109
            have i111 := h109.1
            have k112 : Kp s0 s110 := Kx.tr k99 (h109.2.1)
            intro v113 e114
            have b115 := vg_add e114 (by omega) (by omega)
            exact ⟨rfl, ⟨v113, rfl, (by omega), (by omega), i111, k112⟩, (by show (0 + (3 - v113.toInt) * 1000000000000).toNat < (0 + (3 - w94.toInt) * 1000000000000).toNat; omega)⟩
          refine And.intro (fun c116 => ?_) ?_
          · have c116 : w94.toInt = (1) := c116
            refine And.intro (Nat.le_of_ble_eq_true rfl) (And.intro ⟨37, rfl, by decide, i98⟩ ?_)
            intro s118 h117
            have h117 : Iv s118 ∧ Kp s97 s118 ∧ (True) := h117
            have i119 := h117.1
            have k120 : Kp s0 s118 := Kx.tr k99 (h117.2.1)
            intro v121 e122
            have b123 := vg_add e122 (by omega) (by omega)
            exact ⟨rfl, ⟨v121, rfl, (by omega), (by omega), i119, k120⟩, (by show (0 + (3 - v121.toInt) * 1000000000000).toNat < (0 + (3 - w94.toInt) * 1000000000000).toNat; omega)⟩
          refine And.intro (fun c124 => ?_) ?_
          · have c124 : w94.toInt = (2) := c124
            refine And.intro (Nat.le_of_ble_eq_true rfl) (And.intro ⟨39, rfl, by decide, i98⟩ ?_)
            intro s126 h125
            have h125 : Iv s126 ∧ Kp s97 s126 ∧ (True) := h125
            have i127 := h125.1
            have k128 : Kp s0 s126 := Kx.tr k99 (h125.2.1)
            intro v129 e130
            have b131 := vg_add e130 (by omega) (by omega)
            exact ⟨rfl, ⟨v129, rfl, (by omega), (by omega), i127, k128⟩, (by show (0 + (3 - v129.toInt) * 1000000000000).toNat < (0 + (3 - w94.toInt) * 1000000000000).toNat; omega)⟩
          exact trivial
def o_X10_source : List vg_I := [(0, .iload_n 1, 1, 0, 0, 0, 0), (1, .iconst 0, 1, 0, 0, 0, 0), (2, .iconst 3, 1, 0, 0, 0, 0), (3, .invokestatic 82, 3, 0, 1, 3, 478), (6, .ifCond .eq 29, 3, 0, 0, 0, 0), (9, .iload_n 2, 1, 0, 0, 0, 0), (10, .invokestatic 86, 3, 1, 1, 1, 481), (13, .ifCond .eq 22, 3, 0, 0, 0, 0), (16, .iload_n 3, 1, 0, 0, 0, 0), (17, .invokestatic 86, 3, 1, 1, 1, 481), (20, .ifCond .eq 15, 3, 0, 0, 0, 0), (23, .iload 4, 2, 0, 0, 0, 0), (25, .iconst 1, 1, 0, 0, 0, 0), (26, .sipush 1000, 3, 0, 0, 0, 0), (29, .invokestatic 82, 3, 0, 1, 3, 478), (32, .ifCond .ne 9, 3, 0, 0, 0, 0), (35, .aload_n 0, 1, 0, 0, 0, 0), (36, .iconst 1, 1, 0, 0, 0, 0), (37, .invokevirtual 90, 3, 2, 10, 1, 484), (40, .ireturn, 1, 0, 0, 0, 0), (41, .aload_n 0, 1, 0, 0, 0, 0), (42, .getfield 10, 3, 430, 10, 3, 0), (45, .iload_n 1, 1, 0, 0, 0, 0), (46, .putfield 94, 3, 105, 7, 0, 0), (49, .aload_n 0, 1, 0, 0, 0, 0), (50, .getfield 10, 3, 430, 10, 3, 0), (53, .iload_n 2, 1, 0, 0, 0, 0), (54, .putfield 97, 3, 107, 7, 1, 0), (57, .aload_n 0, 1, 0, 0, 0, 0), (58, .getfield 10, 3, 430, 10, 3, 0), (61, .iload_n 3, 1, 0, 0, 0, 0), (62, .putfield 100, 3, 109, 7, 2, 0), (65, .aload_n 0, 1, 0, 0, 0, 0), (66, .getfield 10, 3, 430, 10, 3, 0), (69, .iload 4, 2, 0, 0, 0, 0), (71, .putfield 103, 3, 111, 7, 3, 0), (74, .aload_n 0, 1, 0, 0, 0, 0), (75, .iconst 0, 1, 0, 0, 0, 0), (76, .invokevirtual 106, 3, 3, 10, 1, 488), (79, .aload_n 0, 1, 0, 0, 0, 0), (80, .aload_n 0, 1, 0, 0, 0, 0), (81, .getfield 110, 3, 428, 10, 1, 0), (84, .invokevirtual 113, 3, 4, 10, 1, 520), (87, .ireturn, 1, 0, 0, 0, 0)]
set_option maxRecDepth 100000 in
set_option maxHeartbeats 4000000 in
theorem c_X10_source (l : Launch) (G : vg_G) (hp : vg_Hp G) : vg_Ct l G vg_sh r_X10_source := by
  refine vg_meth hp vg_sh_ok r_X10_source k_X10_source rfl (fun h => by cases h) o_X10_source [r_X10_within, r_X10_isNumber, r_X10_refuse, r_X10_beginAnewFrom, r_X10_answer] false (by decide +kernel) (by decide +kernel) ⟨_, _, rfl, rfl⟩ (List.forall_mem_cons.mpr ⟨⟨c_X10_within l G hp, Nat.le_of_ble_eq_true rfl, Nat.le_of_ble_eq_true rfl⟩, List.forall_mem_cons.mpr ⟨⟨c_X10_isNumber l G hp, Nat.le_of_ble_eq_true rfl, Nat.le_of_ble_eq_true rfl⟩, List.forall_mem_cons.mpr ⟨⟨c_X10_refuse l G hp, Nat.le_of_ble_eq_true rfl, Nat.le_of_ble_eq_true rfl⟩, List.forall_mem_cons.mpr ⟨⟨c_X10_beginAnewFrom l G hp, Nat.le_of_ble_eq_true rfl, Nat.le_of_ble_eq_true rfl⟩, List.forall_mem_cons.mpr ⟨⟨c_X10_answer l G hp, Nat.le_of_ble_eq_true rfl, Nat.le_of_ble_eq_true rfl⟩, fun _ h => absurd h List.not_mem_nil⟩⟩⟩⟩⟩) (fun h => by cases h) 600 ?_
  intro as s0 hpre
  obtain ⟨r, a1, a2, a3, a4, rfl, hr, i0⟩ := hpre
  simp only [List.mem_cons, List.not_mem_nil, or_false] at hr
  rcases hr with rfl
  ·
    have z0 : (Int32.ofInt 0).toInt = 0 := by decide
    have z1 : (Int32.ofInt 1).toInt = 1 := by decide
    have z3 : (Int32.ofInt 3).toInt = 3 := by decide
    have z1000 : (Int32.ofInt 1000).toInt = 1000 := by decide
    refine ⟨Nat.le_of_ble_eq_true rfl, [], ?_, fun _ h => absurd h List.not_mem_nil⟩
    ·
      refine And.intro (Nat.le_of_ble_eq_true rfl) (And.intro ⟨a1, (Int32.ofInt 0), (Int32.ofInt 3), rfl, trivial⟩ ?_)
      intro v1 s3 h2
      have h2 : s3 = s0 ∧ ((v1.toInt = 1 ∧ (Int32.ofInt 0).toInt ≤ a1.toInt ∧ a1.toInt ≤ (Int32.ofInt 3).toInt) ∨ (v1.toInt = 0 ∧ (a1.toInt < (Int32.ofInt 0).toInt ∨ (Int32.ofInt 3).toInt < a1.toInt))) := h2
      have q6 := h2.1.symm
      subst q6
      have q7 := h2.2
      refine And.intro (fun c8 => ?_) (fun c8 => ?_)
      · have c8 : v1.toInt = 0 := c8
        refine And.intro (Nat.le_of_ble_eq_true rfl) (And.intro ⟨0, (Int32.ofInt 1), rfl, by decide, i0⟩ ?_)
        intro v9 s11 h10
        have h10 : Iv s11 ∧ Kp s0 s11 ∧ (v9.toInt = -1) := h10
        have i12 := h10.1
        have k13 : Kp s0 s11 := Kx.tr Kx.rf (h10.2.1)
        have q14 := h10.2.2
        show Iv s11 ∧ Kp s0 s11 ∧ (((0 ≤ a1.toInt ∧ a1.toInt ≤ 3 ∧ -30000 ≤ a2.toInt ∧ a2.toInt ≤ 30000 ∧ -30000 ≤ a3.toInt ∧ a3.toInt ≤ 30000 ∧ 1 ≤ a4.toInt ∧ a4.toInt ≤ 1000) ∧ v9.toInt = (s0.1 0 1).toInt) ∨ (¬ (0 ≤ a1.toInt ∧ a1.toInt ≤ 3 ∧ -30000 ≤ a2.toInt ∧ a2.toInt ≤ 30000 ∧ -30000 ≤ a3.toInt ∧ a3.toInt ≤ 30000 ∧ 1 ≤ a4.toInt ∧ a4.toInt ≤ 1000) ∧ v9.toInt = -1))
        exact ⟨i12, k13, (by have h9 := congrArg Int32.toInt (k13.1 0 1 rfl); have h8 := congrArg Int32.toInt (h10.2.1.1 0 1 rfl); omega)⟩
      · have c8 : ¬ (v1.toInt = 0) := c8
        refine And.intro (Nat.le_of_ble_eq_true rfl) (And.intro ⟨a2, rfl, trivial⟩ ?_)
        intro v15 s17 h16
        have h16 : s17 = s0 ∧ ((v15.toInt = 1 ∧ -30000 ≤ a2.toInt ∧ a2.toInt ≤ 30000) ∨ (v15.toInt = 0 ∧ (a2.toInt < -30000 ∨ 30000 < a2.toInt))) := h16
        have q20 := h16.1.symm
        subst q20
        have q21 := h16.2
        refine And.intro (fun c22 => ?_) (fun c22 => ?_)
        · have c22 : v15.toInt = 0 := c22
          refine And.intro (Nat.le_of_ble_eq_true rfl) (And.intro ⟨0, (Int32.ofInt 1), rfl, by decide, i0⟩ ?_)
          intro v23 s25 h24
          have h24 : Iv s25 ∧ Kp s0 s25 ∧ (v23.toInt = -1) := h24
          have i26 := h24.1
          have k27 : Kp s0 s25 := Kx.tr Kx.rf (h24.2.1)
          have q28 := h24.2.2
          show Iv s25 ∧ Kp s0 s25 ∧ (((0 ≤ a1.toInt ∧ a1.toInt ≤ 3 ∧ -30000 ≤ a2.toInt ∧ a2.toInt ≤ 30000 ∧ -30000 ≤ a3.toInt ∧ a3.toInt ≤ 30000 ∧ 1 ≤ a4.toInt ∧ a4.toInt ≤ 1000) ∧ v23.toInt = (s0.1 0 1).toInt) ∨ (¬ (0 ≤ a1.toInt ∧ a1.toInt ≤ 3 ∧ -30000 ≤ a2.toInt ∧ a2.toInt ≤ 30000 ∧ -30000 ≤ a3.toInt ∧ a3.toInt ≤ 30000 ∧ 1 ≤ a4.toInt ∧ a4.toInt ≤ 1000) ∧ v23.toInt = -1))
          exact ⟨i26, k27, (by have h9 := congrArg Int32.toInt (k27.1 0 1 rfl); have h8 := congrArg Int32.toInt (h24.2.1.1 0 1 rfl); omega)⟩
        · have c22 : ¬ (v15.toInt = 0) := c22
          refine And.intro (Nat.le_of_ble_eq_true rfl) (And.intro ⟨a3, rfl, trivial⟩ ?_)
          intro v29 s31 h30
          have h30 : s31 = s0 ∧ ((v29.toInt = 1 ∧ -30000 ≤ a3.toInt ∧ a3.toInt ≤ 30000) ∨ (v29.toInt = 0 ∧ (a3.toInt < -30000 ∨ 30000 < a3.toInt))) := h30
          have q34 := h30.1.symm
          subst q34
          have q35 := h30.2
          refine And.intro (fun c36 => ?_) (fun c36 => ?_)
          · have c36 : v29.toInt = 0 := c36
            refine And.intro (Nat.le_of_ble_eq_true rfl) (And.intro ⟨0, (Int32.ofInt 1), rfl, by decide, i0⟩ ?_)
            intro v37 s39 h38
            have h38 : Iv s39 ∧ Kp s0 s39 ∧ (v37.toInt = -1) := h38
            have i40 := h38.1
            have k41 : Kp s0 s39 := Kx.tr Kx.rf (h38.2.1)
            have q42 := h38.2.2
            show Iv s39 ∧ Kp s0 s39 ∧ (((0 ≤ a1.toInt ∧ a1.toInt ≤ 3 ∧ -30000 ≤ a2.toInt ∧ a2.toInt ≤ 30000 ∧ -30000 ≤ a3.toInt ∧ a3.toInt ≤ 30000 ∧ 1 ≤ a4.toInt ∧ a4.toInt ≤ 1000) ∧ v37.toInt = (s0.1 0 1).toInt) ∨ (¬ (0 ≤ a1.toInt ∧ a1.toInt ≤ 3 ∧ -30000 ≤ a2.toInt ∧ a2.toInt ≤ 30000 ∧ -30000 ≤ a3.toInt ∧ a3.toInt ≤ 30000 ∧ 1 ≤ a4.toInt ∧ a4.toInt ≤ 1000) ∧ v37.toInt = -1))
            exact ⟨i40, k41, (by have h9 := congrArg Int32.toInt (k41.1 0 1 rfl); have h8 := congrArg Int32.toInt (h38.2.1.1 0 1 rfl); omega)⟩
          · have c36 : ¬ (v29.toInt = 0) := c36
            refine And.intro (Nat.le_of_ble_eq_true rfl) (And.intro ⟨a4, (Int32.ofInt 1), (Int32.ofInt 1000), rfl, trivial⟩ ?_)
            intro v43 s45 h44
            have h44 : s45 = s0 ∧ ((v43.toInt = 1 ∧ (Int32.ofInt 1).toInt ≤ a4.toInt ∧ a4.toInt ≤ (Int32.ofInt 1000).toInt) ∨ (v43.toInt = 0 ∧ (a4.toInt < (Int32.ofInt 1).toInt ∨ (Int32.ofInt 1000).toInt < a4.toInt))) := h44
            have q48 := h44.1.symm
            subst q48
            have q49 := h44.2
            refine And.intro (fun c50 => ?_) (fun c50 => ?_)
            · have c50 : ¬ v43.toInt = 0 := c50
              intro s51 e52
              have i53 : Iv s51 := Iv.u1 i0 e52 rfl
              have k54 : Kp s0 s51 := Kx.u1 Kx.rf e52 rfl
              intro s55 e56
              have i57 : Iv s55 := Iv.u1 i53 e56 rfl
              have k58 : Kp s0 s55 := Kx.u1 k54 e56 rfl
              intro s59 e60
              have i61 : Iv s59 := Iv.u1 i57 e60 rfl
              have k62 : Kp s0 s59 := Kx.u1 k58 e60 rfl
              intro s63 e64
              have i65 : Iv s63 := Iv.c1 (lo := 1) (hi := 1000) i61 e64 rfl (by omega) (by omega)
              have k66 : Kp s0 s63 := Kx.u1 k62 e64 rfl
              refine And.intro (Nat.le_of_ble_eq_true rfl) (And.intro ⟨0, (Int32.ofInt 0), rfl, by decide, i65, by omega⟩ ?_)
              intro s68 h67
              have h67 : Iv s68 ∧ Kp s63 s68 ∧ (True) := h67
              have i69 := h67.1
              have k70 : Kp s0 s68 := Kx.tr k66 (h67.2.1)
              intro v71 e72
              have g73 : s68.1 0 1 = v71 := by rw [e72]
              have b74 : v71.toInt = (s68.1 0 1).toInt := congrArg Int32.toInt e72
              refine And.intro (Nat.le_of_ble_eq_true rfl) (And.intro ⟨0, v71, rfl, by decide, i69⟩ ?_)
              intro v75 s77 h76
              have h76 : Iv s77 ∧ Kp s68 s77 ∧ (v75 = v71 ∧ v75.toInt = v71.toInt) := h76
              have i78 := h76.1
              have k79 : Kp s0 s77 := Kx.tr k70 (h76.2.1)
              have q80 := h76.2.2
              show Iv s77 ∧ Kp s0 s77 ∧ (((0 ≤ a1.toInt ∧ a1.toInt ≤ 3 ∧ -30000 ≤ a2.toInt ∧ a2.toInt ≤ 30000 ∧ -30000 ≤ a3.toInt ∧ a3.toInt ≤ 30000 ∧ 1 ≤ a4.toInt ∧ a4.toInt ≤ 1000) ∧ v75.toInt = (s0.1 0 1).toInt) ∨ (¬ (0 ≤ a1.toInt ∧ a1.toInt ≤ 3 ∧ -30000 ≤ a2.toInt ∧ a2.toInt ≤ 30000 ∧ -30000 ≤ a3.toInt ∧ a3.toInt ≤ 30000 ∧ 1 ≤ a4.toInt ∧ a4.toInt ≤ 1000) ∧ v75.toInt = -1))
              exact ⟨i78, k79, (by have h9 := congrArg Int32.toInt (k79.1 0 1 rfl); have h8 := congrArg Int32.toInt (h76.2.1.1 0 1 rfl); omega)⟩
            · have c50 : ¬ (¬ v43.toInt = 0) := c50
              refine And.intro (Nat.le_of_ble_eq_true rfl) (And.intro ⟨0, (Int32.ofInt 1), rfl, by decide, i0⟩ ?_)
              intro v81 s83 h82
              have h82 : Iv s83 ∧ Kp s0 s83 ∧ (v81.toInt = -1) := h82
              have i84 := h82.1
              have k85 : Kp s0 s83 := Kx.tr Kx.rf (h82.2.1)
              have q86 := h82.2.2
              show Iv s83 ∧ Kp s0 s83 ∧ (((0 ≤ a1.toInt ∧ a1.toInt ≤ 3 ∧ -30000 ≤ a2.toInt ∧ a2.toInt ≤ 30000 ∧ -30000 ≤ a3.toInt ∧ a3.toInt ≤ 30000 ∧ 1 ≤ a4.toInt ∧ a4.toInt ≤ 1000) ∧ v81.toInt = (s0.1 0 1).toInt) ∨ (¬ (0 ≤ a1.toInt ∧ a1.toInt ≤ 3 ∧ -30000 ≤ a2.toInt ∧ a2.toInt ≤ 30000 ∧ -30000 ≤ a3.toInt ∧ a3.toInt ≤ 30000 ∧ 1 ≤ a4.toInt ∧ a4.toInt ≤ 1000) ∧ v81.toInt = -1))
              exact ⟨i84, k85, (by have h9 := congrArg Int32.toInt (k85.1 0 1 rfl); have h8 := congrArg Int32.toInt (h82.2.1.1 0 1 rfl); omega)⟩
def o_X10_sample : List vg_I := [(0, .iload_n 1, 1, 0, 0, 0, 0), (1, .iconst 0, 1, 0, 0, 0, 0), (2, .bipush 15, 2, 0, 0, 0, 0), (4, .invokestatic 82, 3, 0, 1, 3, 478), (7, .ifCond .ne 9, 3, 0, 0, 0, 0), (10, .aload_n 0, 1, 0, 0, 0, 0), (11, .iconst 1, 1, 0, 0, 0, 0), (12, .invokevirtual 90, 3, 1, 10, 1, 484), (15, .ireturn, 1, 0, 0, 0, 0), (16, .aload_n 0, 1, 0, 0, 0, 0), (17, .getfield 10, 3, 430, 10, 3, 0), (20, .getfield 116, 3, 113, 7, 4, 0), (23, .iload_n 1, 1, 0, 0, 0, 0), (24, .iaload, 1, 0, 0, 0, 0), (25, .istore_n 3, 1, 0, 0, 0, 0), (26, .aload_n 0, 1, 0, 0, 0, 0), (27, .getfield 10, 3, 430, 10, 3, 0), (30, .getfield 116, 3, 113, 7, 4, 0), (33, .iload_n 1, 1, 0, 0, 0, 0), (34, .iload_n 2, 1, 0, 0, 0, 0), (35, .iastore, 1, 0, 0, 0, 0), (36, .aload_n 0, 1, 0, 0, 0, 0), (37, .iload_n 3, 1, 0, 0, 0, 0), (38, .invokevirtual 113, 3, 2, 10, 1, 520), (41, .ireturn, 1, 0, 0, 0, 0)]
set_option maxRecDepth 100000 in
set_option maxHeartbeats 4000000 in
theorem c_X10_sample (l : Launch) (G : vg_G) (hp : vg_Hp G) : vg_Ct l G vg_sh r_X10_sample := by
  refine vg_meth hp vg_sh_ok r_X10_sample k_X10_sample rfl (fun h => by cases h) o_X10_sample [r_X10_within, r_X10_refuse, r_X10_answer] false (by decide +kernel) (by decide +kernel) ⟨_, _, rfl, rfl⟩ (List.forall_mem_cons.mpr ⟨⟨c_X10_within l G hp, Nat.le_of_ble_eq_true rfl, Nat.le_of_ble_eq_true rfl⟩, List.forall_mem_cons.mpr ⟨⟨c_X10_refuse l G hp, Nat.le_of_ble_eq_true rfl, Nat.le_of_ble_eq_true rfl⟩, List.forall_mem_cons.mpr ⟨⟨c_X10_answer l G hp, Nat.le_of_ble_eq_true rfl, Nat.le_of_ble_eq_true rfl⟩, fun _ h => absurd h List.not_mem_nil⟩⟩⟩) (fun h => by cases h) 600 ?_
  intro as s0 hpre
  obtain ⟨r, a1, a2, rfl, hr, i0⟩ := hpre
  simp only [List.mem_cons, List.not_mem_nil, or_false] at hr
  rcases hr with rfl
  ·
    have z0 : (Int32.ofInt 0).toInt = 0 := by decide
    have z1 : (Int32.ofInt 1).toInt = 1 := by decide
    have z15 : (Int32.ofInt 15).toInt = 15 := by decide
    refine ⟨Nat.le_of_ble_eq_true rfl, [], ?_, fun _ h => absurd h List.not_mem_nil⟩
    ·
      refine And.intro (Nat.le_of_ble_eq_true rfl) (And.intro ⟨a1, (Int32.ofInt 0), (Int32.ofInt 15), rfl, trivial⟩ ?_)
      intro v1 s3 h2
      have h2 : s3 = s0 ∧ ((v1.toInt = 1 ∧ (Int32.ofInt 0).toInt ≤ a1.toInt ∧ a1.toInt ≤ (Int32.ofInt 15).toInt) ∨ (v1.toInt = 0 ∧ (a1.toInt < (Int32.ofInt 0).toInt ∨ (Int32.ofInt 15).toInt < a1.toInt))) := h2
      have q6 := h2.1.symm
      subst q6
      have q7 := h2.2
      refine And.intro (fun c8 => ?_) (fun c8 => ?_)
      · have c8 : ¬ v1.toInt = 0 := c8
        refine And.intro ⟨by omega, by omega⟩ ?_
        intro v9 e10
        refine And.intro ⟨by omega, by omega⟩ ?_
        intro s11 e12
        have i13 : Iv s11 := Iv.a1 i0 e12 rfl
        have k14 : Kp s0 s11 := Kx.u1 Kx.rf e12 rfl
        refine And.intro (Nat.le_of_ble_eq_true rfl) (And.intro ⟨0, v9, rfl, by decide, i13⟩ ?_)
        intro v15 s17 h16
        have h16 : Iv s17 ∧ Kp s11 s17 ∧ (v15 = v9 ∧ v15.toInt = v9.toInt) := h16
        have i18 := h16.1
        have k19 : Kp s0 s17 := Kx.tr k14 (h16.2.1)
        have q20 := h16.2.2
        show Iv s17 ∧ Kp s0 s17 ∧ (True)
        exact ⟨i18, k19, (trivial)⟩
      · have c8 : ¬ (¬ v1.toInt = 0) := c8
        refine And.intro (Nat.le_of_ble_eq_true rfl) (And.intro ⟨0, (Int32.ofInt 1), rfl, by decide, i0⟩ ?_)
        intro v21 s23 h22
        have h22 : Iv s23 ∧ Kp s0 s23 ∧ (v21.toInt = -1) := h22
        have i24 := h22.1
        have k25 : Kp s0 s23 := Kx.tr Kx.rf (h22.2.1)
        have q26 := h22.2.2
        show Iv s23 ∧ Kp s0 s23 ∧ (True)
        exact ⟨i24, k25, (trivial)⟩
def o_X10_loop : List vg_I := [(0, .iload_n 1, 1, 0, 0, 0, 0), (1, .iconst 0, 1, 0, 0, 0, 0), (2, .iconst 2, 1, 0, 0, 0, 0), (3, .invokestatic 82, 3, 0, 1, 3, 478), (6, .ifCond .eq 45, 3, 0, 0, 0, 0), (9, .iload_n 2, 1, 0, 0, 0, 0), (10, .iconst 1, 1, 0, 0, 0, 0), (11, .iconst 4, 1, 0, 0, 0, 0), (12, .invokestatic 82, 3, 0, 1, 3, 478), (15, .ifCond .eq 36, 3, 0, 0, 0, 0), (18, .iload_n 3, 1, 0, 0, 0, 0), (19, .iconst 1, 1, 0, 0, 0, 0), (20, .sipush 5000, 3, 0, 0, 0, 0), (23, .invokestatic 82, 3, 0, 1, 3, 478), (26, .ifCond .eq 25, 3, 0, 0, 0, 0), (29, .iload 4, 2, 0, 0, 0, 0), (31, .iconst 2, 1, 0, 0, 0, 0), (32, .bipush 17, 2, 0, 0, 0, 0), (34, .invokestatic 82, 3, 0, 1, 3, 478), (37, .ifCond .eq 14, 3, 0, 0, 0, 0), (40, .iload 5, 2, 0, 0, 0, 0), (42, .iconst 1, 1, 0, 0, 0, 0), (43, .ldc 122, 2, 532, 0, 0, 60000), (45, .invokestatic 82, 3, 0, 1, 3, 478), (48, .ifCond .ne 9, 3, 0, 0, 0, 0), (51, .aload_n 0, 1, 0, 0, 0, 0), (52, .iconst 1, 1, 0, 0, 0, 0), (53, .invokevirtual 90, 3, 1, 10, 1, 484), (56, .ireturn, 1, 0, 0, 0, 0), (57, .iload_n 1, 1, 0, 0, 0, 0), (58, .iload_n 2, 1, 0, 0, 0, 0), (59, .iload 4, 2, 0, 0, 0, 0), (61, .invokestatic 123, 3, 2, 1, 3, 533), (64, .bipush 16, 2, 0, 0, 0, 0), (66, .if_icmp .le 9, 3, 0, 0, 0, 0), (69, .aload_n 0, 1, 0, 0, 0, 0), (70, .iconst 1, 1, 0, 0, 0, 0), (71, .invokevirtual 90, 3, 1, 10, 1, 484), (74, .ireturn, 1, 0, 0, 0, 0), (75, .aload_n 0, 1, 0, 0, 0, 0), (76, .getfield 19, 3, 431, 10, 4, 0), (79, .getfield 127, 3, 179, 5, 0, 0), (82, .astore 7, 2, 0, 0, 0, 0), (84, .aload 7, 2, 0, 0, 0, 0), (86, .iload_n 1, 1, 0, 0, 0, 0), (87, .putfield 131, 3, 140, 6, 0, 0), (90, .aload 7, 2, 0, 0, 0, 0), (92, .iload_n 2, 1, 0, 0, 0, 0), (93, .putfield 132, 3, 143, 6, 1, 0), (96, .aload 7, 2, 0, 0, 0, 0), (98, .iload_n 3, 1, 0, 0, 0, 0), (99, .putfield 135, 3, 146, 6, 2, 0), (102, .aload 7, 2, 0, 0, 0, 0), (104, .iload 4, 2, 0, 0, 0, 0), (106, .putfield 138, 3, 148, 6, 3, 0), (109, .aload 7, 2, 0, 0, 0, 0), (111, .iload 5, 2, 0, 0, 0, 0), (113, .putfield 141, 3, 150, 6, 4, 0), (116, .aload 7, 2, 0, 0, 0, 0), (118, .iload 6, 2, 0, 0, 0, 0), (120, .putfield 144, 3, 153, 6, 5, 1), (123, .aload_n 0, 1, 0, 0, 0, 0), (124, .getfield 26, 3, 432, 10, 5, 0), (127, .iload_n 1, 1, 0, 0, 0, 0), (128, .iload_n 2, 1, 0, 0, 0, 0), (129, .iload 4, 2, 0, 0, 0, 0), (131, .invokestatic 123, 3, 2, 1, 3, 533), (134, .putfield 148, 3, 240, 2, 0, 0), (137, .aload_n 0, 1, 0, 0, 0, 0), (138, .getfield 59, 3, 437, 10, 10, 0), (141, .invokevirtual 151, 3, 3, 0, 0, 536), (144, .aload_n 0, 1, 0, 0, 0, 0), (145, .iconst 1, 1, 0, 0, 0, 0), (146, .invokevirtual 106, 3, 4, 10, 1, 488), (149, .aload_n 0, 1, 0, 0, 0, 0), (150, .aload_n 0, 1, 0, 0, 0, 0), (151, .getfield 26, 3, 432, 10, 5, 0), (154, .getfield 148, 3, 240, 2, 0, 0), (157, .invokevirtual 113, 3, 5, 10, 1, 520), (160, .ireturn, 1, 0, 0, 0, 0)]
set_option maxRecDepth 100000 in
set_option maxHeartbeats 4000000 in
theorem c_X10_loop (l : Launch) (G : vg_G) (hp : vg_Hp G) : vg_Ct l G vg_sh r_X10_loop := by
  refine vg_meth hp vg_sh_ok r_X10_loop k_X10_loop rfl (fun h => by cases h) o_X10_loop [r_X10_within, r_X10_refuse, r_X6_elementsOf, r_X0_forget, r_X10_beginAnewFrom, r_X10_answer] false (by decide +kernel) (by decide +kernel) ⟨_, _, rfl, rfl⟩ (List.forall_mem_cons.mpr ⟨⟨c_X10_within l G hp, Nat.le_of_ble_eq_true rfl, Nat.le_of_ble_eq_true rfl⟩, List.forall_mem_cons.mpr ⟨⟨c_X10_refuse l G hp, Nat.le_of_ble_eq_true rfl, Nat.le_of_ble_eq_true rfl⟩, List.forall_mem_cons.mpr ⟨⟨c_X6_elementsOf l G hp, Nat.le_of_ble_eq_true rfl, Nat.le_of_ble_eq_true rfl⟩, List.forall_mem_cons.mpr ⟨⟨c_X0_forget l G hp, Nat.le_of_ble_eq_true rfl, Nat.le_of_ble_eq_true rfl⟩, List.forall_mem_cons.mpr ⟨⟨c_X10_beginAnewFrom l G hp, Nat.le_of_ble_eq_true rfl, Nat.le_of_ble_eq_true rfl⟩, List.forall_mem_cons.mpr ⟨⟨c_X10_answer l G hp, Nat.le_of_ble_eq_true rfl, Nat.le_of_ble_eq_true rfl⟩, fun _ h => absurd h List.not_mem_nil⟩⟩⟩⟩⟩⟩) (fun h => by cases h) 600 ?_
  intro as s0 hpre
  obtain ⟨r, a1, a2, a3, a4, a5, a6, rfl, hr, i0, p0⟩ := hpre
  simp only [List.mem_cons, List.not_mem_nil, or_false] at hr
  rcases hr with rfl
  ·
    have z0 : (Int32.ofInt 0).toInt = 0 := by decide
    have z1 : (Int32.ofInt 1).toInt = 1 := by decide
    have z2 : (Int32.ofInt 2).toInt = 2 := by decide
    have z4 : (Int32.ofInt 4).toInt = 4 := by decide
    have z16 : (Int32.ofInt 16).toInt = 16 := by decide
    have z17 : (Int32.ofInt 17).toInt = 17 := by decide
    have z5000 : (Int32.ofInt 5000).toInt = 5000 := by decide
    have z60000 : (Int32.ofInt 60000).toInt = 60000 := by decide
    refine ⟨Nat.le_of_ble_eq_true rfl, [], ?_, fun _ h => absurd h List.not_mem_nil⟩
    ·
      refine And.intro (Nat.le_of_ble_eq_true rfl) (And.intro ⟨a1, (Int32.ofInt 0), (Int32.ofInt 2), rfl, trivial⟩ ?_)
      intro v1 s3 h2
      have h2 : s3 = s0 ∧ ((v1.toInt = 1 ∧ (Int32.ofInt 0).toInt ≤ a1.toInt ∧ a1.toInt ≤ (Int32.ofInt 2).toInt) ∨ (v1.toInt = 0 ∧ (a1.toInt < (Int32.ofInt 0).toInt ∨ (Int32.ofInt 2).toInt < a1.toInt))) := h2
      have q6 := h2.1.symm
      subst q6
      have q7 := h2.2
      refine And.intro (fun c8 => ?_) (fun c8 => ?_)
      · have c8 : v1.toInt = 0 := c8
        refine And.intro (Nat.le_of_ble_eq_true rfl) (And.intro ⟨0, (Int32.ofInt 1), rfl, by decide, i0⟩ ?_)
        intro v9 s11 h10
        have h10 : Iv s11 ∧ Kp s0 s11 ∧ (v9.toInt = -1) := h10
        have i12 := h10.1
        have k13 : K_X10_loop s0 s11 := Kx.tr Kx.rf ((h10.2.1).px)
        have q14 := h10.2.2
        show Iv s11 ∧ K_X10_loop s0 s11 ∧ (((0 ≤ a1.toInt ∧ a1.toInt ≤ 2 ∧ 1 ≤ a2.toInt ∧ a2.toInt ≤ 4 ∧ 1 ≤ a3.toInt ∧ a3.toInt ≤ 5000 ∧ 2 ≤ a4.toInt ∧ a4.toInt ≤ 17 ∧ 1 ≤ a5.toInt ∧ a5.toInt ≤ 60000 ∧ (vg_eo a1 a2 a4).toInt ≤ 16) ∧ v9.toInt = (vg_eo a1 a2 a4).toInt ∧ (s11.1 7 0).toInt = (vg_eo a1 a2 a4).toInt ∧ (s11.1 20 1).toInt = 0) ∨ (¬ (0 ≤ a1.toInt ∧ a1.toInt ≤ 2 ∧ 1 ≤ a2.toInt ∧ a2.toInt ≤ 4 ∧ 1 ≤ a3.toInt ∧ a3.toInt ≤ 5000 ∧ 2 ≤ a4.toInt ∧ a4.toInt ≤ 17 ∧ 1 ≤ a5.toInt ∧ a5.toInt ≤ 60000 ∧ (vg_eo a1 a2 a4).toInt ≤ 16) ∧ v9.toInt = -1 ∧ (s11.1 7 0).toInt = (s0.1 7 0).toInt ∧ (s11.1 20 1).toInt = (s0.1 20 1).toInt))
        exact ⟨i12, k13, (by first | exact Or.inl ⟨by omega, by omega, by rw [none]; omega, None⟩ | exact Or.inr ⟨by omega, by omega, congrArg Int32.toInt (h10.2.1.1 7 0 rfl), congrArg Int32.toInt (h10.2.1.1 20 1 rfl)⟩)⟩
      · have c8 : ¬ (v1.toInt = 0) := c8
        refine And.intro (Nat.le_of_ble_eq_true rfl) (And.intro ⟨a2, (Int32.ofInt 1), (Int32.ofInt 4), rfl, trivial⟩ ?_)
        intro v15 s17 h16
        have h16 : s17 = s0 ∧ ((v15.toInt = 1 ∧ (Int32.ofInt 1).toInt ≤ a2.toInt ∧ a2.toInt ≤ (Int32.ofInt 4).toInt) ∨ (v15.toInt = 0 ∧ (a2.toInt < (Int32.ofInt 1).toInt ∨ (Int32.ofInt 4).toInt < a2.toInt))) := h16
        have q20 := h16.1.symm
        subst q20
        have q21 := h16.2
        refine And.intro (fun c22 => ?_) (fun c22 => ?_)
        · have c22 : v15.toInt = 0 := c22
          refine And.intro (Nat.le_of_ble_eq_true rfl) (And.intro ⟨0, (Int32.ofInt 1), rfl, by decide, i0⟩ ?_)
          intro v23 s25 h24
          have h24 : Iv s25 ∧ Kp s0 s25 ∧ (v23.toInt = -1) := h24
          have i26 := h24.1
          have k27 : K_X10_loop s0 s25 := Kx.tr Kx.rf ((h24.2.1).px)
          have q28 := h24.2.2
          show Iv s25 ∧ K_X10_loop s0 s25 ∧ (((0 ≤ a1.toInt ∧ a1.toInt ≤ 2 ∧ 1 ≤ a2.toInt ∧ a2.toInt ≤ 4 ∧ 1 ≤ a3.toInt ∧ a3.toInt ≤ 5000 ∧ 2 ≤ a4.toInt ∧ a4.toInt ≤ 17 ∧ 1 ≤ a5.toInt ∧ a5.toInt ≤ 60000 ∧ (vg_eo a1 a2 a4).toInt ≤ 16) ∧ v23.toInt = (vg_eo a1 a2 a4).toInt ∧ (s25.1 7 0).toInt = (vg_eo a1 a2 a4).toInt ∧ (s25.1 20 1).toInt = 0) ∨ (¬ (0 ≤ a1.toInt ∧ a1.toInt ≤ 2 ∧ 1 ≤ a2.toInt ∧ a2.toInt ≤ 4 ∧ 1 ≤ a3.toInt ∧ a3.toInt ≤ 5000 ∧ 2 ≤ a4.toInt ∧ a4.toInt ≤ 17 ∧ 1 ≤ a5.toInt ∧ a5.toInt ≤ 60000 ∧ (vg_eo a1 a2 a4).toInt ≤ 16) ∧ v23.toInt = -1 ∧ (s25.1 7 0).toInt = (s0.1 7 0).toInt ∧ (s25.1 20 1).toInt = (s0.1 20 1).toInt))
          exact ⟨i26, k27, (by first | exact Or.inl ⟨by omega, by omega, by rw [none]; omega, None⟩ | exact Or.inr ⟨by omega, by omega, congrArg Int32.toInt (h24.2.1.1 7 0 rfl), congrArg Int32.toInt (h24.2.1.1 20 1 rfl)⟩)⟩
        · have c22 : ¬ (v15.toInt = 0) := c22
          refine And.intro (Nat.le_of_ble_eq_true rfl) (And.intro ⟨a3, (Int32.ofInt 1), (Int32.ofInt 5000), rfl, trivial⟩ ?_)
          intro v29 s31 h30
          have h30 : s31 = s0 ∧ ((v29.toInt = 1 ∧ (Int32.ofInt 1).toInt ≤ a3.toInt ∧ a3.toInt ≤ (Int32.ofInt 5000).toInt) ∨ (v29.toInt = 0 ∧ (a3.toInt < (Int32.ofInt 1).toInt ∨ (Int32.ofInt 5000).toInt < a3.toInt))) := h30
          have q34 := h30.1.symm
          subst q34
          have q35 := h30.2
          refine And.intro (fun c36 => ?_) (fun c36 => ?_)
          · have c36 : v29.toInt = 0 := c36
            refine And.intro (Nat.le_of_ble_eq_true rfl) (And.intro ⟨0, (Int32.ofInt 1), rfl, by decide, i0⟩ ?_)
            intro v37 s39 h38
            have h38 : Iv s39 ∧ Kp s0 s39 ∧ (v37.toInt = -1) := h38
            have i40 := h38.1
            have k41 : K_X10_loop s0 s39 := Kx.tr Kx.rf ((h38.2.1).px)
            have q42 := h38.2.2
            show Iv s39 ∧ K_X10_loop s0 s39 ∧ (((0 ≤ a1.toInt ∧ a1.toInt ≤ 2 ∧ 1 ≤ a2.toInt ∧ a2.toInt ≤ 4 ∧ 1 ≤ a3.toInt ∧ a3.toInt ≤ 5000 ∧ 2 ≤ a4.toInt ∧ a4.toInt ≤ 17 ∧ 1 ≤ a5.toInt ∧ a5.toInt ≤ 60000 ∧ (vg_eo a1 a2 a4).toInt ≤ 16) ∧ v37.toInt = (vg_eo a1 a2 a4).toInt ∧ (s39.1 7 0).toInt = (vg_eo a1 a2 a4).toInt ∧ (s39.1 20 1).toInt = 0) ∨ (¬ (0 ≤ a1.toInt ∧ a1.toInt ≤ 2 ∧ 1 ≤ a2.toInt ∧ a2.toInt ≤ 4 ∧ 1 ≤ a3.toInt ∧ a3.toInt ≤ 5000 ∧ 2 ≤ a4.toInt ∧ a4.toInt ≤ 17 ∧ 1 ≤ a5.toInt ∧ a5.toInt ≤ 60000 ∧ (vg_eo a1 a2 a4).toInt ≤ 16) ∧ v37.toInt = -1 ∧ (s39.1 7 0).toInt = (s0.1 7 0).toInt ∧ (s39.1 20 1).toInt = (s0.1 20 1).toInt))
            exact ⟨i40, k41, (by first | exact Or.inl ⟨by omega, by omega, by rw [none]; omega, None⟩ | exact Or.inr ⟨by omega, by omega, congrArg Int32.toInt (h38.2.1.1 7 0 rfl), congrArg Int32.toInt (h38.2.1.1 20 1 rfl)⟩)⟩
          · have c36 : ¬ (v29.toInt = 0) := c36
            refine And.intro (Nat.le_of_ble_eq_true rfl) (And.intro ⟨a4, (Int32.ofInt 2), (Int32.ofInt 17), rfl, trivial⟩ ?_)
            intro v43 s45 h44
            have h44 : s45 = s0 ∧ ((v43.toInt = 1 ∧ (Int32.ofInt 2).toInt ≤ a4.toInt ∧ a4.toInt ≤ (Int32.ofInt 17).toInt) ∨ (v43.toInt = 0 ∧ (a4.toInt < (Int32.ofInt 2).toInt ∨ (Int32.ofInt 17).toInt < a4.toInt))) := h44
            have q48 := h44.1.symm
            subst q48
            have q49 := h44.2
            refine And.intro (fun c50 => ?_) (fun c50 => ?_)
            · have c50 : v43.toInt = 0 := c50
              refine And.intro (Nat.le_of_ble_eq_true rfl) (And.intro ⟨0, (Int32.ofInt 1), rfl, by decide, i0⟩ ?_)
              intro v51 s53 h52
              have h52 : Iv s53 ∧ Kp s0 s53 ∧ (v51.toInt = -1) := h52
              have i54 := h52.1
              have k55 : K_X10_loop s0 s53 := Kx.tr Kx.rf ((h52.2.1).px)
              have q56 := h52.2.2
              show Iv s53 ∧ K_X10_loop s0 s53 ∧ (((0 ≤ a1.toInt ∧ a1.toInt ≤ 2 ∧ 1 ≤ a2.toInt ∧ a2.toInt ≤ 4 ∧ 1 ≤ a3.toInt ∧ a3.toInt ≤ 5000 ∧ 2 ≤ a4.toInt ∧ a4.toInt ≤ 17 ∧ 1 ≤ a5.toInt ∧ a5.toInt ≤ 60000 ∧ (vg_eo a1 a2 a4).toInt ≤ 16) ∧ v51.toInt = (vg_eo a1 a2 a4).toInt ∧ (s53.1 7 0).toInt = (vg_eo a1 a2 a4).toInt ∧ (s53.1 20 1).toInt = 0) ∨ (¬ (0 ≤ a1.toInt ∧ a1.toInt ≤ 2 ∧ 1 ≤ a2.toInt ∧ a2.toInt ≤ 4 ∧ 1 ≤ a3.toInt ∧ a3.toInt ≤ 5000 ∧ 2 ≤ a4.toInt ∧ a4.toInt ≤ 17 ∧ 1 ≤ a5.toInt ∧ a5.toInt ≤ 60000 ∧ (vg_eo a1 a2 a4).toInt ≤ 16) ∧ v51.toInt = -1 ∧ (s53.1 7 0).toInt = (s0.1 7 0).toInt ∧ (s53.1 20 1).toInt = (s0.1 20 1).toInt))
              exact ⟨i54, k55, (by first | exact Or.inl ⟨by omega, by omega, by rw [none]; omega, None⟩ | exact Or.inr ⟨by omega, by omega, congrArg Int32.toInt (h52.2.1.1 7 0 rfl), congrArg Int32.toInt (h52.2.1.1 20 1 rfl)⟩)⟩
            · have c50 : ¬ (v43.toInt = 0) := c50
              refine And.intro (Nat.le_of_ble_eq_true rfl) (And.intro ⟨a5, (Int32.ofInt 1), (Int32.ofInt 60000), rfl, trivial⟩ ?_)
              intro v57 s59 h58
              have h58 : s59 = s0 ∧ ((v57.toInt = 1 ∧ (Int32.ofInt 1).toInt ≤ a5.toInt ∧ a5.toInt ≤ (Int32.ofInt 60000).toInt) ∨ (v57.toInt = 0 ∧ (a5.toInt < (Int32.ofInt 1).toInt ∨ (Int32.ofInt 60000).toInt < a5.toInt))) := h58
              have q62 := h58.1.symm
              subst q62
              have q63 := h58.2
              refine And.intro (fun c64 => ?_) (fun c64 => ?_)
              · have c64 : ¬ v57.toInt = 0 := c64
                refine And.intro (Nat.le_of_ble_eq_true rfl) (And.intro ⟨a1, a2, a4, rfl, by omega⟩ ?_)
                intro v65 s67 h66
                have h66 : s67 = s0 ∧ (v65.toInt = (vg_eo a1 a2 a4).toInt ∧ 1 ≤ v65.toInt ∧ v65.toInt ≤ 240) := h66
                have q70 := h66.1.symm
                subst q70
                have q71 := h66.2
                refine And.intro (fun c72 => ?_) (fun c72 => ?_)
                · have c72 : v65.toInt ≤ (Int32.ofInt 16).toInt := c72
                  intro s73 e74
                  have i75 : Iv s73 := Iv.u1 i0 e74 rfl
                  have k76 : K_X10_loop s0 s73 := Kx.u1 Kx.rf e74 rfl
                  intro s77 e78
                  have i79 : Iv s77 := Iv.c1 (lo := 1) (hi := 4) i75 e78 rfl (by omega) (by omega)
                  have k80 : K_X10_loop s0 s77 := Kx.u1 k76 e78 rfl
                  intro s81 e82
                  have i83 : Iv s81 := Iv.c1 (lo := 1) (hi := 5000) i79 e82 rfl (by omega) (by omega)
                  have k84 : K_X10_loop s0 s81 := Kx.u1 k80 e82 rfl
                  intro s85 e86
                  have i87 : Iv s85 := Iv.c1 (lo := 2) (hi := 17) i83 e86 rfl (by omega) (by omega)
                  have k88 : K_X10_loop s0 s85 := Kx.u1 k84 e86 rfl
                  intro s89 e90
                  have i91 : Iv s89 := Iv.c1 (lo := 1) (hi := 60000) i87 e90 rfl (by omega) (by omega)
                  have k92 : K_X10_loop s0 s89 := Kx.u1 k88 e90 rfl
                  refine And.intro (by first | exact Or.inl rfl | exact Or.inr rfl | exact vg_01 (by omega) (by omega)) ?_
                  intro s93 e94
                  have i95 : Iv s93 := Iv.c1 (lo := 0) (hi := 1) i91 e94 rfl (by omega) (by omega)
                  have k96 : K_X10_loop s0 s93 := Kx.u1 k92 e94 rfl
                  refine And.intro (Nat.le_of_ble_eq_true rfl) (And.intro ⟨a1, a2, a4, rfl, by omega⟩ ?_)
                  intro v97 s99 h98
                  have h98 : s99 = s93 ∧ (v97.toInt = (vg_eo a1 a2 a4).toInt ∧ 1 ≤ v97.toInt ∧ v97.toInt ≤ 240) := h98
                  have q102 := h98.1.symm
                  subst q102
                  have q103 := h98.2
                  intro s104 e105
                  have i106 : Iv s104 := Iv.c1 (lo := 1) (hi := 16) i95 e105 rfl (by omega) (by omega)
                  have k107 : K_X10_loop s0 s104 := Kx.u1 k96 e105 rfl
                  have g108 : s104.1 7 0 = v97 := by rw [e105]; exact vg_u1_self
                  refine And.intro (Nat.le_of_ble_eq_true rfl) (And.intro ⟨20, rfl, by decide, i106⟩ ?_)
                  intro s110 h109
                  have h109 : Iv s110 ∧ K_X0_forget s104 s110 ∧ ((s110.1 20 1).toInt = 0) := h109
                  have i111 := h109.1
                  have k112 : K_X10_loop s0 s110 := Kx.tr k107 ((h109.2.1).xx (by decide))
                  have q113 := h109.2.2
                  have g114 : s110.1 7 0 = v97 := by rw [h109.2.1.1 7 0 rfl]; exact g108
                  have y115 : (s110.1 20 1).toInt = 0 := q113
                  refine And.intro (Nat.le_of_ble_eq_true rfl) (And.intro ⟨0, (Int32.ofInt 1), rfl, by decide, i111, by omega⟩ ?_)
                  intro s117 h116
                  have h116 : Iv s117 ∧ Kp s110 s117 ∧ (True) := h116
                  have i118 := h116.1
                  have k119 : K_X10_loop s0 s117 := Kx.tr k112 ((h116.2.1).px)
                  have y120 : (s117.1 20 1).toInt = 0 := by rw [h116.2.1.1 20 1 rfl]; exact y115
                  have g121 : s117.1 7 0 = v97 := by rw [h116.2.1.1 7 0 rfl]; exact g114
                  intro v122 e123
                  have w124 : v97 = v122 := by rw [e123, g121]
                  subst w124
                  refine And.intro (Nat.le_of_ble_eq_true rfl) (And.intro ⟨0, v97, rfl, by decide, i118⟩ ?_)
                  intro v125 s127 h126
                  have h126 : Iv s127 ∧ Kp s117 s127 ∧ (v125 = v97 ∧ v125.toInt = v97.toInt) := h126
                  have i128 := h126.1
                  have k129 : K_X10_loop s0 s127 := Kx.tr k119 ((h126.2.1).px)
                  have q130 := h126.2.2
                  have y131 : (s127.1 20 1).toInt = 0 := by rw [h126.2.1.1 20 1 rfl]; exact y120
                  have g132 : s127.1 7 0 = v97 := by rw [h126.2.1.1 7 0 rfl]; exact g121
                  show Iv s127 ∧ K_X10_loop s0 s127 ∧ (((0 ≤ a1.toInt ∧ a1.toInt ≤ 2 ∧ 1 ≤ a2.toInt ∧ a2.toInt ≤ 4 ∧ 1 ≤ a3.toInt ∧ a3.toInt ≤ 5000 ∧ 2 ≤ a4.toInt ∧ a4.toInt ≤ 17 ∧ 1 ≤ a5.toInt ∧ a5.toInt ≤ 60000 ∧ (vg_eo a1 a2 a4).toInt ≤ 16) ∧ v125.toInt = (vg_eo a1 a2 a4).toInt ∧ (s127.1 7 0).toInt = (vg_eo a1 a2 a4).toInt ∧ (s127.1 20 1).toInt = 0) ∨ (¬ (0 ≤ a1.toInt ∧ a1.toInt ≤ 2 ∧ 1 ≤ a2.toInt ∧ a2.toInt ≤ 4 ∧ 1 ≤ a3.toInt ∧ a3.toInt ≤ 5000 ∧ 2 ≤ a4.toInt ∧ a4.toInt ≤ 17 ∧ 1 ≤ a5.toInt ∧ a5.toInt ≤ 60000 ∧ (vg_eo a1 a2 a4).toInt ≤ 16) ∧ v125.toInt = -1 ∧ (s127.1 7 0).toInt = (s0.1 7 0).toInt ∧ (s127.1 20 1).toInt = (s0.1 20 1).toInt))
                  exact ⟨i128, k129, (by first | exact Or.inl ⟨by omega, by omega, by rw [g132]; omega, y131⟩ | exact Or.inr ⟨by omega, by omega, congrArg Int32.toInt (h126.2.1.1 7 0 rfl), congrArg Int32.toInt (h126.2.1.1 20 1 rfl)⟩)⟩
                · have c72 : ¬ (v65.toInt ≤ (Int32.ofInt 16).toInt) := c72
                  refine And.intro (Nat.le_of_ble_eq_true rfl) (And.intro ⟨0, (Int32.ofInt 1), rfl, by decide, i0⟩ ?_)
                  intro v133 s135 h134
                  have h134 : Iv s135 ∧ Kp s0 s135 ∧ (v133.toInt = -1) := h134
                  have i136 := h134.1
                  have k137 : K_X10_loop s0 s135 := Kx.tr Kx.rf ((h134.2.1).px)
                  have q138 := h134.2.2
                  show Iv s135 ∧ K_X10_loop s0 s135 ∧ (((0 ≤ a1.toInt ∧ a1.toInt ≤ 2 ∧ 1 ≤ a2.toInt ∧ a2.toInt ≤ 4 ∧ 1 ≤ a3.toInt ∧ a3.toInt ≤ 5000 ∧ 2 ≤ a4.toInt ∧ a4.toInt ≤ 17 ∧ 1 ≤ a5.toInt ∧ a5.toInt ≤ 60000 ∧ (vg_eo a1 a2 a4).toInt ≤ 16) ∧ v133.toInt = (vg_eo a1 a2 a4).toInt ∧ (s135.1 7 0).toInt = (vg_eo a1 a2 a4).toInt ∧ (s135.1 20 1).toInt = 0) ∨ (¬ (0 ≤ a1.toInt ∧ a1.toInt ≤ 2 ∧ 1 ≤ a2.toInt ∧ a2.toInt ≤ 4 ∧ 1 ≤ a3.toInt ∧ a3.toInt ≤ 5000 ∧ 2 ≤ a4.toInt ∧ a4.toInt ≤ 17 ∧ 1 ≤ a5.toInt ∧ a5.toInt ≤ 60000 ∧ (vg_eo a1 a2 a4).toInt ≤ 16) ∧ v133.toInt = -1 ∧ (s135.1 7 0).toInt = (s0.1 7 0).toInt ∧ (s135.1 20 1).toInt = (s0.1 20 1).toInt))
                  exact ⟨i136, k137, (by first | exact Or.inl ⟨by omega, by omega, by rw [none]; omega, None⟩ | exact Or.inr ⟨by omega, by omega, congrArg Int32.toInt (h134.2.1.1 7 0 rfl), congrArg Int32.toInt (h134.2.1.1 20 1 rfl)⟩)⟩
              · have c64 : ¬ (¬ v57.toInt = 0) := c64
                refine And.intro (Nat.le_of_ble_eq_true rfl) (And.intro ⟨0, (Int32.ofInt 1), rfl, by decide, i0⟩ ?_)
                intro v139 s141 h140
                have h140 : Iv s141 ∧ Kp s0 s141 ∧ (v139.toInt = -1) := h140
                have i142 := h140.1
                have k143 : K_X10_loop s0 s141 := Kx.tr Kx.rf ((h140.2.1).px)
                have q144 := h140.2.2
                show Iv s141 ∧ K_X10_loop s0 s141 ∧ (((0 ≤ a1.toInt ∧ a1.toInt ≤ 2 ∧ 1 ≤ a2.toInt ∧ a2.toInt ≤ 4 ∧ 1 ≤ a3.toInt ∧ a3.toInt ≤ 5000 ∧ 2 ≤ a4.toInt ∧ a4.toInt ≤ 17 ∧ 1 ≤ a5.toInt ∧ a5.toInt ≤ 60000 ∧ (vg_eo a1 a2 a4).toInt ≤ 16) ∧ v139.toInt = (vg_eo a1 a2 a4).toInt ∧ (s141.1 7 0).toInt = (vg_eo a1 a2 a4).toInt ∧ (s141.1 20 1).toInt = 0) ∨ (¬ (0 ≤ a1.toInt ∧ a1.toInt ≤ 2 ∧ 1 ≤ a2.toInt ∧ a2.toInt ≤ 4 ∧ 1 ≤ a3.toInt ∧ a3.toInt ≤ 5000 ∧ 2 ≤ a4.toInt ∧ a4.toInt ≤ 17 ∧ 1 ≤ a5.toInt ∧ a5.toInt ≤ 60000 ∧ (vg_eo a1 a2 a4).toInt ≤ 16) ∧ v139.toInt = -1 ∧ (s141.1 7 0).toInt = (s0.1 7 0).toInt ∧ (s141.1 20 1).toInt = (s0.1 20 1).toInt))
                exact ⟨i142, k143, (by first | exact Or.inl ⟨by omega, by omega, by rw [none]; omega, None⟩ | exact Or.inr ⟨by omega, by omega, congrArg Int32.toInt (h140.2.1.1 7 0 rfl), congrArg Int32.toInt (h140.2.1.1 20 1 rfl)⟩)⟩
def o_X10_dither : List vg_I := [(0, .iload_n 1, 1, 0, 0, 0, 0), (1, .iconst 0, 1, 0, 0, 0, 0), (2, .sipush 5000, 3, 0, 0, 0, 0), (5, .invokestatic 82, 3, 0, 1, 3, 478), (8, .ifCond .eq 7, 3, 0, 0, 0, 0), (11, .iload_n 2, 1, 0, 0, 0, 0), (12, .ifCond .ge 9, 3, 0, 0, 0, 0), (15, .aload_n 0, 1, 0, 0, 0, 0), (16, .iconst 1, 1, 0, 0, 0, 0), (17, .invokevirtual 90, 3, 1, 10, 1, 484), (20, .ireturn, 1, 0, 0, 0, 0), (21, .aload_n 0, 1, 0, 0, 0, 0), (22, .getfield 19, 3, 431, 10, 4, 0), (25, .getfield 127, 3, 179, 5, 0, 0), (28, .iload_n 1, 1, 0, 0, 0, 0), (29, .putfield 154, 3, 157, 6, 6, 0), (32, .aload_n 0, 1, 0, 0, 0, 0), (33, .getfield 19, 3, 431, 10, 4, 0), (36, .getfield 127, 3, 179, 5, 0, 0), (39, .iload_n 2, 1, 0, 0, 0, 0), (40, .putfield 157, 3, 160, 6, 7, 0), (43, .aload_n 0, 1, 0, 0, 0, 0), (44, .iconst 1, 1, 0, 0, 0, 0), (45, .invokevirtual 106, 3, 2, 10, 1, 488), (48, .aload_n 0, 1, 0, 0, 0, 0), (49, .aload_n 0, 1, 0, 0, 0, 0), (50, .getfield 110, 3, 428, 10, 1, 0), (53, .invokevirtual 113, 3, 3, 10, 1, 520), (56, .ireturn, 1, 0, 0, 0, 0)]
set_option maxRecDepth 100000 in
set_option maxHeartbeats 4000000 in
theorem c_X10_dither (l : Launch) (G : vg_G) (hp : vg_Hp G) : vg_Ct l G vg_sh r_X10_dither := by
  refine vg_meth hp vg_sh_ok r_X10_dither k_X10_dither rfl (fun h => by cases h) o_X10_dither [r_X10_within, r_X10_refuse, r_X10_beginAnewFrom, r_X10_answer] false (by decide +kernel) (by decide +kernel) ⟨_, _, rfl, rfl⟩ (List.forall_mem_cons.mpr ⟨⟨c_X10_within l G hp, Nat.le_of_ble_eq_true rfl, Nat.le_of_ble_eq_true rfl⟩, List.forall_mem_cons.mpr ⟨⟨c_X10_refuse l G hp, Nat.le_of_ble_eq_true rfl, Nat.le_of_ble_eq_true rfl⟩, List.forall_mem_cons.mpr ⟨⟨c_X10_beginAnewFrom l G hp, Nat.le_of_ble_eq_true rfl, Nat.le_of_ble_eq_true rfl⟩, List.forall_mem_cons.mpr ⟨⟨c_X10_answer l G hp, Nat.le_of_ble_eq_true rfl, Nat.le_of_ble_eq_true rfl⟩, fun _ h => absurd h List.not_mem_nil⟩⟩⟩⟩) (fun h => by cases h) 600 ?_
  intro as s0 hpre
  obtain ⟨r, a1, a2, rfl, hr, i0⟩ := hpre
  simp only [List.mem_cons, List.not_mem_nil, or_false] at hr
  rcases hr with rfl
  ·
    have z0 : (Int32.ofInt 0).toInt = 0 := by decide
    have z1 : (Int32.ofInt 1).toInt = 1 := by decide
    have z5000 : (Int32.ofInt 5000).toInt = 5000 := by decide
    refine ⟨Nat.le_of_ble_eq_true rfl, [], ?_, fun _ h => absurd h List.not_mem_nil⟩
    ·
      refine And.intro (Nat.le_of_ble_eq_true rfl) (And.intro ⟨a1, (Int32.ofInt 0), (Int32.ofInt 5000), rfl, trivial⟩ ?_)
      intro v1 s3 h2
      have h2 : s3 = s0 ∧ ((v1.toInt = 1 ∧ (Int32.ofInt 0).toInt ≤ a1.toInt ∧ a1.toInt ≤ (Int32.ofInt 5000).toInt) ∨ (v1.toInt = 0 ∧ (a1.toInt < (Int32.ofInt 0).toInt ∨ (Int32.ofInt 5000).toInt < a1.toInt))) := h2
      have q6 := h2.1.symm
      subst q6
      have q7 := h2.2
      refine And.intro (fun c8 => ?_) (fun c8 => ?_)
      · have c8 : v1.toInt = 0 := c8
        refine And.intro (Nat.le_of_ble_eq_true rfl) (And.intro ⟨0, (Int32.ofInt 1), rfl, by decide, i0⟩ ?_)
        intro v9 s11 h10
        have h10 : Iv s11 ∧ Kp s0 s11 ∧ (v9.toInt = -1) := h10
        have i12 := h10.1
        have k13 : K_X10_dither s0 s11 := Kx.tr Kx.rf ((h10.2.1).px)
        have q14 := h10.2.2
        show Iv s11 ∧ K_X10_dither s0 s11 ∧ (((0 ≤ a1.toInt ∧ a1.toInt ≤ 5000 ∧ 0 ≤ a2.toInt) ∧ v9.toInt = (s0.1 0 1).toInt) ∨ (¬ (0 ≤ a1.toInt ∧ a1.toInt ≤ 5000 ∧ 0 ≤ a2.toInt) ∧ v9.toInt = -1))
        exact ⟨i12, k13, (by have h9 := congrArg Int32.toInt (k13.1 0 1 rfl); have h8 := congrArg Int32.toInt (h10.2.1.1 0 1 rfl); omega)⟩
      · have c8 : ¬ (v1.toInt = 0) := c8
        refine And.intro (fun c15 => ?_) (fun c15 => ?_)
        · have c15 : 0 ≤ a2.toInt := c15
          intro s16 e17
          have i18 : Iv s16 := Iv.c1 (lo := 0) (hi := 5000) i0 e17 rfl (by omega) (by omega)
          have k19 : K_X10_dither s0 s16 := Kx.u1 Kx.rf e17 rfl
          intro s20 e21
          have i22 : Iv s20 := Iv.u1 i18 e21 rfl
          have k23 : K_X10_dither s0 s20 := Kx.u1 k19 e21 rfl
          refine And.intro (Nat.le_of_ble_eq_true rfl) (And.intro ⟨0, (Int32.ofInt 1), rfl, by decide, i22, by omega⟩ ?_)
          intro s25 h24
          have h24 : Iv s25 ∧ Kp s20 s25 ∧ (True) := h24
          have i26 := h24.1
          have k27 : K_X10_dither s0 s25 := Kx.tr k23 ((h24.2.1).px)
          intro v28 e29
          have g30 : s25.1 0 1 = v28 := by rw [e29]
          have b31 : v28.toInt = (s25.1 0 1).toInt := congrArg Int32.toInt e29
          refine And.intro (Nat.le_of_ble_eq_true rfl) (And.intro ⟨0, v28, rfl, by decide, i26⟩ ?_)
          intro v32 s34 h33
          have h33 : Iv s34 ∧ Kp s25 s34 ∧ (v32 = v28 ∧ v32.toInt = v28.toInt) := h33
          have i35 := h33.1
          have k36 : K_X10_dither s0 s34 := Kx.tr k27 ((h33.2.1).px)
          have q37 := h33.2.2
          show Iv s34 ∧ K_X10_dither s0 s34 ∧ (((0 ≤ a1.toInt ∧ a1.toInt ≤ 5000 ∧ 0 ≤ a2.toInt) ∧ v32.toInt = (s0.1 0 1).toInt) ∨ (¬ (0 ≤ a1.toInt ∧ a1.toInt ≤ 5000 ∧ 0 ≤ a2.toInt) ∧ v32.toInt = -1))
          exact ⟨i35, k36, (by have h9 := congrArg Int32.toInt (k36.1 0 1 rfl); have h8 := congrArg Int32.toInt (h33.2.1.1 0 1 rfl); omega)⟩
        · have c15 : ¬ (0 ≤ a2.toInt) := c15
          refine And.intro (Nat.le_of_ble_eq_true rfl) (And.intro ⟨0, (Int32.ofInt 1), rfl, by decide, i0⟩ ?_)
          intro v38 s40 h39
          have h39 : Iv s40 ∧ Kp s0 s40 ∧ (v38.toInt = -1) := h39
          have i41 := h39.1
          have k42 : K_X10_dither s0 s40 := Kx.tr Kx.rf ((h39.2.1).px)
          have q43 := h39.2.2
          show Iv s40 ∧ K_X10_dither s0 s40 ∧ (((0 ≤ a1.toInt ∧ a1.toInt ≤ 5000 ∧ 0 ≤ a2.toInt) ∧ v38.toInt = (s0.1 0 1).toInt) ∨ (¬ (0 ≤ a1.toInt ∧ a1.toInt ≤ 5000 ∧ 0 ≤ a2.toInt) ∧ v38.toInt = -1))
          exact ⟨i41, k42, (by have h9 := congrArg Int32.toInt (k42.1 0 1 rfl); have h8 := congrArg Int32.toInt (h39.2.1.1 0 1 rfl); omega)⟩
def o_X10_way : List vg_I := [(0, .iload_n 1, 1, 0, 0, 0, 0), (1, .iconst 0, 1, 0, 0, 0, 0), (2, .iconst 2, 1, 0, 0, 0, 0), (3, .invokestatic 82, 3, 0, 1, 3, 478), (6, .ifCond .ne 9, 3, 0, 0, 0, 0), (9, .aload_n 0, 1, 0, 0, 0, 0), (10, .iconst 1, 1, 0, 0, 0, 0), (11, .invokevirtual 90, 3, 1, 10, 1, 484), (14, .ireturn, 1, 0, 0, 0, 0), (15, .aload_n 0, 1, 0, 0, 0, 0), (16, .getfield 26, 3, 432, 10, 5, 0), (19, .getfield 160, 3, 242, 2, 1, 0), (22, .istore_n 2, 1, 0, 0, 0, 0), (23, .aload_n 0, 1, 0, 0, 0, 0), (24, .getfield 26, 3, 432, 10, 5, 0), (27, .iload_n 1, 1, 0, 0, 0, 0), (28, .putfield 160, 3, 242, 2, 1, 0), (31, .aload_n 0, 1, 0, 0, 0, 0), (32, .iconst 2, 1, 0, 0, 0, 0), (33, .invokevirtual 106, 3, 2, 10, 1, 488), (36, .aload_n 0, 1, 0, 0, 0, 0), (37, .iload_n 2, 1, 0, 0, 0, 0), (38, .invokevirtual 113, 3, 3, 10, 1, 520), (41, .ireturn, 1, 0, 0, 0, 0)]
set_option maxRecDepth 100000 in
set_option maxHeartbeats 4000000 in
theorem c_X10_way (l : Launch) (G : vg_G) (hp : vg_Hp G) : vg_Ct l G vg_sh r_X10_way := by
  refine vg_meth hp vg_sh_ok r_X10_way k_X10_way rfl (fun h => by cases h) o_X10_way [r_X10_within, r_X10_refuse, r_X10_beginAnewFrom, r_X10_answer] false (by decide +kernel) (by decide +kernel) ⟨_, _, rfl, rfl⟩ (List.forall_mem_cons.mpr ⟨⟨c_X10_within l G hp, Nat.le_of_ble_eq_true rfl, Nat.le_of_ble_eq_true rfl⟩, List.forall_mem_cons.mpr ⟨⟨c_X10_refuse l G hp, Nat.le_of_ble_eq_true rfl, Nat.le_of_ble_eq_true rfl⟩, List.forall_mem_cons.mpr ⟨⟨c_X10_beginAnewFrom l G hp, Nat.le_of_ble_eq_true rfl, Nat.le_of_ble_eq_true rfl⟩, List.forall_mem_cons.mpr ⟨⟨c_X10_answer l G hp, Nat.le_of_ble_eq_true rfl, Nat.le_of_ble_eq_true rfl⟩, fun _ h => absurd h List.not_mem_nil⟩⟩⟩⟩) (fun h => by cases h) 600 ?_
  intro as s0 hpre
  obtain ⟨r, a1, rfl, hr, i0⟩ := hpre
  simp only [List.mem_cons, List.not_mem_nil, or_false] at hr
  rcases hr with rfl
  ·
    have z0 : (Int32.ofInt 0).toInt = 0 := by decide
    have z1 : (Int32.ofInt 1).toInt = 1 := by decide
    have z2 : (Int32.ofInt 2).toInt = 2 := by decide
    refine ⟨Nat.le_of_ble_eq_true rfl, [], ?_, fun _ h => absurd h List.not_mem_nil⟩
    ·
      refine And.intro (Nat.le_of_ble_eq_true rfl) (And.intro ⟨a1, (Int32.ofInt 0), (Int32.ofInt 2), rfl, trivial⟩ ?_)
      intro v1 s3 h2
      have h2 : s3 = s0 ∧ ((v1.toInt = 1 ∧ (Int32.ofInt 0).toInt ≤ a1.toInt ∧ a1.toInt ≤ (Int32.ofInt 2).toInt) ∨ (v1.toInt = 0 ∧ (a1.toInt < (Int32.ofInt 0).toInt ∨ (Int32.ofInt 2).toInt < a1.toInt))) := h2
      have q6 := h2.1.symm
      subst q6
      have q7 := h2.2
      refine And.intro (fun c8 => ?_) (fun c8 => ?_)
      · have c8 : ¬ v1.toInt = 0 := c8
        intro v9 e10
        have g11 : s0.1 7 1 = v9 := by rw [e10]
        have g12 : s0.1 7 1 = v9 := e10.symm
        have b13 : v9.toInt = (s0.1 7 1).toInt := congrArg Int32.toInt e10
        intro s14 e15
        have i16 : Iv s14 := Iv.u1 i0 e15 rfl
        have k17 : K_X10_way s0 s14 := Kx.u1 Kx.rf e15 rfl
        have g18 : s14.1 7 1 = a1 := by rw [e15]; exact vg_u1_self
        refine And.intro (Nat.le_of_ble_eq_true rfl) (And.intro ⟨0, (Int32.ofInt 2), rfl, by decide, i16, by omega⟩ ?_)
        intro s20 h19
        have h19 : Iv s20 ∧ Kp s14 s20 ∧ (True) := h19
        have i21 := h19.1
        have k22 : K_X10_way s0 s20 := Kx.tr k17 ((h19.2.1).px)
        have g23 : s20.1 7 1 = a1 := by rw [h19.2.1.1 7 1 rfl]; exact g18
        refine And.intro (Nat.le_of_ble_eq_true rfl) (And.intro ⟨0, v9, rfl, by decide, i21⟩ ?_)
        intro v24 s26 h25
        have h25 : Iv s26 ∧ Kp s20 s26 ∧ (v24 = v9 ∧ v24.toInt = v9.toInt) := h25
        have i27 := h25.1
        have k28 : K_X10_way s0 s26 := Kx.tr k22 ((h25.2.1).px)
        have q29 := h25.2.2
        have g30 : s26.1 7 1 = a1 := by rw [h25.2.1.1 7 1 rfl]; exact g23
        show Iv s26 ∧ K_X10_way s0 s26 ∧ (((0 ≤ a1.toInt ∧ a1.toInt ≤ 2) ∧ v24.toInt = (s0.1 7 1).toInt ∧ (s26.1 7 1).toInt = a1.toInt) ∨ (¬ (0 ≤ a1.toInt ∧ a1.toInt ≤ 2) ∧ v24.toInt = -1 ∧ (s26.1 7 1).toInt = (s0.1 7 1).toInt))
        exact ⟨i27, k28, (by first | exact Or.inl ⟨by omega, by omega, by rw [g30]⟩ | exact Or.inr ⟨by omega, by omega, congrArg Int32.toInt (h25.2.1.1 7 1 rfl)⟩)⟩
      · have c8 : ¬ (¬ v1.toInt = 0) := c8
        refine And.intro (Nat.le_of_ble_eq_true rfl) (And.intro ⟨0, (Int32.ofInt 1), rfl, by decide, i0⟩ ?_)
        intro v31 s33 h32
        have h32 : Iv s33 ∧ Kp s0 s33 ∧ (v31.toInt = -1) := h32
        have i34 := h32.1
        have k35 : K_X10_way s0 s33 := Kx.tr Kx.rf ((h32.2.1).px)
        have q36 := h32.2.2
        show Iv s33 ∧ K_X10_way s0 s33 ∧ (((0 ≤ a1.toInt ∧ a1.toInt ≤ 2) ∧ v31.toInt = (s0.1 7 1).toInt ∧ (s33.1 7 1).toInt = a1.toInt) ∨ (¬ (0 ≤ a1.toInt ∧ a1.toInt ≤ 2) ∧ v31.toInt = -1 ∧ (s33.1 7 1).toInt = (s0.1 7 1).toInt))
        exact ⟨i34, k35, (by first | exact Or.inl ⟨by omega, by omega, by rw [none]⟩ | exact Or.inr ⟨by omega, by omega, congrArg Int32.toInt (h32.2.1.1 7 1 rfl)⟩)⟩
def o_X10_deviation : List vg_I := [(0, .iload_n 2, 1, 0, 0, 0, 0), (1, .bipush (-99), 2, 0, 0, 0, 0), (3, .bipush 99, 2, 0, 0, 0, 0), (5, .invokestatic 82, 3, 0, 1, 3, 478), (8, .ifCond .ne 9, 3, 0, 0, 0, 0), (11, .aload_n 0, 1, 0, 0, 0, 0), (12, .iconst 1, 1, 0, 0, 0, 0), (13, .invokevirtual 90, 3, 1, 10, 1, 484), (16, .ireturn, 1, 0, 0, 0, 0), (17, .iload_n 1, 1, 0, 0, 0, 0), (18, .iconst 0, 1, 0, 0, 0, 0), (19, .bipush 15, 2, 0, 0, 0, 0), (21, .invokestatic 82, 3, 0, 1, 3, 478), (24, .ifCond .ne 9, 3, 0, 0, 0, 0), (27, .aload_n 0, 1, 0, 0, 0, 0), (28, .iconst 2, 1, 0, 0, 0, 0), (29, .invokevirtual 90, 3, 1, 10, 1, 484), (32, .ireturn, 1, 0, 0, 0, 0), (33, .aload_n 0, 1, 0, 0, 0, 0), (34, .getfield 26, 3, 432, 10, 5, 0), (37, .getfield 163, 3, 248, 2, 4, 0), (40, .iload_n 1, 1, 0, 0, 0, 0), (41, .iaload, 1, 0, 0, 0, 0), (42, .istore_n 3, 1, 0, 0, 0, 0), (43, .aload_n 0, 1, 0, 0, 0, 0), (44, .getfield 26, 3, 432, 10, 5, 0), (47, .getfield 163, 3, 248, 2, 4, 0), (50, .iload_n 1, 1, 0, 0, 0, 0), (51, .iload_n 2, 1, 0, 0, 0, 0), (52, .iastore, 1, 0, 0, 0, 0), (53, .aload_n 0, 1, 0, 0, 0, 0), (54, .iconst 2, 1, 0, 0, 0, 0), (55, .invokevirtual 106, 3, 2, 10, 1, 488), (58, .aload_n 0, 1, 0, 0, 0, 0), (59, .iload_n 3, 1, 0, 0, 0, 0), (60, .invokevirtual 113, 3, 3, 10, 1, 520), (63, .ireturn, 1, 0, 0, 0, 0)]
set_option maxRecDepth 100000 in
set_option maxHeartbeats 4000000 in
theorem c_X10_deviation (l : Launch) (G : vg_G) (hp : vg_Hp G) : vg_Ct l G vg_sh r_X10_deviation := by
  refine vg_meth hp vg_sh_ok r_X10_deviation k_X10_deviation rfl (fun h => by cases h) o_X10_deviation [r_X10_within, r_X10_refuse, r_X10_beginAnewFrom, r_X10_answer] false (by decide +kernel) (by decide +kernel) ⟨_, _, rfl, rfl⟩ (List.forall_mem_cons.mpr ⟨⟨c_X10_within l G hp, Nat.le_of_ble_eq_true rfl, Nat.le_of_ble_eq_true rfl⟩, List.forall_mem_cons.mpr ⟨⟨c_X10_refuse l G hp, Nat.le_of_ble_eq_true rfl, Nat.le_of_ble_eq_true rfl⟩, List.forall_mem_cons.mpr ⟨⟨c_X10_beginAnewFrom l G hp, Nat.le_of_ble_eq_true rfl, Nat.le_of_ble_eq_true rfl⟩, List.forall_mem_cons.mpr ⟨⟨c_X10_answer l G hp, Nat.le_of_ble_eq_true rfl, Nat.le_of_ble_eq_true rfl⟩, fun _ h => absurd h List.not_mem_nil⟩⟩⟩⟩) (fun h => by cases h) 600 ?_
  intro as s0 hpre
  obtain ⟨r, a1, a2, rfl, hr, i0⟩ := hpre
  simp only [List.mem_cons, List.not_mem_nil, or_false] at hr
  rcases hr with rfl
  ·
    have zm99 : (Int32.ofInt (-99)).toInt = -99 := by decide
    have z0 : (Int32.ofInt 0).toInt = 0 := by decide
    have z1 : (Int32.ofInt 1).toInt = 1 := by decide
    have z2 : (Int32.ofInt 2).toInt = 2 := by decide
    have z15 : (Int32.ofInt 15).toInt = 15 := by decide
    have z99 : (Int32.ofInt 99).toInt = 99 := by decide
    refine ⟨Nat.le_of_ble_eq_true rfl, [], ?_, fun _ h => absurd h List.not_mem_nil⟩
    ·
      refine And.intro (Nat.le_of_ble_eq_true rfl) (And.intro ⟨a2, (Int32.ofInt (-99)), (Int32.ofInt 99), rfl, trivial⟩ ?_)
      intro v1 s3 h2
      have h2 : s3 = s0 ∧ ((v1.toInt = 1 ∧ (Int32.ofInt (-99)).toInt ≤ a2.toInt ∧ a2.toInt ≤ (Int32.ofInt 99).toInt) ∨ (v1.toInt = 0 ∧ (a2.toInt < (Int32.ofInt (-99)).toInt ∨ (Int32.ofInt 99).toInt < a2.toInt))) := h2
      have q6 := h2.1.symm
      subst q6
      have q7 := h2.2
      refine And.intro (fun c8 => ?_) (fun c8 => ?_)
      · have c8 : ¬ v1.toInt = 0 := c8
        refine And.intro (Nat.le_of_ble_eq_true rfl) (And.intro ⟨a1, (Int32.ofInt 0), (Int32.ofInt 15), rfl, trivial⟩ ?_)
        intro v9 s11 h10
        have h10 : s11 = s0 ∧ ((v9.toInt = 1 ∧ (Int32.ofInt 0).toInt ≤ a1.toInt ∧ a1.toInt ≤ (Int32.ofInt 15).toInt) ∨ (v9.toInt = 0 ∧ (a1.toInt < (Int32.ofInt 0).toInt ∨ (Int32.ofInt 15).toInt < a1.toInt))) := h10
        have q14 := h10.1.symm
        subst q14
        have q15 := h10.2
        refine And.intro (fun c16 => ?_) (fun c16 => ?_)
        · have c16 : ¬ v9.toInt = 0 := c16
          refine And.intro ⟨by omega, by omega⟩ ?_
          intro v17 e18
          refine And.intro ⟨by omega, by omega⟩ ?_
          intro s19 e20
          have i21 : Iv s19 := Iv.a1 i0 e20 rfl
          have k22 : K_X10_deviation s0 s19 := Kx.u1 Kx.rf e20 rfl
          have y0 : ∀ j : Nat, s19.1 8 j = if j = a1.toNatClampNeg then a2 else s0.1 8 j := fun j => by rw [e20]; exact vg_u1_if
          refine And.intro (Nat.le_of_ble_eq_true rfl) (And.intro ⟨0, (Int32.ofInt 2), rfl, by decide, i21, by omega⟩ ?_)
          intro s24 h23
          have h23 : Iv s24 ∧ Kp s19 s24 ∧ (True) := h23
          have i25 := h23.1
          have k26 : K_X10_deviation s0 s24 := Kx.tr k22 ((h23.2.1).px)
          have y1 : ∀ j : Nat, s24.1 8 j = if j = a1.toNatClampNeg then a2 else s0.1 8 j := fun j => by rw [h23.2.1.1 8 j rfl]; exact y0 j
          refine And.intro (Nat.le_of_ble_eq_true rfl) (And.intro ⟨0, v17, rfl, by decide, i25⟩ ?_)
          intro v27 s29 h28
          have h28 : Iv s29 ∧ Kp s24 s29 ∧ (v27 = v17 ∧ v27.toInt = v17.toInt) := h28
          have i30 := h28.1
          have k31 : K_X10_deviation s0 s29 := Kx.tr k26 ((h28.2.1).px)
          have q32 := h28.2.2
          show Iv s29 ∧ K_X10_deviation s0 s29 ∧ (((-99 ≤ a2.toInt ∧ a2.toInt ≤ 99 ∧ 0 ≤ a1.toInt ∧ a1.toInt ≤ 15) ∧ v27 = s0.1 8 a1.toNatClampNeg ∧ ∀ j : Nat, s29.1 8 j = if j = a1.toNatClampNeg then a2 else s0.1 8 j) ∨ (¬ (-99 ≤ a2.toInt ∧ a2.toInt ≤ 99 ∧ 0 ≤ a1.toInt ∧ a1.toInt ≤ 15) ∧ v27.toInt = -1 ∧ ∀ j : Nat, s29.1 8 j = s0.1 8 j))
          exact ⟨i30, k31, (by first | exact Or.inl ⟨by omega, by (rw [q32.1]; assumption), fun j => by rw [h28.2.1.1 8 j rfl]; exact y1 j⟩ | exact Or.inr ⟨by omega, by omega, fun j => h28.2.1.1 8 j rfl⟩)⟩
        · have c16 : ¬ (¬ v9.toInt = 0) := c16
          refine And.intro (Nat.le_of_ble_eq_true rfl) (And.intro ⟨0, (Int32.ofInt 2), rfl, by decide, i0⟩ ?_)
          intro v33 s35 h34
          have h34 : Iv s35 ∧ Kp s0 s35 ∧ (v33.toInt = -1) := h34
          have i36 := h34.1
          have k37 : K_X10_deviation s0 s35 := Kx.tr Kx.rf ((h34.2.1).px)
          have q38 := h34.2.2
          show Iv s35 ∧ K_X10_deviation s0 s35 ∧ (((-99 ≤ a2.toInt ∧ a2.toInt ≤ 99 ∧ 0 ≤ a1.toInt ∧ a1.toInt ≤ 15) ∧ v33 = s0.1 8 a1.toNatClampNeg ∧ ∀ j : Nat, s35.1 8 j = if j = a1.toNatClampNeg then a2 else s0.1 8 j) ∨ (¬ (-99 ≤ a2.toInt ∧ a2.toInt ≤ 99 ∧ 0 ≤ a1.toInt ∧ a1.toInt ≤ 15) ∧ v33.toInt = -1 ∧ ∀ j : Nat, s35.1 8 j = s0.1 8 j))
          exact ⟨i36, k37, (by first | exact Or.inl ⟨by omega, by (rw [q38.1]; assumption), fun j => by rw [h34.2.1.1 8 j rfl]; exact y1 j⟩ | exact Or.inr ⟨by omega, by omega, fun j => h34.2.1.1 8 j rfl⟩)⟩
      · have c8 : ¬ (¬ v1.toInt = 0) := c8
        refine And.intro (Nat.le_of_ble_eq_true rfl) (And.intro ⟨0, (Int32.ofInt 1), rfl, by decide, i0⟩ ?_)
        intro v39 s41 h40
        have h40 : Iv s41 ∧ Kp s0 s41 ∧ (v39.toInt = -1) := h40
        have i42 := h40.1
        have k43 : K_X10_deviation s0 s41 := Kx.tr Kx.rf ((h40.2.1).px)
        have q44 := h40.2.2
        show Iv s41 ∧ K_X10_deviation s0 s41 ∧ (((-99 ≤ a2.toInt ∧ a2.toInt ≤ 99 ∧ 0 ≤ a1.toInt ∧ a1.toInt ≤ 15) ∧ v39 = s0.1 8 a1.toNatClampNeg ∧ ∀ j : Nat, s41.1 8 j = if j = a1.toNatClampNeg then a2 else s0.1 8 j) ∨ (¬ (-99 ≤ a2.toInt ∧ a2.toInt ≤ 99 ∧ 0 ≤ a1.toInt ∧ a1.toInt ≤ 15) ∧ v39.toInt = -1 ∧ ∀ j : Nat, s41.1 8 j = s0.1 8 j))
        exact ⟨i42, k43, (by first | exact Or.inl ⟨by omega, by (rw [q44.1]; assumption), fun j => by rw [h40.2.1.1 8 j rfl]; exact y1 j⟩ | exact Or.inr ⟨by omega, by omega, fun j => h40.2.1.1 8 j rfl⟩)⟩
def o_X10_comb : List vg_I := [(0, .iload_n 1, 1, 0, 0, 0, 0), (1, .iconst 1, 1, 0, 0, 0, 0), (2, .iconst 5, 1, 0, 0, 0, 0), (3, .invokestatic 82, 3, 0, 1, 3, 478), (6, .ifCond .eq 34, 3, 0, 0, 0, 0), (9, .iload_n 2, 1, 0, 0, 0, 0), (10, .iconst 1, 1, 0, 0, 0, 0), (11, .bipush 16, 2, 0, 0, 0, 0), (13, .invokestatic 82, 3, 0, 1, 3, 478), (16, .ifCond .eq 24, 3, 0, 0, 0, 0), (19, .iload_n 3, 1, 0, 0, 0, 0), (20, .bipush 8, 2, 0, 0, 0, 0), (22, .bipush 32, 2, 0, 0, 0, 0), (24, .invokestatic 82, 3, 0, 1, 3, 478), (27, .ifCond .eq 13, 3, 0, 0, 0, 0), (30, .iload 4, 2, 0, 0, 0, 0), (32, .iconst 0, 1, 0, 0, 0, 0), (33, .iconst 1, 1, 0, 0, 0, 0), (34, .invokestatic 82, 3, 0, 1, 3, 478), (37, .ifCond .ne 9, 3, 0, 0, 0, 0), (40, .aload_n 0, 1, 0, 0, 0, 0), (41, .iconst 1, 1, 0, 0, 0, 0), (42, .invokevirtual 90, 3, 1, 10, 1, 484), (45, .ireturn, 1, 0, 0, 0, 0), (46, .aload_n 0, 1, 0, 0, 0, 0), (47, .getfield 33, 3, 433, 10, 6, 0), (50, .iload_n 1, 1, 0, 0, 0, 0), (51, .putfield 166, 3, 291, 1, 0, 0), (54, .aload_n 0, 1, 0, 0, 0, 0), (55, .getfield 33, 3, 433, 10, 6, 0), (58, .iload_n 2, 1, 0, 0, 0, 0), (59, .putfield 167, 3, 293, 1, 1, 0), (62, .aload_n 0, 1, 0, 0, 0, 0), (63, .getfield 33, 3, 433, 10, 6, 0), (66, .iload_n 3, 1, 0, 0, 0, 0), (67, .putfield 170, 3, 295, 1, 2, 0), (70, .aload_n 0, 1, 0, 0, 0, 0), (71, .getfield 33, 3, 433, 10, 6, 0), (74, .iload 4, 2, 0, 0, 0, 0), (76, .putfield 173, 3, 296, 1, 3, 0), (79, .aload_n 0, 1, 0, 0, 0, 0), (80, .iconst 3, 1, 0, 0, 0, 0), (81, .invokevirtual 106, 3, 2, 10, 1, 488), (84, .aload_n 0, 1, 0, 0, 0, 0), (85, .aload_n 0, 1, 0, 0, 0, 0), (86, .getfield 33, 3, 433, 10, 6, 0), (89, .iload 4, 2, 0, 0, 0, 0), (91, .ifCond .ne 13, 3, 0, 0, 0, 0), (94, .aload_n 0, 1, 0, 0, 0, 0), (95, .getfield 26, 3, 432, 10, 5, 0), (98, .getfield 148, 3, 240, 2, 0, 0), (101, .goto 10, 3, 0, 0, 0, 0), (104, .aload_n 0, 1, 0, 0, 0, 0), (105, .getfield 26, 3, 432, 10, 5, 0), (108, .invokevirtual 176, 3, 3, 2, 0, 556), (111, .invokevirtual 180, 3, 4, 1, 1, 568), (114, .invokevirtual 113, 3, 5, 10, 1, 520), (117, .ireturn, 1, 0, 0, 0, 0)]
set_option maxRecDepth 100000 in
set_option maxHeartbeats 4000000 in
theorem c_X10_comb (l : Launch) (G : vg_G) (hp : vg_Hp G) : vg_Ct l G vg_sh r_X10_comb := by
  refine vg_meth hp vg_sh_ok r_X10_comb k_X10_comb rfl (fun h => by cases h) o_X10_comb [r_X10_within, r_X10_refuse, r_X10_beginAnewFrom, r_X2_allWeights, r_X1_leastWidth, r_X10_answer] false (by decide +kernel) (by decide +kernel) ⟨_, _, rfl, rfl⟩ (List.forall_mem_cons.mpr ⟨⟨c_X10_within l G hp, Nat.le_of_ble_eq_true rfl, Nat.le_of_ble_eq_true rfl⟩, List.forall_mem_cons.mpr ⟨⟨c_X10_refuse l G hp, Nat.le_of_ble_eq_true rfl, Nat.le_of_ble_eq_true rfl⟩, List.forall_mem_cons.mpr ⟨⟨c_X10_beginAnewFrom l G hp, Nat.le_of_ble_eq_true rfl, Nat.le_of_ble_eq_true rfl⟩, List.forall_mem_cons.mpr ⟨⟨c_X2_allWeights l G hp, Nat.le_of_ble_eq_true rfl, Nat.le_of_ble_eq_true rfl⟩, List.forall_mem_cons.mpr ⟨⟨c_X1_leastWidth l G hp, Nat.le_of_ble_eq_true rfl, Nat.le_of_ble_eq_true rfl⟩, List.forall_mem_cons.mpr ⟨⟨c_X10_answer l G hp, Nat.le_of_ble_eq_true rfl, Nat.le_of_ble_eq_true rfl⟩, fun _ h => absurd h List.not_mem_nil⟩⟩⟩⟩⟩⟩) (fun h => by cases h) 600 ?_
  intro as s0 hpre
  obtain ⟨r, a1, a2, a3, a4, rfl, hr, i0⟩ := hpre
  simp only [List.mem_cons, List.not_mem_nil, or_false] at hr
  rcases hr with rfl
  ·
    have z0 : (Int32.ofInt 0).toInt = 0 := by decide
    have z1 : (Int32.ofInt 1).toInt = 1 := by decide
    have z3 : (Int32.ofInt 3).toInt = 3 := by decide
    have z5 : (Int32.ofInt 5).toInt = 5 := by decide
    have z8 : (Int32.ofInt 8).toInt = 8 := by decide
    have z16 : (Int32.ofInt 16).toInt = 16 := by decide
    have z32 : (Int32.ofInt 32).toInt = 32 := by decide
    refine ⟨Nat.le_of_ble_eq_true rfl, [], ?_, fun _ h => absurd h List.not_mem_nil⟩
    ·
      refine And.intro (Nat.le_of_ble_eq_true rfl) (And.intro ⟨a1, (Int32.ofInt 1), (Int32.ofInt 5), rfl, trivial⟩ ?_)
      intro v1 s3 h2
      have h2 : s3 = s0 ∧ ((v1.toInt = 1 ∧ (Int32.ofInt 1).toInt ≤ a1.toInt ∧ a1.toInt ≤ (Int32.ofInt 5).toInt) ∨ (v1.toInt = 0 ∧ (a1.toInt < (Int32.ofInt 1).toInt ∨ (Int32.ofInt 5).toInt < a1.toInt))) := h2
      have q6 := h2.1.symm
      subst q6
      have q7 := h2.2
      refine And.intro (fun c8 => ?_) (fun c8 => ?_)
      · have c8 : v1.toInt = 0 := c8
        refine And.intro (Nat.le_of_ble_eq_true rfl) (And.intro ⟨0, (Int32.ofInt 1), rfl, by decide, i0⟩ ?_)
        intro v9 s11 h10
        have h10 : Iv s11 ∧ Kp s0 s11 ∧ (v9.toInt = -1) := h10
        have i12 := h10.1
        have k13 : K_X10_comb s0 s11 := Kx.tr Kx.rf ((h10.2.1).px)
        have q14 := h10.2.2
        show Iv s11 ∧ K_X10_comb s0 s11 ∧ (((1 ≤ a1.toInt ∧ a1.toInt ≤ 5 ∧ 1 ≤ a2.toInt ∧ a2.toInt ≤ 16 ∧ 8 ≤ a3.toInt ∧ a3.toInt ≤ 32 ∧ 0 ≤ a4.toInt ∧ a4.toInt ≤ 1) ∧ (s11.1 12 0).toInt = a1.toInt ∧ (s11.1 12 1).toInt = a2.toInt ∧ vg_isneed (vg_mp a2.toInt64 (vg_cx a4 (s0.1 7 0) (s0.1 8)).toInt64 a1.toNatClampNeg) v9) ∨ (¬ (1 ≤ a1.toInt ∧ a1.toInt ≤ 5 ∧ 1 ≤ a2.toInt ∧ a2.toInt ≤ 16 ∧ 8 ≤ a3.toInt ∧ a3.toInt ≤ 32 ∧ 0 ≤ a4.toInt ∧ a4.toInt ≤ 1) ∧ (s11.1 12 0).toInt = (s0.1 12 0).toInt ∧ (s11.1 12 1).toInt = (s0.1 12 1).toInt ∧ v9.toInt = -1))
        exact ⟨i12, k13, (by first | exact Or.inl ⟨by omega, by rw [none], by rw [none], by rw [q14.1]; exact y1⟩ | exact Or.inr ⟨by omega, congrArg Int32.toInt (h10.2.1.1 12 0 rfl), congrArg Int32.toInt (h10.2.1.1 12 1 rfl), by omega⟩)⟩
      · have c8 : ¬ (v1.toInt = 0) := c8
        refine And.intro (Nat.le_of_ble_eq_true rfl) (And.intro ⟨a2, (Int32.ofInt 1), (Int32.ofInt 16), rfl, trivial⟩ ?_)
        intro v15 s17 h16
        have h16 : s17 = s0 ∧ ((v15.toInt = 1 ∧ (Int32.ofInt 1).toInt ≤ a2.toInt ∧ a2.toInt ≤ (Int32.ofInt 16).toInt) ∨ (v15.toInt = 0 ∧ (a2.toInt < (Int32.ofInt 1).toInt ∨ (Int32.ofInt 16).toInt < a2.toInt))) := h16
        have q20 := h16.1.symm
        subst q20
        have q21 := h16.2
        refine And.intro (fun c22 => ?_) (fun c22 => ?_)
        · have c22 : v15.toInt = 0 := c22
          refine And.intro (Nat.le_of_ble_eq_true rfl) (And.intro ⟨0, (Int32.ofInt 1), rfl, by decide, i0⟩ ?_)
          intro v23 s25 h24
          have h24 : Iv s25 ∧ Kp s0 s25 ∧ (v23.toInt = -1) := h24
          have i26 := h24.1
          have k27 : K_X10_comb s0 s25 := Kx.tr Kx.rf ((h24.2.1).px)
          have q28 := h24.2.2
          show Iv s25 ∧ K_X10_comb s0 s25 ∧ (((1 ≤ a1.toInt ∧ a1.toInt ≤ 5 ∧ 1 ≤ a2.toInt ∧ a2.toInt ≤ 16 ∧ 8 ≤ a3.toInt ∧ a3.toInt ≤ 32 ∧ 0 ≤ a4.toInt ∧ a4.toInt ≤ 1) ∧ (s25.1 12 0).toInt = a1.toInt ∧ (s25.1 12 1).toInt = a2.toInt ∧ vg_isneed (vg_mp a2.toInt64 (vg_cx a4 (s0.1 7 0) (s0.1 8)).toInt64 a1.toNatClampNeg) v23) ∨ (¬ (1 ≤ a1.toInt ∧ a1.toInt ≤ 5 ∧ 1 ≤ a2.toInt ∧ a2.toInt ≤ 16 ∧ 8 ≤ a3.toInt ∧ a3.toInt ≤ 32 ∧ 0 ≤ a4.toInt ∧ a4.toInt ≤ 1) ∧ (s25.1 12 0).toInt = (s0.1 12 0).toInt ∧ (s25.1 12 1).toInt = (s0.1 12 1).toInt ∧ v23.toInt = -1))
          exact ⟨i26, k27, (by first | exact Or.inl ⟨by omega, by rw [none], by rw [none], by rw [q28.1]; exact y1⟩ | exact Or.inr ⟨by omega, congrArg Int32.toInt (h24.2.1.1 12 0 rfl), congrArg Int32.toInt (h24.2.1.1 12 1 rfl), by omega⟩)⟩
        · have c22 : ¬ (v15.toInt = 0) := c22
          refine And.intro (Nat.le_of_ble_eq_true rfl) (And.intro ⟨a3, (Int32.ofInt 8), (Int32.ofInt 32), rfl, trivial⟩ ?_)
          intro v29 s31 h30
          have h30 : s31 = s0 ∧ ((v29.toInt = 1 ∧ (Int32.ofInt 8).toInt ≤ a3.toInt ∧ a3.toInt ≤ (Int32.ofInt 32).toInt) ∨ (v29.toInt = 0 ∧ (a3.toInt < (Int32.ofInt 8).toInt ∨ (Int32.ofInt 32).toInt < a3.toInt))) := h30
          have q34 := h30.1.symm
          subst q34
          have q35 := h30.2
          refine And.intro (fun c36 => ?_) (fun c36 => ?_)
          · have c36 : v29.toInt = 0 := c36
            refine And.intro (Nat.le_of_ble_eq_true rfl) (And.intro ⟨0, (Int32.ofInt 1), rfl, by decide, i0⟩ ?_)
            intro v37 s39 h38
            have h38 : Iv s39 ∧ Kp s0 s39 ∧ (v37.toInt = -1) := h38
            have i40 := h38.1
            have k41 : K_X10_comb s0 s39 := Kx.tr Kx.rf ((h38.2.1).px)
            have q42 := h38.2.2
            show Iv s39 ∧ K_X10_comb s0 s39 ∧ (((1 ≤ a1.toInt ∧ a1.toInt ≤ 5 ∧ 1 ≤ a2.toInt ∧ a2.toInt ≤ 16 ∧ 8 ≤ a3.toInt ∧ a3.toInt ≤ 32 ∧ 0 ≤ a4.toInt ∧ a4.toInt ≤ 1) ∧ (s39.1 12 0).toInt = a1.toInt ∧ (s39.1 12 1).toInt = a2.toInt ∧ vg_isneed (vg_mp a2.toInt64 (vg_cx a4 (s0.1 7 0) (s0.1 8)).toInt64 a1.toNatClampNeg) v37) ∨ (¬ (1 ≤ a1.toInt ∧ a1.toInt ≤ 5 ∧ 1 ≤ a2.toInt ∧ a2.toInt ≤ 16 ∧ 8 ≤ a3.toInt ∧ a3.toInt ≤ 32 ∧ 0 ≤ a4.toInt ∧ a4.toInt ≤ 1) ∧ (s39.1 12 0).toInt = (s0.1 12 0).toInt ∧ (s39.1 12 1).toInt = (s0.1 12 1).toInt ∧ v37.toInt = -1))
            exact ⟨i40, k41, (by first | exact Or.inl ⟨by omega, by rw [none], by rw [none], by rw [q42.1]; exact y1⟩ | exact Or.inr ⟨by omega, congrArg Int32.toInt (h38.2.1.1 12 0 rfl), congrArg Int32.toInt (h38.2.1.1 12 1 rfl), by omega⟩)⟩
          · have c36 : ¬ (v29.toInt = 0) := c36
            refine And.intro (Nat.le_of_ble_eq_true rfl) (And.intro ⟨a4, (Int32.ofInt 0), (Int32.ofInt 1), rfl, trivial⟩ ?_)
            intro v43 s45 h44
            have h44 : s45 = s0 ∧ ((v43.toInt = 1 ∧ (Int32.ofInt 0).toInt ≤ a4.toInt ∧ a4.toInt ≤ (Int32.ofInt 1).toInt) ∨ (v43.toInt = 0 ∧ (a4.toInt < (Int32.ofInt 0).toInt ∨ (Int32.ofInt 1).toInt < a4.toInt))) := h44
            have q48 := h44.1.symm
            subst q48
            have q49 := h44.2
            refine And.intro (fun c50 => ?_) (fun c50 => ?_)
            · have c50 : ¬ v43.toInt = 0 := c50
              intro s51 e52
              have i53 : Iv s51 := Iv.c1 (lo := 1) (hi := 5) i0 e52 rfl (by omega) (by omega)
              have k54 : K_X10_comb s0 s51 := Kx.u1 Kx.rf e52 rfl
              have g55 : s51.1 12 0 = a1 := by rw [e52]; exact vg_u1_self
              intro s56 e57
              have i58 : Iv s56 := Iv.c1 (lo := 1) (hi := 16) i53 e57 rfl (by omega) (by omega)
              have k59 : K_X10_comb s0 s56 := Kx.u1 k54 e57 rfl
              have g60 : s56.1 12 0 = a1 := by rw [e57, vg_u1_at (a := 12) (b := 0) (k := 12) (i := 1) (by decide)]; exact g55
              have g61 : s56.1 12 1 = a2 := by rw [e57]; exact vg_u1_self
              intro s62 e63
              have i64 : Iv s62 := Iv.c1 (lo := 8) (hi := 32) i58 e63 rfl (by omega) (by omega)
              have k65 : K_X10_comb s0 s62 := Kx.u1 k59 e63 rfl
              have g66 : s62.1 12 0 = a1 := by rw [e63, vg_u1_at (a := 12) (b := 0) (k := 12) (i := 2) (by decide)]; exact g60
              have g67 : s62.1 12 1 = a2 := by rw [e63, vg_u1_at (a := 12) (b := 1) (k := 12) (i := 2) (by decide)]; exact g61
              intro s68 e69
              have i70 : Iv s68 := Iv.u1 i64 e69 rfl
              have k71 : K_X10_comb s0 s68 := Kx.u1 k65 e69 rfl
              have g72 : s68.1 12 0 = a1 := by rw [e69, vg_u1_at (a := 12) (b := 0) (k := 12) (i := 3) (by decide)]; exact g66
              have g73 : s68.1 12 1 = a2 := by rw [e69, vg_u1_at (a := 12) (b := 1) (k := 12) (i := 3) (by decide)]; exact g67
              refine And.intro (Nat.le_of_ble_eq_true rfl) (And.intro ⟨0, (Int32.ofInt 3), rfl, by decide, i70, by omega⟩ ?_)
              intro s75 h74
              have h74 : Iv s75 ∧ Kp s68 s75 ∧ (True) := h74
              have i76 := h74.1
              have k77 : K_X10_comb s0 s75 := Kx.tr k71 ((h74.2.1).px)
              have g78 : s75.1 12 0 = a1 := by rw [h74.2.1.1 12 0 rfl]; exact g72
              have g79 : s75.1 12 1 = a2 := by rw [h74.2.1.1 12 1 rfl]; exact g73
              refine And.intro (fun c80 => ?_) (fun c80 => ?_)
              · have c80 : ¬ a4.toInt = 0 := c80
                refine And.intro (Nat.le_of_ble_eq_true rfl) (And.intro ⟨7, rfl, by decide, i76⟩ ?_)
                intro v81 s83 h82
                have h82 : s83 = s75 ∧ (v81 = vg_ws (s75.1 8) (s75.1 7 0).toNatClampNeg) := h82
                have q86 := h82.1.symm
                subst q86
                have q87 := h82.2
                have y0 : v81 = vg_cx a4 (s0.1 7 0) (s0.1 8) := by first | (rw [vg_cx, if_pos (by omega), None]; exact k77.1 7 0 rfl) | (rw [vg_cx, if_neg (by omega), q87, k77.1 7 0 rfl]; exact vg_ws_congr (fun j _ => k77.1 8 j rfl))
                refine And.intro (Nat.le_of_ble_eq_true rfl) (And.intro ⟨12, v81, rfl, by decide, i76⟩ ?_)
                intro v88 s90 h89
                have h89 : s90 = s75 ∧ (vg_isneed (vg_mp (s75.1 12 1).toInt64 v81.toInt64 (s75.1 12 0).toNatClampNeg) v88) := h89
                have q93 := h89.1.symm
                subst q93
                have q94 := h89.2
                have y1 : vg_isneed (vg_mp a2.toInt64 (vg_cx a4 (s0.1 7 0) (s0.1 8)).toInt64 a1.toNatClampNeg) v88 := vg_cned q94 g78 g79 y0
                refine And.intro (Nat.le_of_ble_eq_true rfl) (And.intro ⟨0, v88, rfl, by decide, i76⟩ ?_)
                intro v95 s97 h96
                have h96 : Iv s97 ∧ Kp s75 s97 ∧ (v95 = v88 ∧ v95.toInt = v88.toInt) := h96
                have i98 := h96.1
                have k99 : K_X10_comb s0 s97 := Kx.tr k77 ((h96.2.1).px)
                have q100 := h96.2.2
                have g101 : s97.1 12 0 = a1 := by rw [h96.2.1.1 12 0 rfl]; exact g78
                have g102 : s97.1 12 1 = a2 := by rw [h96.2.1.1 12 1 rfl]; exact g79
                show Iv s97 ∧ K_X10_comb s0 s97 ∧ (((1 ≤ a1.toInt ∧ a1.toInt ≤ 5 ∧ 1 ≤ a2.toInt ∧ a2.toInt ≤ 16 ∧ 8 ≤ a3.toInt ∧ a3.toInt ≤ 32 ∧ 0 ≤ a4.toInt ∧ a4.toInt ≤ 1) ∧ (s97.1 12 0).toInt = a1.toInt ∧ (s97.1 12 1).toInt = a2.toInt ∧ vg_isneed (vg_mp a2.toInt64 (vg_cx a4 (s0.1 7 0) (s0.1 8)).toInt64 a1.toNatClampNeg) v95) ∨ (¬ (1 ≤ a1.toInt ∧ a1.toInt ≤ 5 ∧ 1 ≤ a2.toInt ∧ a2.toInt ≤ 16 ∧ 8 ≤ a3.toInt ∧ a3.toInt ≤ 32 ∧ 0 ≤ a4.toInt ∧ a4.toInt ≤ 1) ∧ (s97.1 12 0).toInt = (s0.1 12 0).toInt ∧ (s97.1 12 1).toInt = (s0.1 12 1).toInt ∧ v95.toInt = -1))
                exact ⟨i98, k99, (by first | exact Or.inl ⟨by omega, by rw [g101], by rw [g102], by rw [q100.1]; exact y1⟩ | exact Or.inr ⟨by omega, congrArg Int32.toInt (h96.2.1.1 12 0 rfl), congrArg Int32.toInt (h96.2.1.1 12 1 rfl), by omega⟩)⟩
              · have c80 : ¬ (¬ a4.toInt = 0) := c80
                intro v103 e104
                have g105 : s75.1 7 0 = v103 := by rw [e104]
                have b106 : (1 : Int) ≤ v103.toInt ∧ v103.toInt ≤ 16 := by rw [e104]; exact Iv_7_0 i76
                have y0 : v103 = vg_cx a4 (s0.1 7 0) (s0.1 8) := by first | (rw [vg_cx, if_pos (by omega), e104]; exact k77.1 7 0 rfl) | (rw [vg_cx, if_neg (by omega), q49, k77.1 7 0 rfl]; exact vg_ws_congr (fun j _ => k77.1 8 j rfl))
                refine And.intro (Nat.le_of_ble_eq_true rfl) (And.intro ⟨12, v103, rfl, by decide, i76⟩ ?_)
                intro v107 s109 h108
                have h108 : s109 = s75 ∧ (vg_isneed (vg_mp (s75.1 12 1).toInt64 v103.toInt64 (s75.1 12 0).toNatClampNeg) v107) := h108
                have q112 := h108.1.symm
                subst q112
                have q113 := h108.2
                have y1 : vg_isneed (vg_mp a2.toInt64 (vg_cx a4 (s0.1 7 0) (s0.1 8)).toInt64 a1.toNatClampNeg) v107 := vg_cned q113 g78 g79 y0
                refine And.intro (Nat.le_of_ble_eq_true rfl) (And.intro ⟨0, v107, rfl, by decide, i76⟩ ?_)
                intro v114 s116 h115
                have h115 : Iv s116 ∧ Kp s75 s116 ∧ (v114 = v107 ∧ v114.toInt = v107.toInt) := h115
                have i117 := h115.1
                have k118 : K_X10_comb s0 s116 := Kx.tr k77 ((h115.2.1).px)
                have q119 := h115.2.2
                have g120 : s116.1 12 0 = a1 := by rw [h115.2.1.1 12 0 rfl]; exact g78
                have g121 : s116.1 12 1 = a2 := by rw [h115.2.1.1 12 1 rfl]; exact g79
                show Iv s116 ∧ K_X10_comb s0 s116 ∧ (((1 ≤ a1.toInt ∧ a1.toInt ≤ 5 ∧ 1 ≤ a2.toInt ∧ a2.toInt ≤ 16 ∧ 8 ≤ a3.toInt ∧ a3.toInt ≤ 32 ∧ 0 ≤ a4.toInt ∧ a4.toInt ≤ 1) ∧ (s116.1 12 0).toInt = a1.toInt ∧ (s116.1 12 1).toInt = a2.toInt ∧ vg_isneed (vg_mp a2.toInt64 (vg_cx a4 (s0.1 7 0) (s0.1 8)).toInt64 a1.toNatClampNeg) v114) ∨ (¬ (1 ≤ a1.toInt ∧ a1.toInt ≤ 5 ∧ 1 ≤ a2.toInt ∧ a2.toInt ≤ 16 ∧ 8 ≤ a3.toInt ∧ a3.toInt ≤ 32 ∧ 0 ≤ a4.toInt ∧ a4.toInt ≤ 1) ∧ (s116.1 12 0).toInt = (s0.1 12 0).toInt ∧ (s116.1 12 1).toInt = (s0.1 12 1).toInt ∧ v114.toInt = -1))
                exact ⟨i117, k118, (by first | exact Or.inl ⟨by omega, by rw [g120], by rw [g121], by rw [q119.1]; exact y1⟩ | exact Or.inr ⟨by omega, congrArg Int32.toInt (h115.2.1.1 12 0 rfl), congrArg Int32.toInt (h115.2.1.1 12 1 rfl), by omega⟩)⟩
            · have c50 : ¬ (¬ v43.toInt = 0) := c50
              refine And.intro (Nat.le_of_ble_eq_true rfl) (And.intro ⟨0, (Int32.ofInt 1), rfl, by decide, i0⟩ ?_)
              intro v122 s124 h123
              have h123 : Iv s124 ∧ Kp s0 s124 ∧ (v122.toInt = -1) := h123
              have i125 := h123.1
              have k126 : K_X10_comb s0 s124 := Kx.tr Kx.rf ((h123.2.1).px)
              have q127 := h123.2.2
              show Iv s124 ∧ K_X10_comb s0 s124 ∧ (((1 ≤ a1.toInt ∧ a1.toInt ≤ 5 ∧ 1 ≤ a2.toInt ∧ a2.toInt ≤ 16 ∧ 8 ≤ a3.toInt ∧ a3.toInt ≤ 32 ∧ 0 ≤ a4.toInt ∧ a4.toInt ≤ 1) ∧ (s124.1 12 0).toInt = a1.toInt ∧ (s124.1 12 1).toInt = a2.toInt ∧ vg_isneed (vg_mp a2.toInt64 (vg_cx a4 (s0.1 7 0) (s0.1 8)).toInt64 a1.toNatClampNeg) v122) ∨ (¬ (1 ≤ a1.toInt ∧ a1.toInt ≤ 5 ∧ 1 ≤ a2.toInt ∧ a2.toInt ≤ 16 ∧ 8 ≤ a3.toInt ∧ a3.toInt ≤ 32 ∧ 0 ≤ a4.toInt ∧ a4.toInt ≤ 1) ∧ (s124.1 12 0).toInt = (s0.1 12 0).toInt ∧ (s124.1 12 1).toInt = (s0.1 12 1).toInt ∧ v122.toInt = -1))
              exact ⟨i125, k126, (by first | exact Or.inl ⟨by omega, by rw [none], by rw [none], by rw [q127.1]; exact y1⟩ | exact Or.inr ⟨by omega, congrArg Int32.toInt (h123.2.1.1 12 0 rfl), congrArg Int32.toInt (h123.2.1.1 12 1 rfl), by omega⟩)⟩
def o_X10_taps : List vg_I := [(0, .iload_n 1, 1, 0, 0, 0, 0), (1, .invokestatic 183, 3, 0, 1, 1, 576), (4, .ifCond .eq 36, 3, 0, 0, 0, 0), (7, .iload_n 2, 1, 0, 0, 0, 0), (8, .invokestatic 183, 3, 0, 1, 1, 576), (11, .ifCond .eq 29, 3, 0, 0, 0, 0), (14, .iload_n 3, 1, 0, 0, 0, 0), (15, .invokestatic 183, 3, 0, 1, 1, 576), (18, .ifCond .eq 22, 3, 0, 0, 0, 0), (21, .iload 4, 2, 0, 0, 0, 0), (23, .invokestatic 183, 3, 0, 1, 1, 576), (26, .ifCond .eq 14, 3, 0, 0, 0, 0), (29, .iload 5, 2, 0, 0, 0, 0), (31, .iconst 0, 1, 0, 0, 0, 0), (32, .bipush 12, 2, 0, 0, 0, 0), (34, .invokestatic 82, 3, 1, 1, 3, 478), (37, .ifCond .ne 9, 3, 0, 0, 0, 0), (40, .aload_n 0, 1, 0, 0, 0, 0), (41, .iconst 1, 1, 0, 0, 0, 0), (42, .invokevirtual 90, 3, 2, 10, 1, 484), (45, .ireturn, 1, 0, 0, 0, 0), (46, .aload_n 0, 1, 0, 0, 0, 0), (47, .getfield 40, 3, 434, 10, 7, 0), (50, .iload_n 1, 1, 0, 0, 0, 0), (51, .iload_n 2, 1, 0, 0, 0, 0), (52, .iload_n 3, 1, 0, 0, 0, 0), (53, .iload 4, 2, 0, 0, 0, 0), (55, .iload 5, 2, 0, 0, 0, 0), (57, .invokevirtual 186, 3, 3, 8, 5, 579), (60, .aload_n 0, 1, 0, 0, 0, 0), (61, .iconst 4, 1, 0, 0, 0, 0), (62, .invokevirtual 106, 3, 4, 10, 1, 488), (65, .aload_n 0, 1, 0, 0, 0, 0), (66, .aload_n 0, 1, 0, 0, 0, 0), (67, .getfield 40, 3, 434, 10, 7, 0), (70, .iconst 3, 1, 0, 0, 0, 0), (71, .invokevirtual 190, 3, 5, 8, 1, 583), (74, .invokevirtual 113, 3, 6, 10, 1, 520), (77, .ireturn, 1, 0, 0, 0, 0)]
set_option maxRecDepth 100000 in
set_option maxHeartbeats 4000000 in
theorem c_X10_taps (l : Launch) (G : vg_G) (hp : vg_Hp G) : vg_Ct l G vg_sh r_X10_taps := by
  refine vg_meth hp vg_sh_ok r_X10_taps k_X10_taps rfl (fun h => by cases h) o_X10_taps [r_X10_isTap, r_X10_within, r_X10_refuse, r_X8_tell, r_X10_beginAnewFrom, r_X8_sumOf, r_X10_answer] false (by decide +kernel) (by decide +kernel) ⟨_, _, rfl, rfl⟩ (List.forall_mem_cons.mpr ⟨⟨c_X10_isTap l G hp, Nat.le_of_ble_eq_true rfl, Nat.le_of_ble_eq_true rfl⟩, List.forall_mem_cons.mpr ⟨⟨c_X10_within l G hp, Nat.le_of_ble_eq_true rfl, Nat.le_of_ble_eq_true rfl⟩, List.forall_mem_cons.mpr ⟨⟨c_X10_refuse l G hp, Nat.le_of_ble_eq_true rfl, Nat.le_of_ble_eq_true rfl⟩, List.forall_mem_cons.mpr ⟨⟨c_X8_tell l G hp, Nat.le_of_ble_eq_true rfl, Nat.le_of_ble_eq_true rfl⟩, List.forall_mem_cons.mpr ⟨⟨c_X10_beginAnewFrom l G hp, Nat.le_of_ble_eq_true rfl, Nat.le_of_ble_eq_true rfl⟩, List.forall_mem_cons.mpr ⟨⟨c_X8_sumOf l G hp, Nat.le_of_ble_eq_true rfl, Nat.le_of_ble_eq_true rfl⟩, List.forall_mem_cons.mpr ⟨⟨c_X10_answer l G hp, Nat.le_of_ble_eq_true rfl, Nat.le_of_ble_eq_true rfl⟩, fun _ h => absurd h List.not_mem_nil⟩⟩⟩⟩⟩⟩⟩) (fun h => by cases h) 600 ?_
  intro as s0 hpre
  obtain ⟨r, a1, a2, a3, a4, a5, rfl, hr, i0⟩ := hpre
  simp only [List.mem_cons, List.not_mem_nil, or_false] at hr
  rcases hr with rfl
  ·
    have z0 : (Int32.ofInt 0).toInt = 0 := by decide
    have z1 : (Int32.ofInt 1).toInt = 1 := by decide
    have z3 : (Int32.ofInt 3).toInt = 3 := by decide
    have z4 : (Int32.ofInt 4).toInt = 4 := by decide
    have z12 : (Int32.ofInt 12).toInt = 12 := by decide
    refine ⟨Nat.le_of_ble_eq_true rfl, [], ?_, fun _ h => absurd h List.not_mem_nil⟩
    ·
      refine And.intro (Nat.le_of_ble_eq_true rfl) (And.intro ⟨a1, rfl, trivial⟩ ?_)
      intro v1 s3 h2
      have h2 : s3 = s0 ∧ ((v1.toInt = 1 ∧ -999 ≤ a1.toInt ∧ a1.toInt ≤ 999) ∨ (v1.toInt = 0 ∧ (a1.toInt < -999 ∨ 999 < a1.toInt))) := h2
      have q6 := h2.1.symm
      subst q6
      have q7 := h2.2
      refine And.intro (fun c8 => ?_) (fun c8 => ?_)
      · have c8 : v1.toInt = 0 := c8
        refine And.intro (Nat.le_of_ble_eq_true rfl) (And.intro ⟨0, (Int32.ofInt 1), rfl, by decide, i0⟩ ?_)
        intro v9 s11 h10
        have h10 : Iv s11 ∧ Kp s0 s11 ∧ (v9.toInt = -1) := h10
        have i12 := h10.1
        have k13 : K_X10_taps s0 s11 := Kx.tr Kx.rf ((h10.2.1).px)
        have q14 := h10.2.2
        show Iv s11 ∧ K_X10_taps s0 s11 ∧ (((-999 ≤ a1.toInt ∧ a1.toInt ≤ 999 ∧ -999 ≤ a2.toInt ∧ a2.toInt ≤ 999 ∧ -999 ≤ a3.toInt ∧ a3.toInt ≤ 999 ∧ -999 ≤ a4.toInt ∧ a4.toInt ≤ 999 ∧ 0 ≤ a5.toInt ∧ a5.toInt ≤ 12) ∧ v9.toInt = 2 * (a1.toInt + a2.toInt + a3.toInt) + a4.toInt ∧ s11.1 16 1 = a5 ∧ s11.1 17 0 = a1 ∧ s11.1 17 1 = a2 ∧ s11.1 17 2 = a3 ∧ s11.1 17 3 = a4 ∧ s11.1 17 4 = a3 ∧ s11.1 17 5 = a2 ∧ s11.1 17 6 = a1) ∨ (¬ (-999 ≤ a1.toInt ∧ a1.toInt ≤ 999 ∧ -999 ≤ a2.toInt ∧ a2.toInt ≤ 999 ∧ -999 ≤ a3.toInt ∧ a3.toInt ≤ 999 ∧ -999 ≤ a4.toInt ∧ a4.toInt ≤ 999 ∧ 0 ≤ a5.toInt ∧ a5.toInt ≤ 12) ∧ v9.toInt = -1 ∧ s11.1 16 1 = s0.1 16 1 ∧ ∀ j : Nat, s11.1 17 j = s0.1 17 j))
        exact ⟨i12, k13, (by first | exact Or.inl ⟨by omega, by omega, None⟩ | exact Or.inr ⟨by omega, by omega, h10.2.1.1 16 1 rfl, fun j => h10.2.1.1 17 j rfl⟩)⟩
      · have c8 : ¬ (v1.toInt = 0) := c8
        refine And.intro (Nat.le_of_ble_eq_true rfl) (And.intro ⟨a2, rfl, trivial⟩ ?_)
        intro v15 s17 h16
        have h16 : s17 = s0 ∧ ((v15.toInt = 1 ∧ -999 ≤ a2.toInt ∧ a2.toInt ≤ 999) ∨ (v15.toInt = 0 ∧ (a2.toInt < -999 ∨ 999 < a2.toInt))) := h16
        have q20 := h16.1.symm
        subst q20
        have q21 := h16.2
        refine And.intro (fun c22 => ?_) (fun c22 => ?_)
        · have c22 : v15.toInt = 0 := c22
          refine And.intro (Nat.le_of_ble_eq_true rfl) (And.intro ⟨0, (Int32.ofInt 1), rfl, by decide, i0⟩ ?_)
          intro v23 s25 h24
          have h24 : Iv s25 ∧ Kp s0 s25 ∧ (v23.toInt = -1) := h24
          have i26 := h24.1
          have k27 : K_X10_taps s0 s25 := Kx.tr Kx.rf ((h24.2.1).px)
          have q28 := h24.2.2
          show Iv s25 ∧ K_X10_taps s0 s25 ∧ (((-999 ≤ a1.toInt ∧ a1.toInt ≤ 999 ∧ -999 ≤ a2.toInt ∧ a2.toInt ≤ 999 ∧ -999 ≤ a3.toInt ∧ a3.toInt ≤ 999 ∧ -999 ≤ a4.toInt ∧ a4.toInt ≤ 999 ∧ 0 ≤ a5.toInt ∧ a5.toInt ≤ 12) ∧ v23.toInt = 2 * (a1.toInt + a2.toInt + a3.toInt) + a4.toInt ∧ s25.1 16 1 = a5 ∧ s25.1 17 0 = a1 ∧ s25.1 17 1 = a2 ∧ s25.1 17 2 = a3 ∧ s25.1 17 3 = a4 ∧ s25.1 17 4 = a3 ∧ s25.1 17 5 = a2 ∧ s25.1 17 6 = a1) ∨ (¬ (-999 ≤ a1.toInt ∧ a1.toInt ≤ 999 ∧ -999 ≤ a2.toInt ∧ a2.toInt ≤ 999 ∧ -999 ≤ a3.toInt ∧ a3.toInt ≤ 999 ∧ -999 ≤ a4.toInt ∧ a4.toInt ≤ 999 ∧ 0 ≤ a5.toInt ∧ a5.toInt ≤ 12) ∧ v23.toInt = -1 ∧ s25.1 16 1 = s0.1 16 1 ∧ ∀ j : Nat, s25.1 17 j = s0.1 17 j))
          exact ⟨i26, k27, (by first | exact Or.inl ⟨by omega, by omega, None⟩ | exact Or.inr ⟨by omega, by omega, h24.2.1.1 16 1 rfl, fun j => h24.2.1.1 17 j rfl⟩)⟩
        · have c22 : ¬ (v15.toInt = 0) := c22
          refine And.intro (Nat.le_of_ble_eq_true rfl) (And.intro ⟨a3, rfl, trivial⟩ ?_)
          intro v29 s31 h30
          have h30 : s31 = s0 ∧ ((v29.toInt = 1 ∧ -999 ≤ a3.toInt ∧ a3.toInt ≤ 999) ∨ (v29.toInt = 0 ∧ (a3.toInt < -999 ∨ 999 < a3.toInt))) := h30
          have q34 := h30.1.symm
          subst q34
          have q35 := h30.2
          refine And.intro (fun c36 => ?_) (fun c36 => ?_)
          · have c36 : v29.toInt = 0 := c36
            refine And.intro (Nat.le_of_ble_eq_true rfl) (And.intro ⟨0, (Int32.ofInt 1), rfl, by decide, i0⟩ ?_)
            intro v37 s39 h38
            have h38 : Iv s39 ∧ Kp s0 s39 ∧ (v37.toInt = -1) := h38
            have i40 := h38.1
            have k41 : K_X10_taps s0 s39 := Kx.tr Kx.rf ((h38.2.1).px)
            have q42 := h38.2.2
            show Iv s39 ∧ K_X10_taps s0 s39 ∧ (((-999 ≤ a1.toInt ∧ a1.toInt ≤ 999 ∧ -999 ≤ a2.toInt ∧ a2.toInt ≤ 999 ∧ -999 ≤ a3.toInt ∧ a3.toInt ≤ 999 ∧ -999 ≤ a4.toInt ∧ a4.toInt ≤ 999 ∧ 0 ≤ a5.toInt ∧ a5.toInt ≤ 12) ∧ v37.toInt = 2 * (a1.toInt + a2.toInt + a3.toInt) + a4.toInt ∧ s39.1 16 1 = a5 ∧ s39.1 17 0 = a1 ∧ s39.1 17 1 = a2 ∧ s39.1 17 2 = a3 ∧ s39.1 17 3 = a4 ∧ s39.1 17 4 = a3 ∧ s39.1 17 5 = a2 ∧ s39.1 17 6 = a1) ∨ (¬ (-999 ≤ a1.toInt ∧ a1.toInt ≤ 999 ∧ -999 ≤ a2.toInt ∧ a2.toInt ≤ 999 ∧ -999 ≤ a3.toInt ∧ a3.toInt ≤ 999 ∧ -999 ≤ a4.toInt ∧ a4.toInt ≤ 999 ∧ 0 ≤ a5.toInt ∧ a5.toInt ≤ 12) ∧ v37.toInt = -1 ∧ s39.1 16 1 = s0.1 16 1 ∧ ∀ j : Nat, s39.1 17 j = s0.1 17 j))
            exact ⟨i40, k41, (by first | exact Or.inl ⟨by omega, by omega, None⟩ | exact Or.inr ⟨by omega, by omega, h38.2.1.1 16 1 rfl, fun j => h38.2.1.1 17 j rfl⟩)⟩
          · have c36 : ¬ (v29.toInt = 0) := c36
            refine And.intro (Nat.le_of_ble_eq_true rfl) (And.intro ⟨a4, rfl, trivial⟩ ?_)
            intro v43 s45 h44
            have h44 : s45 = s0 ∧ ((v43.toInt = 1 ∧ -999 ≤ a4.toInt ∧ a4.toInt ≤ 999) ∨ (v43.toInt = 0 ∧ (a4.toInt < -999 ∨ 999 < a4.toInt))) := h44
            have q48 := h44.1.symm
            subst q48
            have q49 := h44.2
            refine And.intro (fun c50 => ?_) (fun c50 => ?_)
            · have c50 : v43.toInt = 0 := c50
              refine And.intro (Nat.le_of_ble_eq_true rfl) (And.intro ⟨0, (Int32.ofInt 1), rfl, by decide, i0⟩ ?_)
              intro v51 s53 h52
              have h52 : Iv s53 ∧ Kp s0 s53 ∧ (v51.toInt = -1) := h52
              have i54 := h52.1
              have k55 : K_X10_taps s0 s53 := Kx.tr Kx.rf ((h52.2.1).px)
              have q56 := h52.2.2
              show Iv s53 ∧ K_X10_taps s0 s53 ∧ (((-999 ≤ a1.toInt ∧ a1.toInt ≤ 999 ∧ -999 ≤ a2.toInt ∧ a2.toInt ≤ 999 ∧ -999 ≤ a3.toInt ∧ a3.toInt ≤ 999 ∧ -999 ≤ a4.toInt ∧ a4.toInt ≤ 999 ∧ 0 ≤ a5.toInt ∧ a5.toInt ≤ 12) ∧ v51.toInt = 2 * (a1.toInt + a2.toInt + a3.toInt) + a4.toInt ∧ s53.1 16 1 = a5 ∧ s53.1 17 0 = a1 ∧ s53.1 17 1 = a2 ∧ s53.1 17 2 = a3 ∧ s53.1 17 3 = a4 ∧ s53.1 17 4 = a3 ∧ s53.1 17 5 = a2 ∧ s53.1 17 6 = a1) ∨ (¬ (-999 ≤ a1.toInt ∧ a1.toInt ≤ 999 ∧ -999 ≤ a2.toInt ∧ a2.toInt ≤ 999 ∧ -999 ≤ a3.toInt ∧ a3.toInt ≤ 999 ∧ -999 ≤ a4.toInt ∧ a4.toInt ≤ 999 ∧ 0 ≤ a5.toInt ∧ a5.toInt ≤ 12) ∧ v51.toInt = -1 ∧ s53.1 16 1 = s0.1 16 1 ∧ ∀ j : Nat, s53.1 17 j = s0.1 17 j))
              exact ⟨i54, k55, (by first | exact Or.inl ⟨by omega, by omega, None⟩ | exact Or.inr ⟨by omega, by omega, h52.2.1.1 16 1 rfl, fun j => h52.2.1.1 17 j rfl⟩)⟩
            · have c50 : ¬ (v43.toInt = 0) := c50
              refine And.intro (Nat.le_of_ble_eq_true rfl) (And.intro ⟨a5, (Int32.ofInt 0), (Int32.ofInt 12), rfl, trivial⟩ ?_)
              intro v57 s59 h58
              have h58 : s59 = s0 ∧ ((v57.toInt = 1 ∧ (Int32.ofInt 0).toInt ≤ a5.toInt ∧ a5.toInt ≤ (Int32.ofInt 12).toInt) ∨ (v57.toInt = 0 ∧ (a5.toInt < (Int32.ofInt 0).toInt ∨ (Int32.ofInt 12).toInt < a5.toInt))) := h58
              have q62 := h58.1.symm
              subst q62
              have q63 := h58.2
              refine And.intro (fun c64 => ?_) (fun c64 => ?_)
              · have c64 : ¬ v57.toInt = 0 := c64
                refine And.intro (Nat.le_of_ble_eq_true rfl) (And.intro ⟨16, a1, a2, a3, a4, a5, rfl, by decide, i0⟩ ?_)
                intro s66 h65
                have h65 : Iv s66 ∧ K_X10_taps s0 s66 ∧ (s66.1 16 1 = a5 ∧ s66.1 17 0 = a1 ∧ s66.1 17 1 = a2 ∧ s66.1 17 2 = a3 ∧ s66.1 17 3 = a4 ∧ s66.1 17 4 = a3 ∧ s66.1 17 5 = a2 ∧ s66.1 17 6 = a1) := h65
                have i67 := h65.1
                have k68 : K_X10_taps s0 s66 := Kx.tr Kx.rf (h65.2.1)
                have q69 := h65.2.2
                have y0 := q69.2
                have y70 : s66.1 16 1 = a5 ∧ s66.1 17 0 = a1 ∧ s66.1 17 1 = a2 ∧ s66.1 17 2 = a3 ∧ s66.1 17 3 = a4 ∧ s66.1 17 4 = a3 ∧ s66.1 17 5 = a2 ∧ s66.1 17 6 = a1 := q69
                refine And.intro (Nat.le_of_ble_eq_true rfl) (And.intro ⟨0, (Int32.ofInt 4), rfl, by decide, i67, by omega⟩ ?_)
                intro s72 h71
                have h71 : Iv s72 ∧ Kp s66 s72 ∧ (True) := h71
                have i73 := h71.1
                have k74 : K_X10_taps s0 s72 := Kx.tr k68 ((h71.2.1).px)
                have y75 : s72.1 16 1 = a5 ∧ s72.1 17 0 = a1 ∧ s72.1 17 1 = a2 ∧ s72.1 17 2 = a3 ∧ s72.1 17 3 = a4 ∧ s72.1 17 4 = a3 ∧ s72.1 17 5 = a2 ∧ s72.1 17 6 = a1 := by rw [h71.2.1.1 16 1 rfl, h71.2.1.1 17 0 rfl, h71.2.1.1 17 1 rfl, h71.2.1.1 17 2 rfl, h71.2.1.1 17 3 rfl, h71.2.1.1 17 4 rfl, h71.2.1.1 17 5 rfl, h71.2.1.1 17 6 rfl]; exact y70
                have y1 : s72.1 17 0 = a1 ∧ s72.1 17 1 = a2 ∧ s72.1 17 2 = a3 ∧ s72.1 17 3 = a4 ∧ s72.1 17 4 = a3 ∧ s72.1 17 5 = a2 ∧ s72.1 17 6 = a1 := by rw [h71.2.1.1 17 0 rfl, h71.2.1.1 17 1 rfl, h71.2.1.1 17 2 rfl, h71.2.1.1 17 3 rfl, h71.2.1.1 17 4 rfl, h71.2.1.1 17 5 rfl, h71.2.1.1 17 6 rfl]; exact y0
                refine And.intro (Nat.le_of_ble_eq_true rfl) (And.intro ⟨16, (Int32.ofInt 3), rfl, by decide, i73⟩ ?_)
                intro v76 s78 h77
                have h77 : s78 = s72 ∧ (((Int32.ofInt 3).toInt = 3 → v76 = vg_rs (s72.1 17) 7) ∧ ((Int32.ofInt 3).toInt = 0 → v76.toInt = 4) ∧ ((Int32.ofInt 3).toInt = 1 → v76.toInt = 32) ∧ ((Int32.ofInt 3).toInt = 2 → v76.toInt = 512)) := h77
                have q81 := h77.1.symm
                subst q81
                have q82 := h77.2
                have y2 : v76.toInt = 2 * (a1.toInt + a2.toInt + a3.toInt) + a4.toInt := by rw [q82.1 (by decide)]; exact vg_sum7 y1 (by omega) (by omega) (by omega) (by omega)
                refine And.intro (Nat.le_of_ble_eq_true rfl) (And.intro ⟨0, v76, rfl, by decide, i73⟩ ?_)
                intro v83 s85 h84
                have h84 : Iv s85 ∧ Kp s72 s85 ∧ (v83 = v76 ∧ v83.toInt = v76.toInt) := h84
                have i86 := h84.1
                have k87 : K_X10_taps s0 s85 := Kx.tr k74 ((h84.2.1).px)
                have q88 := h84.2.2
                have y89 : s85.1 16 1 = a5 ∧ s85.1 17 0 = a1 ∧ s85.1 17 1 = a2 ∧ s85.1 17 2 = a3 ∧ s85.1 17 3 = a4 ∧ s85.1 17 4 = a3 ∧ s85.1 17 5 = a2 ∧ s85.1 17 6 = a1 := by rw [h84.2.1.1 16 1 rfl, h84.2.1.1 17 0 rfl, h84.2.1.1 17 1 rfl, h84.2.1.1 17 2 rfl, h84.2.1.1 17 3 rfl, h84.2.1.1 17 4 rfl, h84.2.1.1 17 5 rfl, h84.2.1.1 17 6 rfl]; exact y75
                show Iv s85 ∧ K_X10_taps s0 s85 ∧ (((-999 ≤ a1.toInt ∧ a1.toInt ≤ 999 ∧ -999 ≤ a2.toInt ∧ a2.toInt ≤ 999 ∧ -999 ≤ a3.toInt ∧ a3.toInt ≤ 999 ∧ -999 ≤ a4.toInt ∧ a4.toInt ≤ 999 ∧ 0 ≤ a5.toInt ∧ a5.toInt ≤ 12) ∧ v83.toInt = 2 * (a1.toInt + a2.toInt + a3.toInt) + a4.toInt ∧ s85.1 16 1 = a5 ∧ s85.1 17 0 = a1 ∧ s85.1 17 1 = a2 ∧ s85.1 17 2 = a3 ∧ s85.1 17 3 = a4 ∧ s85.1 17 4 = a3 ∧ s85.1 17 5 = a2 ∧ s85.1 17 6 = a1) ∨ (¬ (-999 ≤ a1.toInt ∧ a1.toInt ≤ 999 ∧ -999 ≤ a2.toInt ∧ a2.toInt ≤ 999 ∧ -999 ≤ a3.toInt ∧ a3.toInt ≤ 999 ∧ -999 ≤ a4.toInt ∧ a4.toInt ≤ 999 ∧ 0 ≤ a5.toInt ∧ a5.toInt ≤ 12) ∧ v83.toInt = -1 ∧ s85.1 16 1 = s0.1 16 1 ∧ ∀ j : Nat, s85.1 17 j = s0.1 17 j))
                exact ⟨i86, k87, (by first | exact Or.inl ⟨by omega, by omega, y89⟩ | exact Or.inr ⟨by omega, by omega, h84.2.1.1 16 1 rfl, fun j => h84.2.1.1 17 j rfl⟩)⟩
              · have c64 : ¬ (¬ v57.toInt = 0) := c64
                refine And.intro (Nat.le_of_ble_eq_true rfl) (And.intro ⟨0, (Int32.ofInt 1), rfl, by decide, i0⟩ ?_)
                intro v90 s92 h91
                have h91 : Iv s92 ∧ Kp s0 s92 ∧ (v90.toInt = -1) := h91
                have i93 := h91.1
                have k94 : K_X10_taps s0 s92 := Kx.tr Kx.rf ((h91.2.1).px)
                have q95 := h91.2.2
                show Iv s92 ∧ K_X10_taps s0 s92 ∧ (((-999 ≤ a1.toInt ∧ a1.toInt ≤ 999 ∧ -999 ≤ a2.toInt ∧ a2.toInt ≤ 999 ∧ -999 ≤ a3.toInt ∧ a3.toInt ≤ 999 ∧ -999 ≤ a4.toInt ∧ a4.toInt ≤ 999 ∧ 0 ≤ a5.toInt ∧ a5.toInt ≤ 12) ∧ v90.toInt = 2 * (a1.toInt + a2.toInt + a3.toInt) + a4.toInt ∧ s92.1 16 1 = a5 ∧ s92.1 17 0 = a1 ∧ s92.1 17 1 = a2 ∧ s92.1 17 2 = a3 ∧ s92.1 17 3 = a4 ∧ s92.1 17 4 = a3 ∧ s92.1 17 5 = a2 ∧ s92.1 17 6 = a1) ∨ (¬ (-999 ≤ a1.toInt ∧ a1.toInt ≤ 999 ∧ -999 ≤ a2.toInt ∧ a2.toInt ≤ 999 ∧ -999 ≤ a3.toInt ∧ a3.toInt ≤ 999 ∧ -999 ≤ a4.toInt ∧ a4.toInt ≤ 999 ∧ 0 ≤ a5.toInt ∧ a5.toInt ≤ 12) ∧ v90.toInt = -1 ∧ s92.1 16 1 = s0.1 16 1 ∧ ∀ j : Nat, s92.1 17 j = s0.1 17 j))
                exact ⟨i93, k94, (by first | exact Or.inl ⟨by omega, by omega, None⟩ | exact Or.inr ⟨by omega, by omega, h91.2.1.1 16 1 rfl, fun j => h91.2.1.1 17 j rfl⟩)⟩
def o_X10_folds : List vg_I := [(0, .iload_n 1, 1, 0, 0, 0, 0), (1, .iconst 0, 1, 0, 0, 0, 0), (2, .iconst 3, 1, 0, 0, 0, 0), (3, .invokestatic 82, 3, 0, 1, 3, 478), (6, .ifCond .eq 25, 3, 0, 0, 0, 0), (9, .iload_n 2, 1, 0, 0, 0, 0), (10, .invokestatic 193, 3, 1, 1, 1, 601), (13, .ifCond .eq 18, 3, 0, 0, 0, 0), (16, .iload_n 3, 1, 0, 0, 0, 0), (17, .invokestatic 193, 3, 1, 1, 1, 601), (20, .ifCond .eq 11, 3, 0, 0, 0, 0), (23, .iload 4, 2, 0, 0, 0, 0), (25, .invokestatic 193, 3, 1, 1, 1, 601), (28, .ifCond .ne 9, 3, 0, 0, 0, 0), (31, .aload_n 0, 1, 0, 0, 0, 0), (32, .iconst 1, 1, 0, 0, 0, 0), (33, .invokevirtual 90, 3, 2, 10, 1, 484), (36, .ireturn, 1, 0, 0, 0, 0), (37, .aload_n 0, 1, 0, 0, 0, 0), (38, .iload_n 1, 1, 0, 0, 0, 0), (39, .putfield 196, 3, 429, 10, 2, 0), (42, .aload_n 0, 1, 0, 0, 0, 0), (43, .getfield 46, 3, 435, 10, 8, 0), (46, .iconst 0, 1, 0, 0, 0, 0), (47, .aaload, 1, 0, 0, 0, 0), (48, .iload_n 2, 1, 0, 0, 0, 0), (49, .putfield 199, 3, 394, 3, 0, 0), (52, .aload_n 0, 1, 0, 0, 0, 0), (53, .getfield 46, 3, 435, 10, 8, 0), (56, .iconst 1, 1, 0, 0, 0, 0), (57, .aaload, 1, 0, 0, 0, 0), (58, .iload_n 3, 1, 0, 0, 0, 0), (59, .putfield 199, 3, 394, 3, 0, 0), (62, .aload_n 0, 1, 0, 0, 0, 0), (63, .getfield 46, 3, 435, 10, 8, 0), (66, .iconst 2, 1, 0, 0, 0, 0), (67, .aaload, 1, 0, 0, 0, 0), (68, .iload 4, 2, 0, 0, 0, 0), (70, .putfield 199, 3, 394, 3, 0, 0), (73, .aload_n 0, 1, 0, 0, 0, 0), (74, .iconst 4, 1, 0, 0, 0, 0), (75, .invokevirtual 106, 3, 3, 10, 1, 488), (78, .aload_n 0, 1, 0, 0, 0, 0), (79, .iconst 1, 1, 0, 0, 0, 0), (80, .iload_n 1, 1, 0, 0, 0, 0), (81, .ishl, 1, 0, 0, 0, 0), (82, .invokevirtual 113, 3, 4, 10, 1, 520), (85, .ireturn, 1, 0, 0, 0, 0)]
set_option maxRecDepth 100000 in
set_option maxHeartbeats 4000000 in
theorem c_X10_folds (l : Launch) (G : vg_G) (hp : vg_Hp G) : vg_Ct l G vg_sh r_X10_folds := by
  refine vg_meth hp vg_sh_ok r_X10_folds k_X10_folds rfl (fun h => by cases h) o_X10_folds [r_X10_within, r_X8_isKind, r_X10_refuse, r_X10_beginAnewFrom, r_X10_answer] false (by decide +kernel) (by decide +kernel) ⟨_, _, rfl, rfl⟩ (List.forall_mem_cons.mpr ⟨⟨c_X10_within l G hp, Nat.le_of_ble_eq_true rfl, Nat.le_of_ble_eq_true rfl⟩, List.forall_mem_cons.mpr ⟨⟨c_X8_isKind l G hp, Nat.le_of_ble_eq_true rfl, Nat.le_of_ble_eq_true rfl⟩, List.forall_mem_cons.mpr ⟨⟨c_X10_refuse l G hp, Nat.le_of_ble_eq_true rfl, Nat.le_of_ble_eq_true rfl⟩, List.forall_mem_cons.mpr ⟨⟨c_X10_beginAnewFrom l G hp, Nat.le_of_ble_eq_true rfl, Nat.le_of_ble_eq_true rfl⟩, List.forall_mem_cons.mpr ⟨⟨c_X10_answer l G hp, Nat.le_of_ble_eq_true rfl, Nat.le_of_ble_eq_true rfl⟩, fun _ h => absurd h List.not_mem_nil⟩⟩⟩⟩⟩) (fun h => by cases h) 600 ?_
  intro as s0 hpre
  obtain ⟨r, a1, a2, a3, a4, rfl, hr, i0⟩ := hpre
  simp only [List.mem_cons, List.not_mem_nil, or_false] at hr
  rcases hr with rfl
  ·
    have z0 : (Int32.ofInt 0).toInt = 0 := by decide
    have z1 : (Int32.ofInt 1).toInt = 1 := by decide
    have z2 : (Int32.ofInt 2).toInt = 2 := by decide
    have z3 : (Int32.ofInt 3).toInt = 3 := by decide
    have z4 : (Int32.ofInt 4).toInt = 4 := by decide
    refine ⟨Nat.le_of_ble_eq_true rfl, [], ?_, fun _ h => absurd h List.not_mem_nil⟩
    ·
      refine And.intro (Nat.le_of_ble_eq_true rfl) (And.intro ⟨a1, (Int32.ofInt 0), (Int32.ofInt 3), rfl, trivial⟩ ?_)
      intro v1 s3 h2
      have h2 : s3 = s0 ∧ ((v1.toInt = 1 ∧ (Int32.ofInt 0).toInt ≤ a1.toInt ∧ a1.toInt ≤ (Int32.ofInt 3).toInt) ∨ (v1.toInt = 0 ∧ (a1.toInt < (Int32.ofInt 0).toInt ∨ (Int32.ofInt 3).toInt < a1.toInt))) := h2
      have q6 := h2.1.symm
      subst q6
      have q7 := h2.2
      refine And.intro (fun c8 => ?_) (fun c8 => ?_)
      · have c8 : v1.toInt = 0 := c8
        refine And.intro (Nat.le_of_ble_eq_true rfl) (And.intro ⟨0, (Int32.ofInt 1), rfl, by decide, i0⟩ ?_)
        intro v9 s11 h10
        have h10 : Iv s11 ∧ Kp s0 s11 ∧ (v9.toInt = -1) := h10
        have i12 := h10.1
        have k13 : K_X10_folds s0 s11 := Kx.tr Kx.rf ((h10.2.1).px)
        have q14 := h10.2.2
        show Iv s11 ∧ K_X10_folds s0 s11 ∧ (((0 ≤ a1.toInt ∧ a1.toInt ≤ 3 ∧ 0 ≤ a2.toInt ∧ a2.toInt ≤ 3 ∧ 0 ≤ a3.toInt ∧ a3.toInt ≤ 3 ∧ 0 ≤ a4.toInt ∧ a4.toInt ≤ 3) ∧ v9.toInt = (vg_af a1).toInt) ∨ (¬ (0 ≤ a1.toInt ∧ a1.toInt ≤ 3 ∧ 0 ≤ a2.toInt ∧ a2.toInt ≤ 3 ∧ 0 ≤ a3.toInt ∧ a3.toInt ≤ 3 ∧ 0 ≤ a4.toInt ∧ a4.toInt ≤ 3) ∧ v9.toInt = -1))
        exact ⟨i12, k13, (by first | trivial | omega | assumption)⟩
      · have c8 : ¬ (v1.toInt = 0) := c8
        refine And.intro (Nat.le_of_ble_eq_true rfl) (And.intro ⟨a2, rfl, trivial⟩ ?_)
        intro v15 s17 h16
        have h16 : s17 = s0 ∧ ((v15.toInt = 1 ∧ 0 ≤ a2.toInt ∧ a2.toInt ≤ 3) ∨ (v15.toInt = 0 ∧ (a2.toInt < 0 ∨ 3 < a2.toInt))) := h16
        have q20 := h16.1.symm
        subst q20
        have q21 := h16.2
        refine And.intro (fun c22 => ?_) (fun c22 => ?_)
        · have c22 : v15.toInt = 0 := c22
          refine And.intro (Nat.le_of_ble_eq_true rfl) (And.intro ⟨0, (Int32.ofInt 1), rfl, by decide, i0⟩ ?_)
          intro v23 s25 h24
          have h24 : Iv s25 ∧ Kp s0 s25 ∧ (v23.toInt = -1) := h24
          have i26 := h24.1
          have k27 : K_X10_folds s0 s25 := Kx.tr Kx.rf ((h24.2.1).px)
          have q28 := h24.2.2
          show Iv s25 ∧ K_X10_folds s0 s25 ∧ (((0 ≤ a1.toInt ∧ a1.toInt ≤ 3 ∧ 0 ≤ a2.toInt ∧ a2.toInt ≤ 3 ∧ 0 ≤ a3.toInt ∧ a3.toInt ≤ 3 ∧ 0 ≤ a4.toInt ∧ a4.toInt ≤ 3) ∧ v23.toInt = (vg_af a1).toInt) ∨ (¬ (0 ≤ a1.toInt ∧ a1.toInt ≤ 3 ∧ 0 ≤ a2.toInt ∧ a2.toInt ≤ 3 ∧ 0 ≤ a3.toInt ∧ a3.toInt ≤ 3 ∧ 0 ≤ a4.toInt ∧ a4.toInt ≤ 3) ∧ v23.toInt = -1))
          exact ⟨i26, k27, (by first | trivial | omega | assumption)⟩
        · have c22 : ¬ (v15.toInt = 0) := c22
          refine And.intro (Nat.le_of_ble_eq_true rfl) (And.intro ⟨a3, rfl, trivial⟩ ?_)
          intro v29 s31 h30
          have h30 : s31 = s0 ∧ ((v29.toInt = 1 ∧ 0 ≤ a3.toInt ∧ a3.toInt ≤ 3) ∨ (v29.toInt = 0 ∧ (a3.toInt < 0 ∨ 3 < a3.toInt))) := h30
          have q34 := h30.1.symm
          subst q34
          have q35 := h30.2
          refine And.intro (fun c36 => ?_) (fun c36 => ?_)
          · have c36 : v29.toInt = 0 := c36
            refine And.intro (Nat.le_of_ble_eq_true rfl) (And.intro ⟨0, (Int32.ofInt 1), rfl, by decide, i0⟩ ?_)
            intro v37 s39 h38
            have h38 : Iv s39 ∧ Kp s0 s39 ∧ (v37.toInt = -1) := h38
            have i40 := h38.1
            have k41 : K_X10_folds s0 s39 := Kx.tr Kx.rf ((h38.2.1).px)
            have q42 := h38.2.2
            show Iv s39 ∧ K_X10_folds s0 s39 ∧ (((0 ≤ a1.toInt ∧ a1.toInt ≤ 3 ∧ 0 ≤ a2.toInt ∧ a2.toInt ≤ 3 ∧ 0 ≤ a3.toInt ∧ a3.toInt ≤ 3 ∧ 0 ≤ a4.toInt ∧ a4.toInt ≤ 3) ∧ v37.toInt = (vg_af a1).toInt) ∨ (¬ (0 ≤ a1.toInt ∧ a1.toInt ≤ 3 ∧ 0 ≤ a2.toInt ∧ a2.toInt ≤ 3 ∧ 0 ≤ a3.toInt ∧ a3.toInt ≤ 3 ∧ 0 ≤ a4.toInt ∧ a4.toInt ≤ 3) ∧ v37.toInt = -1))
            exact ⟨i40, k41, (by first | trivial | omega | assumption)⟩
          · have c36 : ¬ (v29.toInt = 0) := c36
            refine And.intro (Nat.le_of_ble_eq_true rfl) (And.intro ⟨a4, rfl, trivial⟩ ?_)
            intro v43 s45 h44
            have h44 : s45 = s0 ∧ ((v43.toInt = 1 ∧ 0 ≤ a4.toInt ∧ a4.toInt ≤ 3) ∨ (v43.toInt = 0 ∧ (a4.toInt < 0 ∨ 3 < a4.toInt))) := h44
            have q48 := h44.1.symm
            subst q48
            have q49 := h44.2
            refine And.intro (fun c50 => ?_) (fun c50 => ?_)
            · have c50 : ¬ v43.toInt = 0 := c50
              intro s51 e52
              have i53 : Iv s51 := Iv.c1 (lo := 0) (hi := 3) i0 e52 rfl (by omega) (by omega)
              have k54 : K_X10_folds s0 s51 := Kx.u1 Kx.rf e52 rfl
              refine And.intro rfl (And.intro ⟨by omega, by omega⟩ ?_)
              refine And.intro (fun c55 => ?_) ?_
              · have c55 : (Int32.ofInt 0).toInt = (0) := c55
                intro s56 e57
                have i58 : Iv s56 := Iv.u1 i53 e57 rfl
                have k59 : K_X10_folds s0 s56 := Kx.u1 k54 e57 rfl
                refine And.intro rfl (And.intro ⟨by omega, by omega⟩ ?_)
                refine And.intro (fun c60 => ?_) ?_
                · have c60 : (Int32.ofInt 1).toInt = (0) := c60
                  exfalso
                  omega
                refine And.intro (fun c61 => ?_) ?_
                · have c61 : (Int32.ofInt 1).toInt = (1) := c61
                  intro s62 e63
                  have i64 : Iv s62 := Iv.u1 i58 e63 rfl
                  have k65 : K_X10_folds s0 s62 := Kx.u1 k59 e63 rfl
                  refine And.intro rfl (And.intro ⟨by omega, by omega⟩ ?_)
                  refine And.intro (fun c66 => ?_) ?_
                  · have c66 : (Int32.ofInt 2).toInt = (0) := c66
                    exfalso
                    omega
                  refine And.intro (fun c67 => ?_) ?_
                  · have c67 : (Int32.ofInt 2).toInt = (1) := c67
                    exfalso
                    omega
                  refine And.intro (fun c68 => ?_) ?_
                  · have c68 : (Int32.ofInt 2).toInt = (2) := c68
                    intro s69 e70
                    have i71 : Iv s69 := Iv.u1 i64 e70 rfl
                    have k72 : K_X10_folds s0 s69 := Kx.u1 k65 e70 rfl
                    refine And.intro (Nat.le_of_ble_eq_true rfl) (And.intro ⟨0, (Int32.ofInt 4), rfl, by decide, i71, by omega⟩ ?_)
                    intro s74 h73
                    have h73 : Iv s74 ∧ Kp s69 s74 ∧ (True) := h73
                    have i75 := h73.1
                    have k76 : K_X10_folds s0 s74 := Kx.tr k72 ((h73.2.1).px)
                    intro v77 e78
                    have y1 : v77.toInt = (vg_af a1).toInt := congrArg Int32.toInt (by assumption)
                    refine And.intro (Nat.le_of_ble_eq_true rfl) (And.intro ⟨0, v77, rfl, by decide, i75⟩ ?_)
                    intro v79 s81 h80
                    have h80 : Iv s81 ∧ Kp s74 s81 ∧ (v79 = v77 ∧ v79.toInt = v77.toInt) := h80
                    have i82 := h80.1
                    have k83 : K_X10_folds s0 s81 := Kx.tr k76 ((h80.2.1).px)
                    have q84 := h80.2.2
                    show Iv s81 ∧ K_X10_folds s0 s81 ∧ (((0 ≤ a1.toInt ∧ a1.toInt ≤ 3 ∧ 0 ≤ a2.toInt ∧ a2.toInt ≤ 3 ∧ 0 ≤ a3.toInt ∧ a3.toInt ≤ 3 ∧ 0 ≤ a4.toInt ∧ a4.toInt ≤ 3) ∧ v79.toInt = (vg_af a1).toInt) ∨ (¬ (0 ≤ a1.toInt ∧ a1.toInt ≤ 3 ∧ 0 ≤ a2.toInt ∧ a2.toInt ≤ 3 ∧ 0 ≤ a3.toInt ∧ a3.toInt ≤ 3 ∧ 0 ≤ a4.toInt ∧ a4.toInt ≤ 3) ∧ v79.toInt = -1))
                    exact ⟨i82, k83, (by first | trivial | omega | assumption)⟩
                  exact trivial
                refine And.intro (fun c85 => ?_) ?_
                · have c85 : (Int32.ofInt 1).toInt = (2) := c85
                  exfalso
                  omega
                exact trivial
              refine And.intro (fun c86 => ?_) ?_
              · have c86 : (Int32.ofInt 0).toInt = (1) := c86
                exfalso
                omega
              refine And.intro (fun c87 => ?_) ?_
              · have c87 : (Int32.ofInt 0).toInt = (2) := c87
                exfalso
                omega
              exact trivial
            · have c50 : ¬ (¬ v43.toInt = 0) := c50
              refine And.intro (Nat.le_of_ble_eq_true rfl) (And.intro ⟨0, (Int32.ofInt 1), rfl, by decide, i0⟩ ?_)
              intro v88 s90 h89
              have h89 : Iv s90 ∧ Kp s0 s90 ∧ (v88.toInt = -1) := h89
              have i91 := h89.1
              have k92 : K_X10_folds s0 s90 := Kx.tr Kx.rf ((h89.2.1).px)
              have q93 := h89.2.2
              show Iv s90 ∧ K_X10_folds s0 s90 ∧ (((0 ≤ a1.toInt ∧ a1.toInt ≤ 3 ∧ 0 ≤ a2.toInt ∧ a2.toInt ≤ 3 ∧ 0 ≤ a3.toInt ∧ a3.toInt ≤ 3 ∧ 0 ≤ a4.toInt ∧ a4.toInt ≤ 3) ∧ v88.toInt = (vg_af a1).toInt) ∨ (¬ (0 ≤ a1.toInt ∧ a1.toInt ≤ 3 ∧ 0 ≤ a2.toInt ∧ a2.toInt ≤ 3 ∧ 0 ≤ a3.toInt ∧ a3.toInt ≤ 3 ∧ 0 ≤ a4.toInt ∧ a4.toInt ≤ 3) ∧ v88.toInt = -1))
              exact ⟨i91, k92, (by first | trivial | omega | assumption)⟩
def o_X10_anew : List vg_I := [(0, .iload_n 1, 1, 0, 0, 0, 0), (1, .invokestatic 201, 3, 0, 1, 1, 609), (4, .ifCond .ne 9, 3, 0, 0, 0, 0), (7, .aload_n 0, 1, 0, 0, 0, 0), (8, .iconst 2, 1, 0, 0, 0, 0), (9, .invokevirtual 90, 3, 1, 10, 1, 484), (12, .ireturn, 1, 0, 0, 0, 0), (13, .aload_n 0, 1, 0, 0, 0, 0), (14, .iload_n 1, 1, 0, 0, 0, 0), (15, .invokevirtual 106, 3, 2, 10, 1, 488), (18, .aload_n 0, 1, 0, 0, 0, 0), (19, .aload_n 0, 1, 0, 0, 0, 0), (20, .getfield 110, 3, 428, 10, 1, 0), (23, .invokevirtual 113, 3, 3, 10, 1, 520), (26, .ireturn, 1, 0, 0, 0, 0)]
set_option maxRecDepth 100000 in
set_option maxHeartbeats 4000000 in
theorem c_X10_anew (l : Launch) (G : vg_G) (hp : vg_Hp G) : vg_Ct l G vg_sh r_X10_anew := by
  refine vg_meth hp vg_sh_ok r_X10_anew k_X10_anew rfl (fun h => by cases h) o_X10_anew [r_X10_isStage, r_X10_refuse, r_X10_beginAnewFrom, r_X10_answer] false (by decide +kernel) (by decide +kernel) ⟨_, _, rfl, rfl⟩ (List.forall_mem_cons.mpr ⟨⟨c_X10_isStage l G hp, Nat.le_of_ble_eq_true rfl, Nat.le_of_ble_eq_true rfl⟩, List.forall_mem_cons.mpr ⟨⟨c_X10_refuse l G hp, Nat.le_of_ble_eq_true rfl, Nat.le_of_ble_eq_true rfl⟩, List.forall_mem_cons.mpr ⟨⟨c_X10_beginAnewFrom l G hp, Nat.le_of_ble_eq_true rfl, Nat.le_of_ble_eq_true rfl⟩, List.forall_mem_cons.mpr ⟨⟨c_X10_answer l G hp, Nat.le_of_ble_eq_true rfl, Nat.le_of_ble_eq_true rfl⟩, fun _ h => absurd h List.not_mem_nil⟩⟩⟩⟩) (fun h => by cases h) 600 ?_
  intro as s0 hpre
  obtain ⟨r, a1, rfl, hr, i0⟩ := hpre
  simp only [List.mem_cons, List.not_mem_nil, or_false] at hr
  rcases hr with rfl
  ·
    have z2 : (Int32.ofInt 2).toInt = 2 := by decide
    refine ⟨Nat.le_of_ble_eq_true rfl, [], ?_, fun _ h => absurd h List.not_mem_nil⟩
    ·
      refine And.intro (Nat.le_of_ble_eq_true rfl) (And.intro ⟨a1, rfl, trivial⟩ ?_)
      intro v1 s3 h2
      have h2 : s3 = s0 ∧ ((v1.toInt = 1 ∧ 0 ≤ a1.toInt ∧ a1.toInt ≤ 6) ∨ (v1.toInt = 0 ∧ (a1.toInt < 0 ∨ 6 < a1.toInt))) := h2
      have q6 := h2.1.symm
      subst q6
      have q7 := h2.2
      refine And.intro (fun c8 => ?_) (fun c8 => ?_)
      · have c8 : ¬ v1.toInt = 0 := c8
        refine And.intro (Nat.le_of_ble_eq_true rfl) (And.intro ⟨0, a1, rfl, by decide, i0, by omega⟩ ?_)
        intro s10 h9
        have h9 : Iv s10 ∧ Kp s0 s10 ∧ (True) := h9
        have i11 := h9.1
        have k12 : Kp s0 s10 := Kx.tr Kx.rf (h9.2.1)
        intro v13 e14
        have g15 : s10.1 0 1 = v13 := by rw [e14]
        have b16 : v13.toInt = (s10.1 0 1).toInt := congrArg Int32.toInt e14
        refine And.intro (Nat.le_of_ble_eq_true rfl) (And.intro ⟨0, v13, rfl, by decide, i11⟩ ?_)
        intro v17 s19 h18
        have h18 : Iv s19 ∧ Kp s10 s19 ∧ (v17 = v13 ∧ v17.toInt = v13.toInt) := h18
        have i20 := h18.1
        have k21 : Kp s0 s19 := Kx.tr k12 (h18.2.1)
        have q22 := h18.2.2
        show Iv s19 ∧ Kp s0 s19 ∧ (((0 ≤ a1.toInt ∧ a1.toInt ≤ 6) ∧ v17.toInt = (s0.1 0 1).toInt) ∨ (¬ (0 ≤ a1.toInt ∧ a1.toInt ≤ 6) ∧ v17.toInt = -1))
        exact ⟨i20, k21, (by have h9 := congrArg Int32.toInt (k21.1 0 1 rfl); have h8 := congrArg Int32.toInt (h18.2.1.1 0 1 rfl); omega)⟩
      · have c8 : ¬ (¬ v1.toInt = 0) := c8
        refine And.intro (Nat.le_of_ble_eq_true rfl) (And.intro ⟨0, (Int32.ofInt 2), rfl, by decide, i0⟩ ?_)
        intro v23 s25 h24
        have h24 : Iv s25 ∧ Kp s0 s25 ∧ (v23.toInt = -1) := h24
        have i26 := h24.1
        have k27 : Kp s0 s25 := Kx.tr Kx.rf (h24.2.1)
        have q28 := h24.2.2
        show Iv s25 ∧ Kp s0 s25 ∧ (((0 ≤ a1.toInt ∧ a1.toInt ≤ 6) ∧ v23.toInt = (s0.1 0 1).toInt) ∨ (¬ (0 ≤ a1.toInt ∧ a1.toInt ≤ 6) ∧ v23.toInt = -1))
        exact ⟨i26, k27, (by have h9 := congrArg Int32.toInt (k27.1 0 1 rfl); have h8 := congrArg Int32.toInt (h24.2.1.1 0 1 rfl); omega)⟩
def o_X10_handToFolds : List vg_I := [(0, .iload_n 1, 1, 0, 0, 0, 0), (1, .istore_n 2, 1, 0, 0, 0, 0), (2, .iconst 0, 1, 0, 0, 0, 0), (3, .istore_n 3, 1, 0, 0, 0, 0), (4, .iload_n 3, 1, 0, 0, 0, 0), (5, .aload_n 0, 1, 0, 0, 0, 0), (6, .getfield 196, 3, 429, 10, 2, 0), (9, .if_icmp .ge 49, 3, 0, 0, 0, 0), (12, .aload_n 0, 1, 0, 0, 0, 0), (13, .getfield 46, 3, 435, 10, 8, 0), (16, .iload_n 3, 1, 0, 0, 0, 0), (17, .aaload, 1, 0, 0, 0, 0), (18, .iload_n 2, 1, 0, 0, 0, 0), (19, .invokevirtual 430, 3, 0, 3, 1, 767), (22, .ifCond .ne 4, 3, 0, 0, 0, 0), (25, .return_, 1, 0, 0, 0, 0), (26, .aload_n 0, 1, 0, 0, 0, 0), (27, .getfield 46, 3, 435, 10, 8, 0), (30, .iload_n 3, 1, 0, 0, 0, 0), (31, .aaload, 1, 0, 0, 0, 0), (32, .aload_n 0, 1, 0, 0, 0, 0), (33, .getfield 40, 3, 434, 10, 7, 0), (36, .invokevirtual 431, 3, 1, 3, 1, 771), (39, .istore_n 2, 1, 0, 0, 0, 0), (40, .aload_n 0, 1, 0, 0, 0, 0), (41, .getfield 52, 3, 436, 10, 9, 0), (44, .iconst 4, 1, 0, 0, 0, 0), (45, .iload_n 3, 1, 0, 0, 0, 0), (46, .iadd, 1, 0, 0, 0, 0), (47, .aaload, 1, 0, 0, 0, 0), (48, .iload_n 2, 1, 0, 0, 0, 0), (49, .invokevirtual 422, 3, 2, 4, 1, 634), (52, .iinc 3 1, 3, 0, 0, 0, 0), (55, .goto (-51), 3, 0, 0, 0, 0), (58, .return_, 1, 0, 0, 0, 0)]
set_option maxRecDepth 100000 in
set_option maxHeartbeats 4000000 in
theorem c_X10_handToFolds (l : Launch) (G : vg_G) (hp : vg_Hp G) : vg_Ct l G vg_sh r_X10_handToFolds := by
  refine vg_meth hp vg_sh_ok r_X10_handToFolds k_X10_handToFolds rfl (fun h => by cases h) o_X10_handToFolds [r_X3_take, r_X3_number, r_X4_put] false (by decide +kernel) (by decide +kernel) ⟨_, _, rfl, rfl⟩ (List.forall_mem_cons.mpr ⟨⟨c_X3_take l G hp, Nat.le_of_ble_eq_true rfl, Nat.le_of_ble_eq_true rfl⟩, List.forall_mem_cons.mpr ⟨⟨c_X3_number l G hp, Nat.le_of_ble_eq_true rfl, Nat.le_of_ble_eq_true rfl⟩, List.forall_mem_cons.mpr ⟨⟨c_X4_put l G hp, Nat.le_of_ble_eq_true rfl, Nat.le_of_ble_eq_true rfl⟩, fun _ h => absurd h List.not_mem_nil⟩⟩⟩) (fun h => by cases h) 600 ?_
  intro as s0 hpre
  obtain ⟨r, a1, rfl, hr, i0⟩ := hpre
  simp only [List.mem_cons, List.not_mem_nil, or_false] at hr
  rcases hr with rfl
  ·
    have z0 : (Int32.ofInt 0).toInt = 0 := by decide
    have z1 : (Int32.ofInt 1).toInt = 1 := by decide
    have z4 : (Int32.ofInt 4).toInt = 4 := by decide
    refine ⟨Nat.le_of_ble_eq_true rfl, [(4, [true, false, true, true], (fun L t => ∃ (x2 : Int32) (x3 : Int32), L = [some (.ref 0), none, some (.int x2), some (.int x3)] ∧ (0 : Int) ≤ x3.toInt ∧ x3.toInt ≤ (3 : Int) ∧ Iv t ∧ Kp s0 t), (fun L _ => (0 + (3 - (vg_li L 3).toInt) * 1000000000000).toNat))], ?_, List.forall_mem_cons.mpr ⟨?_, fun _ h => absurd h List.not_mem_nil⟩⟩
    ·
      exact ⟨rfl, ⟨a1, (Int32.ofInt 0), rfl, (by omega), (by omega), i0, Kx.rf⟩, trivial⟩
    ·
      intro L s5 hL
      obtain ⟨w1, w2, rfl, b3, b4, i6, k7⟩ := hL
      intro v8 e9
      have g10 : s5.1 0 2 = v8 := by rw [e9]
      have b11 : (0 : Int) ≤ v8.toInt ∧ v8.toInt ≤ 3 := by rw [e9]; exact Iv_0_2 i6
      refine And.intro (fun c12 => ?_) (fun c12 => ?_)
      · have c12 : v8.toInt ≤ w2.toInt := c12
        show Iv s5 ∧ Kp s0 s5 ∧ (True)
        exact ⟨i6, k7, (trivial)⟩
      · have c12 : ¬ (v8.toInt ≤ w2.toInt) := c12
        refine And.intro rfl (And.intro ⟨by omega, by omega⟩ ?_)
        refine And.intro (fun c13 => ?_) ?_
        · have c13 : w2.toInt = (0) := c13
          refine And.intro (Nat.le_of_ble_eq_true rfl) (And.intro ⟨35, w1, rfl, by decide, i6⟩ ?_)
          intro v14 s16 h15
          have h15 : Iv s16 ∧ Kp s5 s16 ∧ (0 ≤ v14.toInt ∧ v14.toInt ≤ 1) := h15
          have i17 := h15.1
          have k18 : Kp s0 s16 := Kx.tr k7 (h15.2.1)
          have q19 := h15.2.2
          refine And.intro (fun c20 => ?_) (fun c20 => ?_)
          · have c20 : ¬ v14.toInt = 0 := c20
            refine And.intro rfl (And.intro ⟨by omega, by omega⟩ ?_)
            refine And.intro (fun c21 => ?_) ?_
            · have c21 : w2.toInt = (0) := c21
              refine And.intro (Nat.le_of_ble_eq_true rfl) (And.intro ⟨35, 16, rfl, by decide, by decide, i17⟩ ?_)
              intro v22 s24 h23
              have h23 : s24 = s16 ∧ (True) := h23
              have q27 := h23.1.symm
              subst q27
              intro v28 e29
              have b30 := vg_add e29 (by omega) (by omega)
              refine And.intro rfl (And.intro ⟨by omega, by omega⟩ ?_)
              refine And.intro (fun c31 => ?_) ?_
              · have c31 : v28.toInt = (0) := c31
                exfalso
                omega
              refine And.intro (fun c32 => ?_) ?_
              · have c32 : v28.toInt = (1) := c32
                exfalso
                omega
              refine And.intro (fun c33 => ?_) ?_
              · have c33 : v28.toInt = (2) := c33
                exfalso
                omega
              refine And.intro (fun c34 => ?_) ?_
              · have c34 : v28.toInt = (3) := c34
                exfalso
                omega
              refine And.intro (fun c35 => ?_) ?_
              · have c35 : v28.toInt = (4) := c35
                refine And.intro (Nat.le_of_ble_eq_true rfl) (And.intro ⟨49, v22, rfl, by decide, i17⟩ ?_)
                intro s37 h36
                have h36 : Iv s37 ∧ Kp s16 s37 ∧ (True) := h36
                have i38 := h36.1
                have k39 : Kp s0 s37 := Kx.tr k18 (h36.2.1)
                intro v40 e41
                have b42 := vg_add e41 (by omega) (by omega)
                exact ⟨rfl, ⟨v22, v40, rfl, (by omega), (by omega), i38, k39⟩, (by show (0 + (3 - v40.toInt) * 1000000000000).toNat < (0 + (3 - w2.toInt) * 1000000000000).toNat; omega)⟩
              refine And.intro (fun c43 => ?_) ?_
              · have c43 : v28.toInt = (5) := c43
                exfalso
                omega
              refine And.intro (fun c44 => ?_) ?_
              · have c44 : v28.toInt = (6) := c44
                exfalso
                omega
              exact trivial
            refine And.intro (fun c45 => ?_) ?_
            · have c45 : w2.toInt = (1) := c45
              exfalso
              omega
            refine And.intro (fun c46 => ?_) ?_
            · have c46 : w2.toInt = (2) := c46
              exfalso
              omega
            exact trivial
          · have c20 : ¬ (¬ v14.toInt = 0) := c20
            show Iv s16 ∧ Kp s0 s16 ∧ (True)
            exact ⟨i17, k18, (trivial)⟩
        refine And.intro (fun c47 => ?_) ?_
        · have c47 : w2.toInt = (1) := c47
          refine And.intro (Nat.le_of_ble_eq_true rfl) (And.intro ⟨37, w1, rfl, by decide, i6⟩ ?_)
          intro v48 s50 h49
          have h49 : Iv s50 ∧ Kp s5 s50 ∧ (0 ≤ v48.toInt ∧ v48.toInt ≤ 1) := h49
          have i51 := h49.1
          have k52 : Kp s0 s50 := Kx.tr k7 (h49.2.1)
          have q53 := h49.2.2
          refine And.intro (fun c54 => ?_) (fun c54 => ?_)
          · have c54 : ¬ v48.toInt = 0 := c54
            refine And.intro rfl (And.intro ⟨by omega, by omega⟩ ?_)
            refine And.intro (fun c55 => ?_) ?_
            · have c55 : w2.toInt = (0) := c55
              exfalso
              omega
            refine And.intro (fun c56 => ?_) ?_
            · have c56 : w2.toInt = (1) := c56
              refine And.intro (Nat.le_of_ble_eq_true rfl) (And.intro ⟨37, 16, rfl, by decide, by decide, i51⟩ ?_)
              intro v57 s59 h58
              have h58 : s59 = s50 ∧ (True) := h58
              have q62 := h58.1.symm
              subst q62
              intro v63 e64
              have b65 := vg_add e64 (by omega) (by omega)
              refine And.intro rfl (And.intro ⟨by omega, by omega⟩ ?_)
              refine And.intro (fun c66 => ?_) ?_
              · have c66 : v63.toInt = (0) := c66
                exfalso
                omega
              refine And.intro (fun c67 => ?_) ?_
              · have c67 : v63.toInt = (1) := c67
                exfalso
                omega
              refine And.intro (fun c68 => ?_) ?_
              · have c68 : v63.toInt = (2) := c68
                exfalso
                omega
              refine And.intro (fun c69 => ?_) ?_
              · have c69 : v63.toInt = (3) := c69
                exfalso
                omega
              refine And.intro (fun c70 => ?_) ?_
              · have c70 : v63.toInt = (4) := c70
                exfalso
                omega
              refine And.intro (fun c71 => ?_) ?_
              · have c71 : v63.toInt = (5) := c71
                refine And.intro (Nat.le_of_ble_eq_true rfl) (And.intro ⟨51, v57, rfl, by decide, i51⟩ ?_)
                intro s73 h72
                have h72 : Iv s73 ∧ Kp s50 s73 ∧ (True) := h72
                have i74 := h72.1
                have k75 : Kp s0 s73 := Kx.tr k52 (h72.2.1)
                intro v76 e77
                have b78 := vg_add e77 (by omega) (by omega)
                exact ⟨rfl, ⟨v57, v76, rfl, (by omega), (by omega), i74, k75⟩, (by show (0 + (3 - v76.toInt) * 1000000000000).toNat < (0 + (3 - w2.toInt) * 1000000000000).toNat; omega)⟩
              refine And.intro (fun c79 => ?_) ?_
              · have c79 : v63.toInt = (6) := c79
                exfalso
                omega
              exact trivial
            refine And.intro (fun c80 => ?_) ?_
            · have c80 : w2.toInt = (2) := c80
              exfalso
              omega
            exact trivial
          · have c54 : ¬ (¬ v48.toInt = 0) := c54
            show Iv s50 ∧ Kp s0 s50 ∧ (True)
            exact ⟨i51, k52, (trivial)⟩
        refine And.intro (fun c81 => ?_) ?_
        · have c81 : w2.toInt = (2) := c81
          refine And.intro (Nat.le_of_ble_eq_true rfl) (And.intro ⟨39, w1, rfl, by decide, i6⟩ ?_)
          intro v82 s84 h83
          have h83 : Iv s84 ∧ Kp s5 s84 ∧ (0 ≤ v82.toInt ∧ v82.toInt ≤ 1) := h83
          have i85 := h83.1
          have k86 : Kp s0 s84 := Kx.tr k7 (h83.2.1)
          have q87 := h83.2.2
          refine And.intro (fun c88 => ?_) (fun c88 => ?_)
          · have c88 : ¬ v82.toInt = 0 := c88
            refine And.intro rfl (And.intro ⟨by omega, by omega⟩ ?_)
            refine And.intro (fun c89 => ?_) ?_
            · have c89 : w2.toInt = (0) := c89
              exfalso
              omega
            refine And.intro (fun c90 => ?_) ?_
            · have c90 : w2.toInt = (1) := c90
              exfalso
              omega
            refine And.intro (fun c91 => ?_) ?_
            · have c91 : w2.toInt = (2) := c91
              refine And.intro (Nat.le_of_ble_eq_true rfl) (And.intro ⟨39, 16, rfl, by decide, by decide, i85⟩ ?_)
              intro v92 s94 h93
              have h93 : s94 = s84 ∧ (True) := h93
              have q97 := h93.1.symm
              subst q97
              intro v98 e99
              have b100 := vg_add e99 (by omega) (by omega)
              refine And.intro rfl (And.intro ⟨by omega, by omega⟩ ?_)
              refine And.intro (fun c101 => ?_) ?_
              · have c101 : v98.toInt = (0) := c101
                exfalso
                omega
              refine And.intro (fun c102 => ?_) ?_
              · have c102 : v98.toInt = (1) := c102
                exfalso
                omega
              refine And.intro (fun c103 => ?_) ?_
              · have c103 : v98.toInt = (2) := c103
                exfalso
                omega
              refine And.intro (fun c104 => ?_) ?_
              · have c104 : v98.toInt = (3) := c104
                exfalso
                omega
              refine And.intro (fun c105 => ?_) ?_
              · have c105 : v98.toInt = (4) := c105
                exfalso
                omega
              refine And.intro (fun c106 => ?_) ?_
              · have c106 : v98.toInt = (5) := c106
                exfalso
                omega
              refine And.intro (fun c107 => ?_) ?_
              · have c107 : v98.toInt = (6) := c107
                refine And.intro (Nat.le_of_ble_eq_true rfl) (And.intro ⟨53, v92, rfl, by decide, i85⟩ ?_)
                intro s109 h108
                have h108 : Iv s109 ∧ Kp s84 s109 ∧ (True) := h108
                have i110 := h108.1
                have k111 : Kp s0 s109 := Kx.tr k86 (h108.2.1)
                intro v112 e113
                have b114 := vg_add e113 (by omega) (by omega)
                exact ⟨rfl, ⟨v92, v112, rfl, (by omega), (by omega), i110, k111⟩, (by show (0 + (3 - v112.toInt) * 1000000000000).toNat < (0 + (3 - w2.toInt) * 1000000000000).toNat; omega)⟩
              exact trivial
            exact trivial
          · have c88 : ¬ (¬ v82.toInt = 0) := c88
            show Iv s84 ∧ Kp s0 s84 ∧ (True)
            exact ⟨i85, k86, (trivial)⟩
        exact trivial
def o_X10_oneClock : List vg_I := [(0, .aload_n 0, 1, 0, 0, 0, 0), (1, .getfield 10, 3, 430, 10, 3, 0), (4, .aload_n 0, 1, 0, 0, 0, 0), (5, .getfield 110, 3, 428, 10, 1, 0), (8, .invokevirtual 393, 3, 0, 7, 1, 620), (11, .istore_n 1, 1, 0, 0, 0, 0), (12, .aload_n 0, 1, 0, 0, 0, 0), (13, .getfield 52, 3, 436, 10, 9, 0), (16, .iconst 0, 1, 0, 0, 0, 0), (17, .aaload, 1, 0, 0, 0, 0), (18, .iload_n 1, 1, 0, 0, 0, 0), (19, .invokevirtual 422, 3, 1, 4, 1, 634), (22, .aload_n 0, 1, 0, 0, 0, 0), (23, .getfield 19, 3, 431, 10, 4, 0), (26, .iload_n 1, 1, 0, 0, 0, 0), (27, .invokevirtual 376, 3, 2, 5, 1, 641), (30, .istore_n 2, 1, 0, 0, 0, 0), (31, .aload_n 0, 1, 0, 0, 0, 0), (32, .getfield 52, 3, 436, 10, 9, 0), (35, .iconst 1, 1, 0, 0, 0, 0), (36, .aaload, 1, 0, 0, 0, 0), (37, .iload_n 2, 1, 0, 0, 0, 0), (38, .invokevirtual 422, 3, 1, 4, 1, 634), (41, .aload_n 0, 1, 0, 0, 0, 0), (42, .getfield 26, 3, 432, 10, 5, 0), (45, .iload_n 2, 1, 0, 0, 0, 0), (46, .invokevirtual 396, 3, 3, 2, 1, 721), (49, .istore_n 3, 1, 0, 0, 0, 0), (50, .aload_n 0, 1, 0, 0, 0, 0), (51, .getfield 52, 3, 436, 10, 9, 0), (54, .iconst 2, 1, 0, 0, 0, 0), (55, .aaload, 1, 0, 0, 0, 0), (56, .iload_n 3, 1, 0, 0, 0, 0), (57, .invokevirtual 422, 3, 1, 4, 1, 634), (60, .aload_n 0, 1, 0, 0, 0, 0), (61, .getfield 33, 3, 433, 10, 6, 0), (64, .aload_n 0, 1, 0, 0, 0, 0), (65, .getfield 33, 3, 433, 10, 6, 0), (68, .getfield 173, 3, 296, 1, 3, 0), (71, .ifCond .ne 7, 3, 0, 0, 0, 0), (74, .iload_n 2, 1, 0, 0, 0, 0), (75, .goto 4, 3, 0, 0, 0, 0), (78, .iload_n 3, 1, 0, 0, 0, 0), (79, .invokevirtual 425, 3, 4, 1, 1, 750), (82, .ifCond .eq 30, 3, 0, 0, 0, 0), (85, .aload_n 0, 1, 0, 0, 0, 0), (86, .getfield 52, 3, 436, 10, 9, 0), (89, .iconst 3, 1, 0, 0, 0, 0), (90, .aaload, 1, 0, 0, 0, 0), (91, .aload_n 0, 1, 0, 0, 0, 0), (92, .getfield 33, 3, 433, 10, 6, 0), (95, .invokevirtual 316, 3, 5, 1, 0, 762), (98, .invokevirtual 422, 3, 1, 4, 1, 634), (101, .aload_n 0, 1, 0, 0, 0, 0), (102, .aload_n 0, 1, 0, 0, 0, 0), (103, .getfield 33, 3, 433, 10, 6, 0), (106, .invokevirtual 316, 3, 5, 1, 0, 762), (109, .invokevirtual 427, 3, 6, 10, 1, 763), (112, .aload_n 0, 1, 0, 0, 0, 0), (113, .dup, 1, 0, 0, 0, 0), (114, .getfield 110, 3, 428, 10, 1, 0), (117, .iconst 1, 1, 0, 0, 0, 0), (118, .iadd, 1, 0, 0, 0, 0), (119, .putfield 110, 3, 428, 10, 1, 0), (122, .return_, 1, 0, 0, 0, 0)]
set_option maxRecDepth 100000 in
set_option maxHeartbeats 4000000 in
theorem c_X10_oneClock (l : Launch) (G : vg_G) (hp : vg_Hp G) : vg_Ct l G vg_sh r_X10_oneClock := by
  refine vg_meth hp vg_sh_ok r_X10_oneClock k_X10_oneClock rfl (fun h => by cases h) o_X10_oneClock [r_X7_numberAt, r_X4_put, r_X5_advance, r_X2_take, r_X1_take, r_X1_number, r_X10_handToFolds] false (by decide +kernel) (by decide +kernel) ⟨_, _, rfl, rfl⟩ (List.forall_mem_cons.mpr ⟨⟨c_X7_numberAt l G hp, Nat.le_of_ble_eq_true rfl, Nat.le_of_ble_eq_true rfl⟩, List.forall_mem_cons.mpr ⟨⟨c_X4_put l G hp, Nat.le_of_ble_eq_true rfl, Nat.le_of_ble_eq_true rfl⟩, List.forall_mem_cons.mpr ⟨⟨c_X5_advance l G hp, Nat.le_of_ble_eq_true rfl, Nat.le_of_ble_eq_true rfl⟩, List.forall_mem_cons.mpr ⟨⟨c_X2_take l G hp, Nat.le_of_ble_eq_true rfl, Nat.le_of_ble_eq_true rfl⟩, List.forall_mem_cons.mpr ⟨⟨c_X1_take l G hp, Nat.le_of_ble_eq_true rfl, Nat.le_of_ble_eq_true rfl⟩, List.forall_mem_cons.mpr ⟨⟨c_X1_number l G hp, Nat.le_of_ble_eq_true rfl, Nat.le_of_ble_eq_true rfl⟩, List.forall_mem_cons.mpr ⟨⟨c_X10_handToFolds l G hp, Nat.le_of_ble_eq_true rfl, Nat.le_of_ble_eq_true rfl⟩, fun _ h => absurd h List.not_mem_nil⟩⟩⟩⟩⟩⟩⟩) (fun h => by cases h) 600 ?_
  intro as s0 hpre
  obtain ⟨r, rfl, hr, i0, p0⟩ := hpre
  simp only [List.mem_cons, List.not_mem_nil, or_false] at hr
  rcases hr with rfl
  ·
    have z0 : (Int32.ofInt 0).toInt = 0 := by decide
    have z1 : (Int32.ofInt 1).toInt = 1 := by decide
    have z2 : (Int32.ofInt 2).toInt = 2 := by decide
    have z3 : (Int32.ofInt 3).toInt = 3 := by decide
    refine ⟨Nat.le_of_ble_eq_true rfl, [], ?_, fun _ h => absurd h List.not_mem_nil⟩
    ·
      intro v1 e2
      have g3 : s0.1 0 1 = v1 := by rw [e2]
      have g4 : s0.1 0 1 = v1 := e2.symm
      have b5 : v1.toInt = (s0.1 0 1).toInt := congrArg Int32.toInt e2
      refine And.intro (Nat.le_of_ble_eq_true rfl) (And.intro ⟨1, v1, rfl, by decide, i0⟩ ?_)
      intro v6 s8 h7
      have h7 : s8 = s0 ∧ (True) := h7
      have q11 := h7.1.symm
      subst q11
      refine And.intro rfl (And.intro ⟨by omega, by omega⟩ ?_)
      refine And.intro (fun c12 => ?_) ?_
      · have c12 : (Int32.ofInt 0).toInt = (0) := c12
        refine And.intro (Nat.le_of_ble_eq_true rfl) (And.intro ⟨41, v6, rfl, by decide, i0⟩ ?_)
        intro s14 h13
        have h13 : Iv s14 ∧ Kp s0 s14 ∧ (True) := h13
        have i15 := h13.1
        have k16 : K_X10_clocks s0 s14 := Kx.tr Kx.rf ((h13.2.1).px)
        have g17 : s14.1 0 1 = v1 := by rw [h13.2.1.1 0 1 rfl]; exact g4
        refine And.intro (Nat.le_of_ble_eq_true rfl) (And.intro ⟨3, v6, rfl, by decide, i15⟩ ?_)
        intro v18 s20 h19
        have h19 : Iv s20 ∧ Kp s14 s20 ∧ (True) := h19
        have i21 := h19.1
        have k22 : K_X10_clocks s0 s20 := Kx.tr k16 ((h19.2.1).px)
        have g23 : s20.1 0 1 = v1 := by rw [h19.2.1.1 0 1 rfl]; exact g17
        refine And.intro rfl (And.intro ⟨by omega, by omega⟩ ?_)
        refine And.intro (fun c24 => ?_) ?_
        · have c24 : (Int32.ofInt 1).toInt = (0) := c24
          exfalso
          omega
        refine And.intro (fun c25 => ?_) ?_
        · have c25 : (Int32.ofInt 1).toInt = (1) := c25
          refine And.intro (Nat.le_of_ble_eq_true rfl) (And.intro ⟨43, v18, rfl, by decide, i21⟩ ?_)
          intro s27 h26
          have h26 : Iv s27 ∧ Kp s20 s27 ∧ (True) := h26
          have i28 := h26.1
          have k29 : K_X10_clocks s0 s27 := Kx.tr k22 ((h26.2.1).px)
          have g30 : s27.1 0 1 = v1 := by rw [h26.2.1.1 0 1 rfl]; exact g23
          refine And.intro (Nat.le_of_ble_eq_true rfl) (And.intro ⟨7, v18, rfl, by decide, i28⟩ ?_)
          intro v31 s33 h32
          have h32 : Iv s33 ∧ Kp s27 s33 ∧ (True) := h32
          have i34 := h32.1
          have k35 : K_X10_clocks s0 s33 := Kx.tr k29 ((h32.2.1).px)
          have g36 : s33.1 0 1 = v1 := by rw [h32.2.1.1 0 1 rfl]; exact g30
          refine And.intro rfl (And.intro ⟨by omega, by omega⟩ ?_)
          refine And.intro (fun c37 => ?_) ?_
          · have c37 : (Int32.ofInt 2).toInt = (0) := c37
            exfalso
            omega
          refine And.intro (fun c38 => ?_) ?_
          · have c38 : (Int32.ofInt 2).toInt = (1) := c38
            exfalso
            omega
          refine And.intro (fun c39 => ?_) ?_
          · have c39 : (Int32.ofInt 2).toInt = (2) := c39
            refine And.intro (Nat.le_of_ble_eq_true rfl) (And.intro ⟨45, v31, rfl, by decide, i34⟩ ?_)
            intro s41 h40
            have h40 : Iv s41 ∧ Kp s33 s41 ∧ (True) := h40
            have i42 := h40.1
            have k43 : K_X10_clocks s0 s41 := Kx.tr k35 ((h40.2.1).px)
            have g44 : s41.1 0 1 = v1 := by rw [h40.2.1.1 0 1 rfl]; exact g36
            intro v45 e46
            have g47 : s41.1 12 3 = v45 := by rw [e46]
            refine And.intro (fun c48 => ?_) (fun c48 => ?_)
            · have c48 : ¬ v45.toInt = 0 := c48
              refine And.intro (Nat.le_of_ble_eq_true rfl) (And.intro ⟨12, v31, rfl, by decide, i42⟩ ?_)
              intro v49 s51 h50
              have h50 : Iv s51 ∧ Kp s41 s51 ∧ (True) := h50
              have i52 := h50.1
              have k53 : K_X10_clocks s0 s51 := Kx.tr k43 ((h50.2.1).px)
              have g54 : s51.1 0 1 = v1 := by rw [h50.2.1.1 0 1 rfl]; exact g44
              refine And.intro (fun c55 => ?_) (fun c55 => ?_)
              · have c55 : v49.toInt = 0 := c55
                intro v56 e57
                have w58 : v1 = v56 := by rw [e57, g54]
                subst w58
                intro v59 e60
                have b61 := vg_add e60 (by omega) (by omega)
                intro s62 e63
                have i64 : Iv s62 := Iv.u1 i52 e63 rfl
                have k65 : K_X10_clocks s0 s62 := Kx.u1 k53 e63 rfl
                have g66 : s62.1 0 1 = v59 := by rw [e63]; exact vg_u1_self
                show Iv s62 ∧ K_X10_clocks s0 s62 ∧ ((s62.1 0 1).toInt = (s0.1 0 1).toInt + 1)
                exact ⟨i64, k65, (by rw [g66]; omega)⟩
              · have c55 : ¬ (v49.toInt = 0) := c55
                refine And.intro rfl (And.intro ⟨by omega, by omega⟩ ?_)
                refine And.intro (fun c67 => ?_) ?_
                · have c67 : (Int32.ofInt 3).toInt = (0) := c67
                  exfalso
                  omega
                refine And.intro (fun c68 => ?_) ?_
                · have c68 : (Int32.ofInt 3).toInt = (1) := c68
                  exfalso
                  omega
                refine And.intro (fun c69 => ?_) ?_
                · have c69 : (Int32.ofInt 3).toInt = (2) := c69
                  exfalso
                  omega
                refine And.intro (fun c70 => ?_) ?_
                · have c70 : (Int32.ofInt 3).toInt = (3) := c70
                  refine And.intro (Nat.le_of_ble_eq_true rfl) (And.intro ⟨12, rfl, by decide, i52⟩ ?_)
                  intro v71 s73 h72
                  have h72 : s73 = s51 ∧ (True) := h72
                  have q76 := h72.1.symm
                  subst q76
                  refine And.intro (Nat.le_of_ble_eq_true rfl) (And.intro ⟨47, v71, rfl, by decide, i52⟩ ?_)
                  intro s78 h77
                  have h77 : Iv s78 ∧ Kp s51 s78 ∧ (True) := h77
                  have i79 := h77.1
                  have k80 : K_X10_clocks s0 s78 := Kx.tr k53 ((h77.2.1).px)
                  have g81 : s78.1 0 1 = v1 := by rw [h77.2.1.1 0 1 rfl]; exact g54
                  refine And.intro (Nat.le_of_ble_eq_true rfl) (And.intro ⟨12, rfl, by decide, i79⟩ ?_)
                  intro v82 s84 h83
                  have h83 : s84 = s78 ∧ (True) := h83
                  have q87 := h83.1.symm
                  subst q87
                  refine And.intro (Nat.le_of_ble_eq_true rfl) (And.intro ⟨0, v82, rfl, by decide, i79⟩ ?_)
                  intro s89 h88
                  have h88 : Iv s89 ∧ Kp s78 s89 ∧ (True) := h88
                  have i90 := h88.1
                  have k91 : K_X10_clocks s0 s89 := Kx.tr k80 ((h88.2.1).px)
                  have g92 : s89.1 0 1 = v1 := by rw [h88.2.1.1 0 1 rfl]; exact g81
                  intro v93 e94
                  have w95 : v1 = v93 := by rw [e94, g92]
                  subst w95
                  intro v96 e97
                  have b98 := vg_add e97 (by omega) (by omega)
                  intro s99 e100
                  have i101 : Iv s99 := Iv.u1 i90 e100 rfl
                  have k102 : K_X10_clocks s0 s99 := Kx.u1 k91 e100 rfl
                  have g103 : s99.1 0 1 = v96 := by rw [e100]; exact vg_u1_self
                  show Iv s99 ∧ K_X10_clocks s0 s99 ∧ ((s99.1 0 1).toInt = (s0.1 0 1).toInt + 1)
                  exact ⟨i101, k102, (by rw [g103]; omega)⟩
                refine And.intro (fun c104 => ?_) ?_
                · have c104 : (Int32.ofInt 3).toInt = (4) := c104
                  exfalso
                  omega
                refine And.intro (fun c105 => ?_) ?_
                · have c105 : (Int32.ofInt 3).toInt = (5) := c105
                  exfalso
                  omega
                refine And.intro (fun c106 => ?_) ?_
                · have c106 : (Int32.ofInt 3).toInt = (6) := c106
                  exfalso
                  omega
                exact trivial
            · have c48 : ¬ (¬ v45.toInt = 0) := c48
              refine And.intro (Nat.le_of_ble_eq_true rfl) (And.intro ⟨12, v18, rfl, by decide, i42⟩ ?_)
              intro v107 s109 h108
              have h108 : Iv s109 ∧ Kp s41 s109 ∧ (True) := h108
              have i110 := h108.1
              have k111 : K_X10_clocks s0 s109 := Kx.tr k43 ((h108.2.1).px)
              have g112 : s109.1 0 1 = v1 := by rw [h108.2.1.1 0 1 rfl]; exact g44
              refine And.intro (fun c113 => ?_) (fun c113 => ?_)
              · have c113 : v107.toInt = 0 := c113
                intro v114 e115
                have w116 : v1 = v114 := by rw [e115, g112]
                subst w116
                intro v117 e118
                have b119 := vg_add e118 (by omega) (by omega)
                intro s120 e121
                have i122 : Iv s120 := Iv.u1 i110 e121 rfl
                have k123 : K_X10_clocks s0 s120 := Kx.u1 k111 e121 rfl
                have g124 : s120.1 0 1 = v117 := by rw [e121]; exact vg_u1_self
                show Iv s120 ∧ K_X10_clocks s0 s120 ∧ ((s120.1 0 1).toInt = (s0.1 0 1).toInt + 1)
                exact ⟨i122, k123, (by rw [g124]; omega)⟩
              · have c113 : ¬ (v107.toInt = 0) := c113
                refine And.intro rfl (And.intro ⟨by omega, by omega⟩ ?_)
                refine And.intro (fun c125 => ?_) ?_
                · have c125 : (Int32.ofInt 3).toInt = (0) := c125
                  exfalso
                  omega
                refine And.intro (fun c126 => ?_) ?_
                · have c126 : (Int32.ofInt 3).toInt = (1) := c126
                  exfalso
                  omega
                refine And.intro (fun c127 => ?_) ?_
                · have c127 : (Int32.ofInt 3).toInt = (2) := c127
                  exfalso
                  omega
                refine And.intro (fun c128 => ?_) ?_
                · have c128 : (Int32.ofInt 3).toInt = (3) := c128
                  refine And.intro (Nat.le_of_ble_eq_true rfl) (And.intro ⟨12, rfl, by decide, i110⟩ ?_)
                  intro v129 s131 h130
                  have h130 : s131 = s109 ∧ (True) := h130
                  have q134 := h130.1.symm
                  subst q134
                  refine And.intro (Nat.le_of_ble_eq_true rfl) (And.intro ⟨47, v129, rfl, by decide, i110⟩ ?_)
                  intro s136 h135
                  have h135 : Iv s136 ∧ Kp s109 s136 ∧ (True) := h135
                  have i137 := h135.1
                  have k138 : K_X10_clocks s0 s136 := Kx.tr k111 ((h135.2.1).px)
                  have g139 : s136.1 0 1 = v1 := by rw [h135.2.1.1 0 1 rfl]; exact g112
                  refine And.intro (Nat.le_of_ble_eq_true rfl) (And.intro ⟨12, rfl, by decide, i137⟩ ?_)
                  intro v140 s142 h141
                  have h141 : s142 = s136 ∧ (True) := h141
                  have q145 := h141.1.symm
                  subst q145
                  refine And.intro (Nat.le_of_ble_eq_true rfl) (And.intro ⟨0, v140, rfl, by decide, i137⟩ ?_)
                  intro s147 h146
                  have h146 : Iv s147 ∧ Kp s136 s147 ∧ (True) := h146
                  have i148 := h146.1
                  have k149 : K_X10_clocks s0 s147 := Kx.tr k138 ((h146.2.1).px)
                  have g150 : s147.1 0 1 = v1 := by rw [h146.2.1.1 0 1 rfl]; exact g139
                  intro v151 e152
                  have w153 : v1 = v151 := by rw [e152, g150]
                  subst w153
                  intro v154 e155
                  have b156 := vg_add e155 (by omega) (by omega)
                  intro s157 e158
                  have i159 : Iv s157 := Iv.u1 i148 e158 rfl
                  have k160 : K_X10_clocks s0 s157 := Kx.u1 k149 e158 rfl
                  have g161 : s157.1 0 1 = v154 := by rw [e158]; exact vg_u1_self
                  show Iv s157 ∧ K_X10_clocks s0 s157 ∧ ((s157.1 0 1).toInt = (s0.1 0 1).toInt + 1)
                  exact ⟨i159, k160, (by rw [g161]; omega)⟩
                refine And.intro (fun c162 => ?_) ?_
                · have c162 : (Int32.ofInt 3).toInt = (4) := c162
                  exfalso
                  omega
                refine And.intro (fun c163 => ?_) ?_
                · have c163 : (Int32.ofInt 3).toInt = (5) := c163
                  exfalso
                  omega
                refine And.intro (fun c164 => ?_) ?_
                · have c164 : (Int32.ofInt 3).toInt = (6) := c164
                  exfalso
                  omega
                exact trivial
          refine And.intro (fun c165 => ?_) ?_
          · have c165 : (Int32.ofInt 2).toInt = (3) := c165
            exfalso
            omega
          refine And.intro (fun c166 => ?_) ?_
          · have c166 : (Int32.ofInt 2).toInt = (4) := c166
            exfalso
            omega
          refine And.intro (fun c167 => ?_) ?_
          · have c167 : (Int32.ofInt 2).toInt = (5) := c167
            exfalso
            omega
          refine And.intro (fun c168 => ?_) ?_
          · have c168 : (Int32.ofInt 2).toInt = (6) := c168
            exfalso
            omega
          exact trivial
        refine And.intro (fun c169 => ?_) ?_
        · have c169 : (Int32.ofInt 1).toInt = (2) := c169
          exfalso
          omega
        refine And.intro (fun c170 => ?_) ?_
        · have c170 : (Int32.ofInt 1).toInt = (3) := c170
          exfalso
          omega
        refine And.intro (fun c171 => ?_) ?_
        · have c171 : (Int32.ofInt 1).toInt = (4) := c171
          exfalso
          omega
        refine And.intro (fun c172 => ?_) ?_
        · have c172 : (Int32.ofInt 1).toInt = (5) := c172
          exfalso
          omega
        refine And.intro (fun c173 => ?_) ?_
        · have c173 : (Int32.ofInt 1).toInt = (6) := c173
          exfalso
          omega
        exact trivial
      refine And.intro (fun c174 => ?_) ?_
      · have c174 : (Int32.ofInt 0).toInt = (1) := c174
        exfalso
        omega
      refine And.intro (fun c175 => ?_) ?_
      · have c175 : (Int32.ofInt 0).toInt = (2) := c175
        exfalso
        omega
      refine And.intro (fun c176 => ?_) ?_
      · have c176 : (Int32.ofInt 0).toInt = (3) := c176
        exfalso
        omega
      refine And.intro (fun c177 => ?_) ?_
      · have c177 : (Int32.ofInt 0).toInt = (4) := c177
        exfalso
        omega
      refine And.intro (fun c178 => ?_) ?_
      · have c178 : (Int32.ofInt 0).toInt = (5) := c178
        exfalso
        omega
      refine And.intro (fun c179 => ?_) ?_
      · have c179 : (Int32.ofInt 0).toInt = (6) := c179
        exfalso
        omega
      exact trivial
def o_X10_clocks : List vg_I := [(0, .iload_n 1, 1, 0, 0, 0, 0), (1, .iconst 1, 1, 0, 0, 0, 0), (2, .sipush 400, 3, 0, 0, 0, 0), (5, .invokestatic 82, 3, 0, 1, 3, 478), (8, .ifCond .ne 9, 3, 0, 0, 0, 0), (11, .aload_n 0, 1, 0, 0, 0, 0), (12, .iconst 1, 1, 0, 0, 0, 0), (13, .invokevirtual 90, 3, 1, 10, 1, 484), (16, .ireturn, 1, 0, 0, 0, 0), (17, .iconst 0, 1, 0, 0, 0, 0), (18, .istore_n 2, 1, 0, 0, 0, 0), (19, .iload_n 2, 1, 0, 0, 0, 0), (20, .iload_n 1, 1, 0, 0, 0, 0), (21, .if_icmp .ge 13, 3, 0, 0, 0, 0), (24, .aload_n 0, 1, 0, 0, 0, 0), (25, .invokevirtual 204, 3, 2, 10, 0, 616), (28, .iinc 2 1, 3, 0, 0, 0, 0), (31, .goto (-12), 3, 0, 0, 0, 0), (34, .aload_n 0, 1, 0, 0, 0, 0), (35, .aload_n 0, 1, 0, 0, 0, 0), (36, .getfield 110, 3, 428, 10, 1, 0), (39, .invokevirtual 113, 3, 3, 10, 1, 520), (42, .ireturn, 1, 0, 0, 0, 0)]
set_option maxRecDepth 100000 in
set_option maxHeartbeats 4000000 in
theorem c_X10_clocks (l : Launch) (G : vg_G) (hp : vg_Hp G) : vg_Ct l G vg_sh r_X10_clocks := by
  refine vg_meth hp vg_sh_ok r_X10_clocks k_X10_clocks rfl (fun h => by cases h) o_X10_clocks [r_X10_within, r_X10_refuse, r_X10_oneClock, r_X10_answer] false (by decide +kernel) (by decide +kernel) ⟨_, _, rfl, rfl⟩ (List.forall_mem_cons.mpr ⟨⟨c_X10_within l G hp, Nat.le_of_ble_eq_true rfl, Nat.le_of_ble_eq_true rfl⟩, List.forall_mem_cons.mpr ⟨⟨c_X10_refuse l G hp, Nat.le_of_ble_eq_true rfl, Nat.le_of_ble_eq_true rfl⟩, List.forall_mem_cons.mpr ⟨⟨c_X10_oneClock l G hp, Nat.le_of_ble_eq_true rfl, Nat.le_of_ble_eq_true rfl⟩, List.forall_mem_cons.mpr ⟨⟨c_X10_answer l G hp, Nat.le_of_ble_eq_true rfl, Nat.le_of_ble_eq_true rfl⟩, fun _ h => absurd h List.not_mem_nil⟩⟩⟩⟩) (fun h => by cases h) 600 ?_
  intro as s0 hpre
  obtain ⟨r, a1, rfl, hr, i0, p0⟩ := hpre
  simp only [List.mem_cons, List.not_mem_nil, or_false] at hr
  rcases hr with rfl
  ·
    have z0 : (Int32.ofInt 0).toInt = 0 := by decide
    have z1 : (Int32.ofInt 1).toInt = 1 := by decide
    have z400 : (Int32.ofInt 400).toInt = 400 := by decide
    refine ⟨Nat.le_of_ble_eq_true rfl, [(19, [true, true, true], (fun L t => ∃ (x2 : Int32), L = [some (.ref 0), some (.int a1), some (.int x2)] ∧ (0 : Int) ≤ x2.toInt ∧ x2.toInt ≤ (400 : Int) ∧ (1 : Int) ≤ a1.toInt ∧ a1.toInt ≤ (400 : Int) ∧ ((t.1 0 1).toInt = (s0.1 0 1).toInt + x2.toInt ∧ x2.toInt ≤ a1.toInt) ∧ Iv t ∧ K_X10_clocks s0 t), (fun L _ => (0 + (400 - (vg_li L 2).toInt) * 1000000000000).toNat))], ?_, List.forall_mem_cons.mpr ⟨?_, fun _ h => absurd h List.not_mem_nil⟩⟩
    ·
      refine And.intro (Nat.le_of_ble_eq_true rfl) (And.intro ⟨a1, (Int32.ofInt 1), (Int32.ofInt 400), rfl, trivial⟩ ?_)
      intro v1 s3 h2
      have h2 : s3 = s0 ∧ ((v1.toInt = 1 ∧ (Int32.ofInt 1).toInt ≤ a1.toInt ∧ a1.toInt ≤ (Int32.ofInt 400).toInt) ∨ (v1.toInt = 0 ∧ (a1.toInt < (Int32.ofInt 1).toInt ∨ (Int32.ofInt 400).toInt < a1.toInt))) := h2
      have q6 := h2.1.symm
      subst q6
      have q7 := h2.2
      refine And.intro (fun c8 => ?_) (fun c8 => ?_)
      · have c8 : ¬ v1.toInt = 0 := c8
        exact ⟨rfl, ⟨(Int32.ofInt 0), rfl, (by omega), (by omega), (by omega), (by omega), (by omega), i0, Kx.rf⟩, trivial⟩
      · have c8 : ¬ (¬ v1.toInt = 0) := c8
        refine And.intro (Nat.le_of_ble_eq_true rfl) (And.intro ⟨0, (Int32.ofInt 1), rfl, by decide, i0⟩ ?_)
        intro v9 s11 h10
        have h10 : Iv s11 ∧ Kp s0 s11 ∧ (v9.toInt = -1) := h10
        have i12 := h10.1
        have k13 : K_X10_clocks s0 s11 := Kx.tr Kx.rf ((h10.2.1).px)
        have q14 := h10.2.2
        show Iv s11 ∧ K_X10_clocks s0 s11 ∧ (((1 ≤ a1.toInt ∧ a1.toInt ≤ 400) ∧ v9.toInt = (s0.1 0 1).toInt + a1.toInt ∧ (s11.1 0 1).toInt = (s0.1 0 1).toInt + a1.toInt) ∨ (¬ (1 ≤ a1.toInt ∧ a1.toInt ≤ 400) ∧ v9.toInt = -1 ∧ (s11.1 0 1).toInt = (s0.1 0 1).toInt))
        exact ⟨i12, k13, (by have h9 := congrArg Int32.toInt (h10.2.1.1 0 1 rfl); omega)⟩
    ·
      intro L s21 hL
      obtain ⟨w15, rfl, b16, b17, b18, b19, x20, i22, k23⟩ := hL
      refine And.intro (fun c24 => ?_) (fun c24 => ?_)
      · have c24 : a1.toInt ≤ w15.toInt := c24
        intro v25 e26
        have g27 : s21.1 0 1 = v25 := by rw [e26]
        have b28 : v25.toInt = (s21.1 0 1).toInt := congrArg Int32.toInt e26
        refine And.intro (Nat.le_of_ble_eq_true rfl) (And.intro ⟨0, v25, rfl, by decide, i22⟩ ?_)
        intro v29 s31 h30
        have h30 : Iv s31 ∧ Kp s21 s31 ∧ (v29 = v25 ∧ v29.toInt = v25.toInt) := h30
        have i32 := h30.1
        have k33 : K_X10_clocks s0 s31 := Kx.tr k23 ((h30.2.1).px)
        have q34 := h30.2.2
        show Iv s31 ∧ K_X10_clocks s0 s31 ∧ (((1 ≤ a1.toInt ∧ a1.toInt ≤ 400) ∧ v29.toInt = (s0.1 0 1).toInt + a1.toInt ∧ (s31.1 0 1).toInt = (s0.1 0 1).toInt + a1.toInt) ∨ (¬ (1 ≤ a1.toInt ∧ a1.toInt ≤ 400) ∧ v29.toInt = -1 ∧ (s31.1 0 1).toInt = (s0.1 0 1).toInt))
        exact ⟨i32, k33, (by have h9 := congrArg Int32.toInt (h30.2.1.1 0 1 rfl); omega)⟩
      · have c24 : ¬ (a1.toInt ≤ w15.toInt) := c24
        refine And.intro (Nat.le_of_ble_eq_true rfl) (And.intro ⟨0, rfl, by decide, i22, by omega⟩ ?_)
        intro s36 h35
        have h35 : Iv s36 ∧ K_X10_clocks s21 s36 ∧ ((s36.1 0 1).toInt = (s21.1 0 1).toInt + 1) := h35
        have i37 := h35.1
        have k38 : K_X10_clocks s0 s36 := Kx.tr k23 (h35.2.1)
        have q39 := h35.2.2
        intro v40 e41
        have b42 := vg_add e41 (by omega) (by omega)
        exact ⟨rfl, ⟨v40, rfl, (by omega), (by omega), (by omega), (by omega), (by omega), i37, k38⟩, (by show (0 + (400 - v40.toInt) * 1000000000000).toNat < (0 + (400 - w15.toInt) * 1000000000000).toNat; omega)⟩
def o_X10_told : List vg_I := [(0, .iload_n 1, 1, 0, 0, 0, 0), (1, .invokestatic 201, 3, 0, 1, 1, 609), (4, .ifCond .ne 9, 3, 0, 0, 0, 0), (7, .aload_n 0, 1, 0, 0, 0, 0), (8, .iconst 2, 1, 0, 0, 0, 0), (9, .invokevirtual 90, 3, 1, 10, 1, 484), (12, .ireturn, 1, 0, 0, 0, 0), (13, .aload_n 0, 1, 0, 0, 0, 0), (14, .aload_n 0, 1, 0, 0, 0, 0), (15, .getfield 52, 3, 436, 10, 9, 0), (18, .iload_n 1, 1, 0, 0, 0, 0), (19, .aaload, 1, 0, 0, 0, 0), (20, .getfield 207, 3, 417, 4, 3, 0), (23, .invokevirtual 113, 3, 2, 10, 1, 520), (26, .ireturn, 1, 0, 0, 0, 0)]
set_option maxRecDepth 100000 in
set_option maxHeartbeats 4000000 in
theorem c_X10_told (l : Launch) (G : vg_G) (hp : vg_Hp G) : vg_Ct l G vg_sh r_X10_told := by
  refine vg_meth hp vg_sh_ok r_X10_told k_X10_told rfl (fun h => by cases h) o_X10_told [r_X10_isStage, r_X10_refuse, r_X10_answer] false (by decide +kernel) (by decide +kernel) ⟨_, _, rfl, rfl⟩ (List.forall_mem_cons.mpr ⟨⟨c_X10_isStage l G hp, Nat.le_of_ble_eq_true rfl, Nat.le_of_ble_eq_true rfl⟩, List.forall_mem_cons.mpr ⟨⟨c_X10_refuse l G hp, Nat.le_of_ble_eq_true rfl, Nat.le_of_ble_eq_true rfl⟩, List.forall_mem_cons.mpr ⟨⟨c_X10_answer l G hp, Nat.le_of_ble_eq_true rfl, Nat.le_of_ble_eq_true rfl⟩, fun _ h => absurd h List.not_mem_nil⟩⟩⟩) (fun h => by cases h) 600 ?_
  intro as s0 hpre
  obtain ⟨r, a1, rfl, hr, i0⟩ := hpre
  simp only [List.mem_cons, List.not_mem_nil, or_false] at hr
  rcases hr with rfl
  ·
    have z2 : (Int32.ofInt 2).toInt = 2 := by decide
    refine ⟨Nat.le_of_ble_eq_true rfl, [], ?_, fun _ h => absurd h List.not_mem_nil⟩
    ·
      refine And.intro (Nat.le_of_ble_eq_true rfl) (And.intro ⟨a1, rfl, trivial⟩ ?_)
      intro v1 s3 h2
      have h2 : s3 = s0 ∧ ((v1.toInt = 1 ∧ 0 ≤ a1.toInt ∧ a1.toInt ≤ 6) ∨ (v1.toInt = 0 ∧ (a1.toInt < 0 ∨ 6 < a1.toInt))) := h2
      have q6 := h2.1.symm
      subst q6
      have q7 := h2.2
      refine And.intro (fun c8 => ?_) (fun c8 => ?_)
      · have c8 : ¬ v1.toInt = 0 := c8
        refine And.intro rfl (And.intro ⟨by omega, by omega⟩ ?_)
        refine And.intro (fun c9 => ?_) ?_
        · have c9 : a1.toInt = (0) := c9
          intro v10 e11
          have g12 : s0.1 41 3 = v10 := by rw [e11]
          refine And.intro (Nat.le_of_ble_eq_true rfl) (And.intro ⟨0, v10, rfl, by decide, i0⟩ ?_)
          intro v13 s15 h14
          have h14 : Iv s15 ∧ Kp s0 s15 ∧ (v13 = v10 ∧ v13.toInt = v10.toInt) := h14
          have i16 := h14.1
          have k17 : Kp s0 s15 := Kx.tr Kx.rf (h14.2.1)
          have q18 := h14.2.2
          show Iv s15 ∧ Kp s0 s15 ∧ (True)
          exact ⟨i16, k17, (trivial)⟩
        refine And.intro (fun c19 => ?_) ?_
        · have c19 : a1.toInt = (1) := c19
          intro v20 e21
          have g22 : s0.1 43 3 = v20 := by rw [e21]
          refine And.intro (Nat.le_of_ble_eq_true rfl) (And.intro ⟨0, v20, rfl, by decide, i0⟩ ?_)
          intro v23 s25 h24
          have h24 : Iv s25 ∧ Kp s0 s25 ∧ (v23 = v20 ∧ v23.toInt = v20.toInt) := h24
          have i26 := h24.1
          have k27 : Kp s0 s25 := Kx.tr Kx.rf (h24.2.1)
          have q28 := h24.2.2
          show Iv s25 ∧ Kp s0 s25 ∧ (True)
          exact ⟨i26, k27, (trivial)⟩
        refine And.intro (fun c29 => ?_) ?_
        · have c29 : a1.toInt = (2) := c29
          intro v30 e31
          have g32 : s0.1 45 3 = v30 := by rw [e31]
          refine And.intro (Nat.le_of_ble_eq_true rfl) (And.intro ⟨0, v30, rfl, by decide, i0⟩ ?_)
          intro v33 s35 h34
          have h34 : Iv s35 ∧ Kp s0 s35 ∧ (v33 = v30 ∧ v33.toInt = v30.toInt) := h34
          have i36 := h34.1
          have k37 : Kp s0 s35 := Kx.tr Kx.rf (h34.2.1)
          have q38 := h34.2.2
          show Iv s35 ∧ Kp s0 s35 ∧ (True)
          exact ⟨i36, k37, (trivial)⟩
        refine And.intro (fun c39 => ?_) ?_
        · have c39 : a1.toInt = (3) := c39
          intro v40 e41
          have g42 : s0.1 47 3 = v40 := by rw [e41]
          refine And.intro (Nat.le_of_ble_eq_true rfl) (And.intro ⟨0, v40, rfl, by decide, i0⟩ ?_)
          intro v43 s45 h44
          have h44 : Iv s45 ∧ Kp s0 s45 ∧ (v43 = v40 ∧ v43.toInt = v40.toInt) := h44
          have i46 := h44.1
          have k47 : Kp s0 s45 := Kx.tr Kx.rf (h44.2.1)
          have q48 := h44.2.2
          show Iv s45 ∧ Kp s0 s45 ∧ (True)
          exact ⟨i46, k47, (trivial)⟩
        refine And.intro (fun c49 => ?_) ?_
        · have c49 : a1.toInt = (4) := c49
          intro v50 e51
          have g52 : s0.1 49 3 = v50 := by rw [e51]
          refine And.intro (Nat.le_of_ble_eq_true rfl) (And.intro ⟨0, v50, rfl, by decide, i0⟩ ?_)
          intro v53 s55 h54
          have h54 : Iv s55 ∧ Kp s0 s55 ∧ (v53 = v50 ∧ v53.toInt = v50.toInt) := h54
          have i56 := h54.1
          have k57 : Kp s0 s55 := Kx.tr Kx.rf (h54.2.1)
          have q58 := h54.2.2
          show Iv s55 ∧ Kp s0 s55 ∧ (True)
          exact ⟨i56, k57, (trivial)⟩
        refine And.intro (fun c59 => ?_) ?_
        · have c59 : a1.toInt = (5) := c59
          intro v60 e61
          have g62 : s0.1 51 3 = v60 := by rw [e61]
          refine And.intro (Nat.le_of_ble_eq_true rfl) (And.intro ⟨0, v60, rfl, by decide, i0⟩ ?_)
          intro v63 s65 h64
          have h64 : Iv s65 ∧ Kp s0 s65 ∧ (v63 = v60 ∧ v63.toInt = v60.toInt) := h64
          have i66 := h64.1
          have k67 : Kp s0 s65 := Kx.tr Kx.rf (h64.2.1)
          have q68 := h64.2.2
          show Iv s65 ∧ Kp s0 s65 ∧ (True)
          exact ⟨i66, k67, (trivial)⟩
        refine And.intro (fun c69 => ?_) ?_
        · have c69 : a1.toInt = (6) := c69
          intro v70 e71
          have g72 : s0.1 53 3 = v70 := by rw [e71]
          refine And.intro (Nat.le_of_ble_eq_true rfl) (And.intro ⟨0, v70, rfl, by decide, i0⟩ ?_)
          intro v73 s75 h74
          have h74 : Iv s75 ∧ Kp s0 s75 ∧ (v73 = v70 ∧ v73.toInt = v70.toInt) := h74
          have i76 := h74.1
          have k77 : Kp s0 s75 := Kx.tr Kx.rf (h74.2.1)
          have q78 := h74.2.2
          show Iv s75 ∧ Kp s0 s75 ∧ (True)
          exact ⟨i76, k77, (trivial)⟩
        exact trivial
      · have c8 : ¬ (¬ v1.toInt = 0) := c8
        refine And.intro (Nat.le_of_ble_eq_true rfl) (And.intro ⟨0, (Int32.ofInt 2), rfl, by decide, i0⟩ ?_)
        intro v79 s81 h80
        have h80 : Iv s81 ∧ Kp s0 s81 ∧ (v79.toInt = -1) := h80
        have i82 := h80.1
        have k83 : Kp s0 s81 := Kx.tr Kx.rf (h80.2.1)
        have q84 := h80.2.2
        show Iv s81 ∧ Kp s0 s81 ∧ (True)
        exact ⟨i82, k83, (trivial)⟩
def o_X10_latest : List vg_I := [(0, .iload_n 2, 1, 0, 0, 0, 0), (1, .ifCond .ge 9, 3, 0, 0, 0, 0), (4, .aload_n 0, 1, 0, 0, 0, 0), (5, .iconst 1, 1, 0, 0, 0, 0), (6, .invokevirtual 90, 3, 0, 10, 1, 484), (9, .ireturn, 1, 0, 0, 0, 0), (10, .iload_n 1, 1, 0, 0, 0, 0), (11, .invokestatic 201, 3, 1, 1, 1, 609), (14, .ifCond .ne 9, 3, 0, 0, 0, 0), (17, .aload_n 0, 1, 0, 0, 0, 0), (18, .iconst 2, 1, 0, 0, 0, 0), (19, .invokevirtual 90, 3, 0, 10, 1, 484), (22, .ireturn, 1, 0, 0, 0, 0), (23, .iload_n 2, 1, 0, 0, 0, 0), (24, .aload_n 0, 1, 0, 0, 0, 0), (25, .getfield 52, 3, 436, 10, 9, 0), (28, .iload_n 1, 1, 0, 0, 0, 0), (29, .aaload, 1, 0, 0, 0, 0), (30, .getfield 210, 3, 415, 4, 2, 0), (33, .if_icmp .lt 9, 3, 0, 0, 0, 0), (36, .aload_n 0, 1, 0, 0, 0, 0), (37, .iconst 5, 1, 0, 0, 0, 0), (38, .invokevirtual 90, 3, 0, 10, 1, 484), (41, .ireturn, 1, 0, 0, 0, 0), (42, .aload_n 0, 1, 0, 0, 0, 0), (43, .aload_n 0, 1, 0, 0, 0, 0), (44, .getfield 52, 3, 436, 10, 9, 0), (47, .iload_n 1, 1, 0, 0, 0, 0), (48, .aaload, 1, 0, 0, 0, 0), (49, .iload_n 2, 1, 0, 0, 0, 0), (50, .invokevirtual 213, 3, 2, 4, 1, 788), (53, .invokevirtual 113, 3, 3, 10, 1, 520), (56, .ireturn, 1, 0, 0, 0, 0)]
set_option maxRecDepth 100000 in
set_option maxHeartbeats 4000000 in
theorem c_X10_latest (l : Launch) (G : vg_G) (hp : vg_Hp G) : vg_Ct l G vg_sh r_X10_latest := by
  refine vg_meth hp vg_sh_ok r_X10_latest k_X10_latest rfl (fun h => by cases h) o_X10_latest [r_X10_refuse, r_X10_isStage, r_X4_get, r_X10_answer] false (by decide +kernel) (by decide +kernel) ⟨_, _, rfl, rfl⟩ (List.forall_mem_cons.mpr ⟨⟨c_X10_refuse l G hp, Nat.le_of_ble_eq_true rfl, Nat.le_of_ble_eq_true rfl⟩, List.forall_mem_cons.mpr ⟨⟨c_X10_isStage l G hp, Nat.le_of_ble_eq_true rfl, Nat.le_of_ble_eq_true rfl⟩, List.forall_mem_cons.mpr ⟨⟨c_X4_get l G hp, Nat.le_of_ble_eq_true rfl, Nat.le_of_ble_eq_true rfl⟩, List.forall_mem_cons.mpr ⟨⟨c_X10_answer l G hp, Nat.le_of_ble_eq_true rfl, Nat.le_of_ble_eq_true rfl⟩, fun _ h => absurd h List.not_mem_nil⟩⟩⟩⟩) (fun h => by cases h) 600 ?_
  intro as s0 hpre
  obtain ⟨r, a1, a2, rfl, hr, i0⟩ := hpre
  simp only [List.mem_cons, List.not_mem_nil, or_false] at hr
  rcases hr with rfl
  ·
    have z1 : (Int32.ofInt 1).toInt = 1 := by decide
    have z2 : (Int32.ofInt 2).toInt = 2 := by decide
    have z5 : (Int32.ofInt 5).toInt = 5 := by decide
    refine ⟨Nat.le_of_ble_eq_true rfl, [], ?_, fun _ h => absurd h List.not_mem_nil⟩
    ·
      refine And.intro (fun c1 => ?_) (fun c1 => ?_)
      · have c1 : 0 ≤ a2.toInt := c1
        refine And.intro (Nat.le_of_ble_eq_true rfl) (And.intro ⟨a1, rfl, trivial⟩ ?_)
        intro v2 s4 h3
        have h3 : s4 = s0 ∧ ((v2.toInt = 1 ∧ 0 ≤ a1.toInt ∧ a1.toInt ≤ 6) ∨ (v2.toInt = 0 ∧ (a1.toInt < 0 ∨ 6 < a1.toInt))) := h3
        have q7 := h3.1.symm
        subst q7
        have q8 := h3.2
        refine And.intro (fun c9 => ?_) (fun c9 => ?_)
        · have c9 : ¬ v2.toInt = 0 := c9
          refine And.intro rfl (And.intro ⟨by omega, by omega⟩ ?_)
          refine And.intro (fun c10 => ?_) ?_
          · have c10 : a1.toInt = (0) := c10
            intro v11 e12
            have g13 : s0.1 41 2 = v11 := by rw [e12]
            have b14 : (0 : Int) ≤ v11.toInt ∧ v11.toInt ≤ 48 := by rw [e12]; exact Iv_41_2 i0
            refine And.intro (fun c15 => ?_) (fun c15 => ?_)
            · have c15 : a2.toInt < v11.toInt := c15
              refine And.intro rfl (And.intro ⟨by omega, by omega⟩ ?_)
              refine And.intro (fun c16 => ?_) ?_
              · have c16 : a1.toInt = (0) := c16
                refine And.intro (Nat.le_of_ble_eq_true rfl) (And.intro ⟨41, a2, rfl, by decide, i0⟩ ?_)
                intro v17 s19 h18
                have h18 : s19 = s0 ∧ (True) := h18
                have q22 := h18.1.symm
                subst q22
                refine And.intro (Nat.le_of_ble_eq_true rfl) (And.intro ⟨0, v17, rfl, by decide, i0⟩ ?_)
                intro v23 s25 h24
                have h24 : Iv s25 ∧ Kp s0 s25 ∧ (v23 = v17 ∧ v23.toInt = v17.toInt) := h24
                have i26 := h24.1
                have k27 : Kp s0 s25 := Kx.tr Kx.rf (h24.2.1)
                have q28 := h24.2.2
                show Iv s25 ∧ Kp s0 s25 ∧ (True)
                exact ⟨i26, k27, (trivial)⟩
              refine And.intro (fun c29 => ?_) ?_
              · have c29 : a1.toInt = (1) := c29
                exfalso
                omega
              refine And.intro (fun c30 => ?_) ?_
              · have c30 : a1.toInt = (2) := c30
                exfalso
                omega
              refine And.intro (fun c31 => ?_) ?_
              · have c31 : a1.toInt = (3) := c31
                exfalso
                omega
              refine And.intro (fun c32 => ?_) ?_
              · have c32 : a1.toInt = (4) := c32
                exfalso
                omega
              refine And.intro (fun c33 => ?_) ?_
              · have c33 : a1.toInt = (5) := c33
                exfalso
                omega
              refine And.intro (fun c34 => ?_) ?_
              · have c34 : a1.toInt = (6) := c34
                exfalso
                omega
              exact trivial
            · have c15 : ¬ (a2.toInt < v11.toInt) := c15
              refine And.intro (Nat.le_of_ble_eq_true rfl) (And.intro ⟨0, (Int32.ofInt 5), rfl, by decide, i0⟩ ?_)
              intro v35 s37 h36
              have h36 : Iv s37 ∧ Kp s0 s37 ∧ (v35.toInt = -1) := h36
              have i38 := h36.1
              have k39 : Kp s0 s37 := Kx.tr Kx.rf (h36.2.1)
              have q40 := h36.2.2
              show Iv s37 ∧ Kp s0 s37 ∧ (True)
              exact ⟨i38, k39, (trivial)⟩
          refine And.intro (fun c41 => ?_) ?_
          · have c41 : a1.toInt = (1) := c41
            intro v42 e43
            have g44 : s0.1 43 2 = v42 := by rw [e43]
            have b45 : (0 : Int) ≤ v42.toInt ∧ v42.toInt ≤ 48 := by rw [e43]; exact Iv_43_2 i0
            refine And.intro (fun c46 => ?_) (fun c46 => ?_)
            · have c46 : a2.toInt < v42.toInt := c46
              refine And.intro rfl (And.intro ⟨by omega, by omega⟩ ?_)
              refine And.intro (fun c47 => ?_) ?_
              · have c47 : a1.toInt = (0) := c47
                exfalso
                omega
              refine And.intro (fun c48 => ?_) ?_
              · have c48 : a1.toInt = (1) := c48
                refine And.intro (Nat.le_of_ble_eq_true rfl) (And.intro ⟨43, a2, rfl, by decide, i0⟩ ?_)
                intro v49 s51 h50
                have h50 : s51 = s0 ∧ (True) := h50
                have q54 := h50.1.symm
                subst q54
                refine And.intro (Nat.le_of_ble_eq_true rfl) (And.intro ⟨0, v49, rfl, by decide, i0⟩ ?_)
                intro v55 s57 h56
                have h56 : Iv s57 ∧ Kp s0 s57 ∧ (v55 = v49 ∧ v55.toInt = v49.toInt) := h56
                have i58 := h56.1
                have k59 : Kp s0 s57 := Kx.tr Kx.rf (h56.2.1)
                have q60 := h56.2.2
                show Iv s57 ∧ Kp s0 s57 ∧ (True)
                exact ⟨i58, k59, (trivial)⟩
              refine And.intro (fun c61 => ?_) ?_
              · have c61 : a1.toInt = (2) := c61
                exfalso
                omega
              refine And.intro (fun c62 => ?_) ?_
              · have c62 : a1.toInt = (3) := c62
                exfalso
                omega
              refine And.intro (fun c63 => ?_) ?_
              · have c63 : a1.toInt = (4) := c63
                exfalso
                omega
              refine And.intro (fun c64 => ?_) ?_
              · have c64 : a1.toInt = (5) := c64
                exfalso
                omega
              refine And.intro (fun c65 => ?_) ?_
              · have c65 : a1.toInt = (6) := c65
                exfalso
                omega
              exact trivial
            · have c46 : ¬ (a2.toInt < v42.toInt) := c46
              refine And.intro (Nat.le_of_ble_eq_true rfl) (And.intro ⟨0, (Int32.ofInt 5), rfl, by decide, i0⟩ ?_)
              intro v66 s68 h67
              have h67 : Iv s68 ∧ Kp s0 s68 ∧ (v66.toInt = -1) := h67
              have i69 := h67.1
              have k70 : Kp s0 s68 := Kx.tr Kx.rf (h67.2.1)
              have q71 := h67.2.2
              show Iv s68 ∧ Kp s0 s68 ∧ (True)
              exact ⟨i69, k70, (trivial)⟩
          refine And.intro (fun c72 => ?_) ?_
          · have c72 : a1.toInt = (2) := c72
            intro v73 e74
            have g75 : s0.1 45 2 = v73 := by rw [e74]
            have b76 : (0 : Int) ≤ v73.toInt ∧ v73.toInt ≤ 48 := by rw [e74]; exact Iv_45_2 i0
            refine And.intro (fun c77 => ?_) (fun c77 => ?_)
            · have c77 : a2.toInt < v73.toInt := c77
              refine And.intro rfl (And.intro ⟨by omega, by omega⟩ ?_)
              refine And.intro (fun c78 => ?_) ?_
              · have c78 : a1.toInt = (0) := c78
                exfalso
                omega
              refine And.intro (fun c79 => ?_) ?_
              · have c79 : a1.toInt = (1) := c79
                exfalso
                omega
              refine And.intro (fun c80 => ?_) ?_
              · have c80 : a1.toInt = (2) := c80
                refine And.intro (Nat.le_of_ble_eq_true rfl) (And.intro ⟨45, a2, rfl, by decide, i0⟩ ?_)
                intro v81 s83 h82
                have h82 : s83 = s0 ∧ (True) := h82
                have q86 := h82.1.symm
                subst q86
                refine And.intro (Nat.le_of_ble_eq_true rfl) (And.intro ⟨0, v81, rfl, by decide, i0⟩ ?_)
                intro v87 s89 h88
                have h88 : Iv s89 ∧ Kp s0 s89 ∧ (v87 = v81 ∧ v87.toInt = v81.toInt) := h88
                have i90 := h88.1
                have k91 : Kp s0 s89 := Kx.tr Kx.rf (h88.2.1)
                have q92 := h88.2.2
                show Iv s89 ∧ Kp s0 s89 ∧ (True)
                exact ⟨i90, k91, (trivial)⟩
              refine And.intro (fun c93 => ?_) ?_
              · have c93 : a1.toInt = (3) := c93
                exfalso
                omega
              refine And.intro (fun c94 => ?_) ?_
              · have c94 : a1.toInt = (4) := c94
                exfalso
                omega
              refine And.intro (fun c95 => ?_) ?_
              · have c95 : a1.toInt = (5) := c95
                exfalso
                omega
              refine And.intro (fun c96 => ?_) ?_
              · have c96 : a1.toInt = (6) := c96
                exfalso
                omega
              exact trivial
            · have c77 : ¬ (a2.toInt < v73.toInt) := c77
              refine And.intro (Nat.le_of_ble_eq_true rfl) (And.intro ⟨0, (Int32.ofInt 5), rfl, by decide, i0⟩ ?_)
              intro v97 s99 h98
              have h98 : Iv s99 ∧ Kp s0 s99 ∧ (v97.toInt = -1) := h98
              have i100 := h98.1
              have k101 : Kp s0 s99 := Kx.tr Kx.rf (h98.2.1)
              have q102 := h98.2.2
              show Iv s99 ∧ Kp s0 s99 ∧ (True)
              exact ⟨i100, k101, (trivial)⟩
          refine And.intro (fun c103 => ?_) ?_
          · have c103 : a1.toInt = (3) := c103
            intro v104 e105
            have g106 : s0.1 47 2 = v104 := by rw [e105]
            have b107 : (0 : Int) ≤ v104.toInt ∧ v104.toInt ≤ 48 := by rw [e105]; exact Iv_47_2 i0
            refine And.intro (fun c108 => ?_) (fun c108 => ?_)
            · have c108 : a2.toInt < v104.toInt := c108
              refine And.intro rfl (And.intro ⟨by omega, by omega⟩ ?_)
              refine And.intro (fun c109 => ?_) ?_
              · have c109 : a1.toInt = (0) := c109
                exfalso
                omega
              refine And.intro (fun c110 => ?_) ?_
              · have c110 : a1.toInt = (1) := c110
                exfalso
                omega
              refine And.intro (fun c111 => ?_) ?_
              · have c111 : a1.toInt = (2) := c111
                exfalso
                omega
              refine And.intro (fun c112 => ?_) ?_
              · have c112 : a1.toInt = (3) := c112
                refine And.intro (Nat.le_of_ble_eq_true rfl) (And.intro ⟨47, a2, rfl, by decide, i0⟩ ?_)
                intro v113 s115 h114
                have h114 : s115 = s0 ∧ (True) := h114
                have q118 := h114.1.symm
                subst q118
                refine And.intro (Nat.le_of_ble_eq_true rfl) (And.intro ⟨0, v113, rfl, by decide, i0⟩ ?_)
                intro v119 s121 h120
                have h120 : Iv s121 ∧ Kp s0 s121 ∧ (v119 = v113 ∧ v119.toInt = v113.toInt) := h120
                have i122 := h120.1
                have k123 : Kp s0 s121 := Kx.tr Kx.rf (h120.2.1)
                have q124 := h120.2.2
                show Iv s121 ∧ Kp s0 s121 ∧ (True)
                exact ⟨i122, k123, (trivial)⟩
              refine And.intro (fun c125 => ?_) ?_
              · have c125 : a1.toInt = (4) := c125
                exfalso
                omega
              refine And.intro (fun c126 => ?_) ?_
              · have c126 : a1.toInt = (5) := c126
                exfalso
                omega
              refine And.intro (fun c127 => ?_) ?_
              · have c127 : a1.toInt = (6) := c127
                exfalso
                omega
              exact trivial
            · have c108 : ¬ (a2.toInt < v104.toInt) := c108
              refine And.intro (Nat.le_of_ble_eq_true rfl) (And.intro ⟨0, (Int32.ofInt 5), rfl, by decide, i0⟩ ?_)
              intro v128 s130 h129
              have h129 : Iv s130 ∧ Kp s0 s130 ∧ (v128.toInt = -1) := h129
              have i131 := h129.1
              have k132 : Kp s0 s130 := Kx.tr Kx.rf (h129.2.1)
              have q133 := h129.2.2
              show Iv s130 ∧ Kp s0 s130 ∧ (True)
              exact ⟨i131, k132, (trivial)⟩
          refine And.intro (fun c134 => ?_) ?_
          · have c134 : a1.toInt = (4) := c134
            intro v135 e136
            have g137 : s0.1 49 2 = v135 := by rw [e136]
            have b138 : (0 : Int) ≤ v135.toInt ∧ v135.toInt ≤ 48 := by rw [e136]; exact Iv_49_2 i0
            refine And.intro (fun c139 => ?_) (fun c139 => ?_)
            · have c139 : a2.toInt < v135.toInt := c139
              refine And.intro rfl (And.intro ⟨by omega, by omega⟩ ?_)
              refine And.intro (fun c140 => ?_) ?_
              · have c140 : a1.toInt = (0) := c140
                exfalso
                omega
              refine And.intro (fun c141 => ?_) ?_
              · have c141 : a1.toInt = (1) := c141
                exfalso
                omega
              refine And.intro (fun c142 => ?_) ?_
              · have c142 : a1.toInt = (2) := c142
                exfalso
                omega
              refine And.intro (fun c143 => ?_) ?_
              · have c143 : a1.toInt = (3) := c143
                exfalso
                omega
              refine And.intro (fun c144 => ?_) ?_
              · have c144 : a1.toInt = (4) := c144
                refine And.intro (Nat.le_of_ble_eq_true rfl) (And.intro ⟨49, a2, rfl, by decide, i0⟩ ?_)
                intro v145 s147 h146
                have h146 : s147 = s0 ∧ (True) := h146
                have q150 := h146.1.symm
                subst q150
                refine And.intro (Nat.le_of_ble_eq_true rfl) (And.intro ⟨0, v145, rfl, by decide, i0⟩ ?_)
                intro v151 s153 h152
                have h152 : Iv s153 ∧ Kp s0 s153 ∧ (v151 = v145 ∧ v151.toInt = v145.toInt) := h152
                have i154 := h152.1
                have k155 : Kp s0 s153 := Kx.tr Kx.rf (h152.2.1)
                have q156 := h152.2.2
                show Iv s153 ∧ Kp s0 s153 ∧ (True)
                exact ⟨i154, k155, (trivial)⟩
              refine And.intro (fun c157 => ?_) ?_
              · have c157 : a1.toInt = (5) := c157
                exfalso
                omega
              refine And.intro (fun c158 => ?_) ?_
              · have c158 : a1.toInt = (6) := c158
                exfalso
                omega
              exact trivial
            · have c139 : ¬ (a2.toInt < v135.toInt) := c139
              refine And.intro (Nat.le_of_ble_eq_true rfl) (And.intro ⟨0, (Int32.ofInt 5), rfl, by decide, i0⟩ ?_)
              intro v159 s161 h160
              have h160 : Iv s161 ∧ Kp s0 s161 ∧ (v159.toInt = -1) := h160
              have i162 := h160.1
              have k163 : Kp s0 s161 := Kx.tr Kx.rf (h160.2.1)
              have q164 := h160.2.2
              show Iv s161 ∧ Kp s0 s161 ∧ (True)
              exact ⟨i162, k163, (trivial)⟩
          refine And.intro (fun c165 => ?_) ?_
          · have c165 : a1.toInt = (5) := c165
            intro v166 e167
            have g168 : s0.1 51 2 = v166 := by rw [e167]
            have b169 : (0 : Int) ≤ v166.toInt ∧ v166.toInt ≤ 48 := by rw [e167]; exact Iv_51_2 i0
            refine And.intro (fun c170 => ?_) (fun c170 => ?_)
            · have c170 : a2.toInt < v166.toInt := c170
              refine And.intro rfl (And.intro ⟨by omega, by omega⟩ ?_)
              refine And.intro (fun c171 => ?_) ?_
              · have c171 : a1.toInt = (0) := c171
                exfalso
                omega
              refine And.intro (fun c172 => ?_) ?_
              · have c172 : a1.toInt = (1) := c172
                exfalso
                omega
              refine And.intro (fun c173 => ?_) ?_
              · have c173 : a1.toInt = (2) := c173
                exfalso
                omega
              refine And.intro (fun c174 => ?_) ?_
              · have c174 : a1.toInt = (3) := c174
                exfalso
                omega
              refine And.intro (fun c175 => ?_) ?_
              · have c175 : a1.toInt = (4) := c175
                exfalso
                omega
              refine And.intro (fun c176 => ?_) ?_
              · have c176 : a1.toInt = (5) := c176
                refine And.intro (Nat.le_of_ble_eq_true rfl) (And.intro ⟨51, a2, rfl, by decide, i0⟩ ?_)
                intro v177 s179 h178
                have h178 : s179 = s0 ∧ (True) := h178
                have q182 := h178.1.symm
                subst q182
                refine And.intro (Nat.le_of_ble_eq_true rfl) (And.intro ⟨0, v177, rfl, by decide, i0⟩ ?_)
                intro v183 s185 h184
                have h184 : Iv s185 ∧ Kp s0 s185 ∧ (v183 = v177 ∧ v183.toInt = v177.toInt) := h184
                have i186 := h184.1
                have k187 : Kp s0 s185 := Kx.tr Kx.rf (h184.2.1)
                have q188 := h184.2.2
                show Iv s185 ∧ Kp s0 s185 ∧ (True)
                exact ⟨i186, k187, (trivial)⟩
              refine And.intro (fun c189 => ?_) ?_
              · have c189 : a1.toInt = (6) := c189
                exfalso
                omega
              exact trivial
            · have c170 : ¬ (a2.toInt < v166.toInt) := c170
              refine And.intro (Nat.le_of_ble_eq_true rfl) (And.intro ⟨0, (Int32.ofInt 5), rfl, by decide, i0⟩ ?_)
              intro v190 s192 h191
              have h191 : Iv s192 ∧ Kp s0 s192 ∧ (v190.toInt = -1) := h191
              have i193 := h191.1
              have k194 : Kp s0 s192 := Kx.tr Kx.rf (h191.2.1)
              have q195 := h191.2.2
              show Iv s192 ∧ Kp s0 s192 ∧ (True)
              exact ⟨i193, k194, (trivial)⟩
          refine And.intro (fun c196 => ?_) ?_
          · have c196 : a1.toInt = (6) := c196
            intro v197 e198
            have g199 : s0.1 53 2 = v197 := by rw [e198]
            have b200 : (0 : Int) ≤ v197.toInt ∧ v197.toInt ≤ 48 := by rw [e198]; exact Iv_53_2 i0
            refine And.intro (fun c201 => ?_) (fun c201 => ?_)
            · have c201 : a2.toInt < v197.toInt := c201
              refine And.intro rfl (And.intro ⟨by omega, by omega⟩ ?_)
              refine And.intro (fun c202 => ?_) ?_
              · have c202 : a1.toInt = (0) := c202
                exfalso
                omega
              refine And.intro (fun c203 => ?_) ?_
              · have c203 : a1.toInt = (1) := c203
                exfalso
                omega
              refine And.intro (fun c204 => ?_) ?_
              · have c204 : a1.toInt = (2) := c204
                exfalso
                omega
              refine And.intro (fun c205 => ?_) ?_
              · have c205 : a1.toInt = (3) := c205
                exfalso
                omega
              refine And.intro (fun c206 => ?_) ?_
              · have c206 : a1.toInt = (4) := c206
                exfalso
                omega
              refine And.intro (fun c207 => ?_) ?_
              · have c207 : a1.toInt = (5) := c207
                exfalso
                omega
              refine And.intro (fun c208 => ?_) ?_
              · have c208 : a1.toInt = (6) := c208
                refine And.intro (Nat.le_of_ble_eq_true rfl) (And.intro ⟨53, a2, rfl, by decide, i0⟩ ?_)
                intro v209 s211 h210
                have h210 : s211 = s0 ∧ (True) := h210
                have q214 := h210.1.symm
                subst q214
                refine And.intro (Nat.le_of_ble_eq_true rfl) (And.intro ⟨0, v209, rfl, by decide, i0⟩ ?_)
                intro v215 s217 h216
                have h216 : Iv s217 ∧ Kp s0 s217 ∧ (v215 = v209 ∧ v215.toInt = v209.toInt) := h216
                have i218 := h216.1
                have k219 : Kp s0 s217 := Kx.tr Kx.rf (h216.2.1)
                have q220 := h216.2.2
                show Iv s217 ∧ Kp s0 s217 ∧ (True)
                exact ⟨i218, k219, (trivial)⟩
              exact trivial
            · have c201 : ¬ (a2.toInt < v197.toInt) := c201
              refine And.intro (Nat.le_of_ble_eq_true rfl) (And.intro ⟨0, (Int32.ofInt 5), rfl, by decide, i0⟩ ?_)
              intro v221 s223 h222
              have h222 : Iv s223 ∧ Kp s0 s223 ∧ (v221.toInt = -1) := h222
              have i224 := h222.1
              have k225 : Kp s0 s223 := Kx.tr Kx.rf (h222.2.1)
              have q226 := h222.2.2
              show Iv s223 ∧ Kp s0 s223 ∧ (True)
              exact ⟨i224, k225, (trivial)⟩
          exact trivial
        · have c9 : ¬ (¬ v2.toInt = 0) := c9
          refine And.intro (Nat.le_of_ble_eq_true rfl) (And.intro ⟨0, (Int32.ofInt 2), rfl, by decide, i0⟩ ?_)
          intro v227 s229 h228
          have h228 : Iv s229 ∧ Kp s0 s229 ∧ (v227.toInt = -1) := h228
          have i230 := h228.1
          have k231 : Kp s0 s229 := Kx.tr Kx.rf (h228.2.1)
          have q232 := h228.2.2
          show Iv s229 ∧ Kp s0 s229 ∧ (True)
          exact ⟨i230, k231, (trivial)⟩
      · have c1 : ¬ (0 ≤ a2.toInt) := c1
        refine And.intro (Nat.le_of_ble_eq_true rfl) (And.intro ⟨0, (Int32.ofInt 1), rfl, by decide, i0⟩ ?_)
        intro v233 s235 h234
        have h234 : Iv s235 ∧ Kp s0 s235 ∧ (v233.toInt = -1) := h234
        have i236 := h234.1
        have k237 : Kp s0 s235 := Kx.tr Kx.rf (h234.2.1)
        have q238 := h234.2.2
        show Iv s235 ∧ Kp s0 s235 ∧ (True)
        exact ⟨i236, k237, (trivial)⟩
def o_X10_state : List vg_I := [(0, .iload_n 1, 1, 0, 0, 0, 0), (1, .iconst 0, 1, 0, 0, 0, 0), (2, .bipush 13, 2, 0, 0, 0, 0), (4, .invokestatic 82, 3, 0, 1, 3, 478), (7, .ifCond .ne 9, 3, 0, 0, 0, 0), (10, .aload_n 0, 1, 0, 0, 0, 0), (11, .iconst 1, 1, 0, 0, 0, 0), (12, .invokevirtual 90, 3, 1, 10, 1, 484), (15, .ireturn, 1, 0, 0, 0, 0), (16, .iload_n 1, 1, 0, 0, 0, 0), (17, .iconst 4, 1, 0, 0, 0, 0), (18, .if_icmp .ge 17, 3, 0, 0, 0, 0), (21, .aload_n 0, 1, 0, 0, 0, 0), (22, .aload_n 0, 1, 0, 0, 0, 0), (23, .getfield 19, 3, 431, 10, 4, 0), (26, .getfield 216, 3, 181, 5, 1, 0), (29, .iload_n 1, 1, 0, 0, 0, 0), (30, .iaload, 1, 0, 0, 0, 0), (31, .invokevirtual 113, 3, 2, 10, 1, 520), (34, .ireturn, 1, 0, 0, 0, 0), (35, .iload_n 1, 1, 0, 0, 0, 0), (36, .tableswitch 154 4 12 #[52, 64, 76, 88, 100, 112, 124, 136, 145], 52, 0, 0, 0, 0), (88, .aload_n 0, 1, 0, 0, 0, 0), (89, .aload_n 0, 1, 0, 0, 0, 0), (90, .getfield 19, 3, 431, 10, 4, 0), (93, .getfield 219, 3, 184, 5, 3, 0), (96, .invokevirtual 113, 3, 2, 10, 1, 520), (99, .ireturn, 1, 0, 0, 0, 0), (100, .aload_n 0, 1, 0, 0, 0, 0), (101, .aload_n 0, 1, 0, 0, 0, 0), (102, .getfield 19, 3, 431, 10, 4, 0), (105, .getfield 222, 3, 186, 5, 4, 0), (108, .invokevirtual 113, 3, 2, 10, 1, 520), (111, .ireturn, 1, 0, 0, 0, 0), (112, .aload_n 0, 1, 0, 0, 0, 0), (113, .aload_n 0, 1, 0, 0, 0, 0), (114, .getfield 26, 3, 432, 10, 5, 0), (117, .getfield 225, 3, 244, 2, 2, 0), (120, .invokevirtual 113, 3, 2, 10, 1, 520), (123, .ireturn, 1, 0, 0, 0, 0), (124, .aload_n 0, 1, 0, 0, 0, 0), (125, .aload_n 0, 1, 0, 0, 0, 0), (126, .getfield 19, 3, 431, 10, 4, 0), (129, .getfield 228, 3, 188, 5, 5, 0), (132, .invokevirtual 113, 3, 2, 10, 1, 520), (135, .ireturn, 1, 0, 0, 0, 0), (136, .aload_n 0, 1, 0, 0, 0, 0), (137, .aload_n 0, 1, 0, 0, 0, 0), (138, .getfield 19, 3, 431, 10, 4, 0), (141, .getfield 231, 3, 190, 5, 6, 0), (144, .invokevirtual 113, 3, 2, 10, 1, 520), (147, .ireturn, 1, 0, 0, 0, 0), (148, .aload_n 0, 1, 0, 0, 0, 0), (149, .aload_n 0, 1, 0, 0, 0, 0), (150, .getfield 26, 3, 432, 10, 5, 0), (153, .getfield 148, 3, 240, 2, 0, 0), (156, .invokevirtual 113, 3, 2, 10, 1, 520), (159, .ireturn, 1, 0, 0, 0, 0), (160, .aload_n 0, 1, 0, 0, 0, 0), (161, .aload_n 0, 1, 0, 0, 0, 0), (162, .getfield 26, 3, 432, 10, 5, 0), (165, .getfield 160, 3, 242, 2, 1, 0), (168, .invokevirtual 113, 3, 2, 10, 1, 520), (171, .ireturn, 1, 0, 0, 0, 0), (172, .aload_n 0, 1, 0, 0, 0, 0), (173, .aload_n 0, 1, 0, 0, 0, 0), (174, .getfield 110, 3, 428, 10, 1, 0), (177, .invokevirtual 113, 3, 2, 10, 1, 520), (180, .ireturn, 1, 0, 0, 0, 0), (181, .aload_n 0, 1, 0, 0, 0, 0), (182, .aload_n 0, 1, 0, 0, 0, 0), (183, .getfield 196, 3, 429, 10, 2, 0), (186, .invokevirtual 113, 3, 2, 10, 1, 520), (189, .ireturn, 1, 0, 0, 0, 0), (190, .aload_n 0, 1, 0, 0, 0, 0), (191, .aload_n 0, 1, 0, 0, 0, 0), (192, .getfield 59, 3, 437, 10, 10, 0), (195, .getfield 234, 3, 354, 0, 1, 0), (198, .invokevirtual 113, 3, 2, 10, 1, 520), (201, .ireturn, 1, 0, 0, 0, 0)]
set_option maxRecDepth 100000 in
set_option maxHeartbeats 4000000 in
theorem c_X10_state (l : Launch) (G : vg_G) (hp : vg_Hp G) : vg_Ct l G vg_sh r_X10_state := by
  refine vg_meth hp vg_sh_ok r_X10_state k_X10_state rfl (fun h => by cases h) o_X10_state [r_X10_within, r_X10_refuse, r_X10_answer] false (by decide +kernel) (by decide +kernel) ⟨_, _, rfl, rfl⟩ (List.forall_mem_cons.mpr ⟨⟨c_X10_within l G hp, Nat.le_of_ble_eq_true rfl, Nat.le_of_ble_eq_true rfl⟩, List.forall_mem_cons.mpr ⟨⟨c_X10_refuse l G hp, Nat.le_of_ble_eq_true rfl, Nat.le_of_ble_eq_true rfl⟩, List.forall_mem_cons.mpr ⟨⟨c_X10_answer l G hp, Nat.le_of_ble_eq_true rfl, Nat.le_of_ble_eq_true rfl⟩, fun _ h => absurd h List.not_mem_nil⟩⟩⟩) (fun h => by cases h) 600 ?_
  intro as s0 hpre
  obtain ⟨r, a1, rfl, hr, i0⟩ := hpre
  simp only [List.mem_cons, List.not_mem_nil, or_false] at hr
  rcases hr with rfl
  ·
    have z0 : (Int32.ofInt 0).toInt = 0 := by decide
    have z1 : (Int32.ofInt 1).toInt = 1 := by decide
    have z4 : (Int32.ofInt 4).toInt = 4 := by decide
    have z13 : (Int32.ofInt 13).toInt = 13 := by decide
    refine ⟨Nat.le_of_ble_eq_true rfl, [], ?_, fun _ h => absurd h List.not_mem_nil⟩
    ·
      refine And.intro (Nat.le_of_ble_eq_true rfl) (And.intro ⟨a1, (Int32.ofInt 0), (Int32.ofInt 13), rfl, trivial⟩ ?_)
      intro v1 s3 h2
      have h2 : s3 = s0 ∧ ((v1.toInt = 1 ∧ (Int32.ofInt 0).toInt ≤ a1.toInt ∧ a1.toInt ≤ (Int32.ofInt 13).toInt) ∨ (v1.toInt = 0 ∧ (a1.toInt < (Int32.ofInt 0).toInt ∨ (Int32.ofInt 13).toInt < a1.toInt))) := h2
      have q6 := h2.1.symm
      subst q6
      have q7 := h2.2
      refine And.intro (fun c8 => ?_) (fun c8 => ?_)
      · have c8 : ¬ v1.toInt = 0 := c8
        refine And.intro (fun c9 => ?_) (fun c9 => ?_)
        · have c9 : (Int32.ofInt 4).toInt ≤ a1.toInt := c9
          refine And.intro (fun c10 => ?_) ?_
          · have c10 : a1.toInt < (4) ∨ (12) < a1.toInt := c10
            intro v11 e12
            have g13 : s0.1 20 1 = v11 := by rw [e12]
            have b14 : (0 : Int) ≤ v11.toInt ∧ v11.toInt ≤ 12 := by rw [e12]; exact Iv_20_1 i0
            refine And.intro (Nat.le_of_ble_eq_true rfl) (And.intro ⟨0, v11, rfl, by decide, i0⟩ ?_)
            intro v15 s17 h16
            have h16 : Iv s17 ∧ Kp s0 s17 ∧ (v15 = v11 ∧ v15.toInt = v11.toInt) := h16
            have i18 := h16.1
            have k19 : Kp s0 s17 := Kx.tr Kx.rf (h16.2.1)
            have q20 := h16.2.2
            show Iv s17 ∧ Kp s0 s17 ∧ (True)
            exact ⟨i18, k19, (trivial)⟩
          refine And.intro (fun c21 => ?_) ?_
          · have c21 : a1.toInt = (4) := c21
            intro v22 e23
            have g24 : s0.1 3 3 = v22 := by rw [e23]
            refine And.intro (Nat.le_of_ble_eq_true rfl) (And.intro ⟨0, v22, rfl, by decide, i0⟩ ?_)
            intro v25 s27 h26
            have h26 : Iv s27 ∧ Kp s0 s27 ∧ (v25 = v22 ∧ v25.toInt = v22.toInt) := h26
            have i28 := h26.1
            have k29 : Kp s0 s27 := Kx.tr Kx.rf (h26.2.1)
            have q30 := h26.2.2
            show Iv s27 ∧ Kp s0 s27 ∧ (True)
            exact ⟨i28, k29, (trivial)⟩
          refine And.intro (fun c31 => ?_) ?_
          · have c31 : a1.toInt = (5) := c31
            intro v32 e33
            have g34 : s0.1 3 4 = v32 := by rw [e33]
            refine And.intro (Nat.le_of_ble_eq_true rfl) (And.intro ⟨0, v32, rfl, by decide, i0⟩ ?_)
            intro v35 s37 h36
            have h36 : Iv s37 ∧ Kp s0 s37 ∧ (v35 = v32 ∧ v35.toInt = v32.toInt) := h36
            have i38 := h36.1
            have k39 : Kp s0 s37 := Kx.tr Kx.rf (h36.2.1)
            have q40 := h36.2.2
            show Iv s37 ∧ Kp s0 s37 ∧ (True)
            exact ⟨i38, k39, (trivial)⟩
          refine And.intro (fun c41 => ?_) ?_
          · have c41 : a1.toInt = (6) := c41
            intro v42 e43
            have g44 : s0.1 7 2 = v42 := by rw [e43]
            refine And.intro (Nat.le_of_ble_eq_true rfl) (And.intro ⟨0, v42, rfl, by decide, i0⟩ ?_)
            intro v45 s47 h46
            have h46 : Iv s47 ∧ Kp s0 s47 ∧ (v45 = v42 ∧ v45.toInt = v42.toInt) := h46
            have i48 := h46.1
            have k49 : Kp s0 s47 := Kx.tr Kx.rf (h46.2.1)
            have q50 := h46.2.2
            show Iv s47 ∧ Kp s0 s47 ∧ (True)
            exact ⟨i48, k49, (trivial)⟩
          refine And.intro (fun c51 => ?_) ?_
          · have c51 : a1.toInt = (7) := c51
            intro v52 e53
            have g54 : s0.1 3 5 = v52 := by rw [e53]
            refine And.intro (Nat.le_of_ble_eq_true rfl) (And.intro ⟨0, v52, rfl, by decide, i0⟩ ?_)
            intro v55 s57 h56
            have h56 : Iv s57 ∧ Kp s0 s57 ∧ (v55 = v52 ∧ v55.toInt = v52.toInt) := h56
            have i58 := h56.1
            have k59 : Kp s0 s57 := Kx.tr Kx.rf (h56.2.1)
            have q60 := h56.2.2
            show Iv s57 ∧ Kp s0 s57 ∧ (True)
            exact ⟨i58, k59, (trivial)⟩
          refine And.intro (fun c61 => ?_) ?_
          · have c61 : a1.toInt = (8) := c61
            intro v62 e63
            have g64 : s0.1 3 6 = v62 := by rw [e63]
            refine And.intro (Nat.le_of_ble_eq_true rfl) (And.intro ⟨0, v62, rfl, by decide, i0⟩ ?_)
            intro v65 s67 h66
            have h66 : Iv s67 ∧ Kp s0 s67 ∧ (v65 = v62 ∧ v65.toInt = v62.toInt) := h66
            have i68 := h66.1
            have k69 : Kp s0 s67 := Kx.tr Kx.rf (h66.2.1)
            have q70 := h66.2.2
            show Iv s67 ∧ Kp s0 s67 ∧ (True)
            exact ⟨i68, k69, (trivial)⟩
          refine And.intro (fun c71 => ?_) ?_
          · have c71 : a1.toInt = (9) := c71
            intro v72 e73
            have g74 : s0.1 7 0 = v72 := by rw [e73]
            have b75 : (1 : Int) ≤ v72.toInt ∧ v72.toInt ≤ 16 := by rw [e73]; exact Iv_7_0 i0
            refine And.intro (Nat.le_of_ble_eq_true rfl) (And.intro ⟨0, v72, rfl, by decide, i0⟩ ?_)
            intro v76 s78 h77
            have h77 : Iv s78 ∧ Kp s0 s78 ∧ (v76 = v72 ∧ v76.toInt = v72.toInt) := h77
            have i79 := h77.1
            have k80 : Kp s0 s78 := Kx.tr Kx.rf (h77.2.1)
            have q81 := h77.2.2
            show Iv s78 ∧ Kp s0 s78 ∧ (True)
            exact ⟨i79, k80, (trivial)⟩
          refine And.intro (fun c82 => ?_) ?_
          · have c82 : a1.toInt = (10) := c82
            intro v83 e84
            have g85 : s0.1 7 1 = v83 := by rw [e84]
            refine And.intro (Nat.le_of_ble_eq_true rfl) (And.intro ⟨0, v83, rfl, by decide, i0⟩ ?_)
            intro v86 s88 h87
            have h87 : Iv s88 ∧ Kp s0 s88 ∧ (v86 = v83 ∧ v86.toInt = v83.toInt) := h87
            have i89 := h87.1
            have k90 : Kp s0 s88 := Kx.tr Kx.rf (h87.2.1)
            have q91 := h87.2.2
            show Iv s88 ∧ Kp s0 s88 ∧ (True)
            exact ⟨i89, k90, (trivial)⟩
          refine And.intro (fun c92 => ?_) ?_
          · have c92 : a1.toInt = (11) := c92
            intro v93 e94
            have g95 : s0.1 0 1 = v93 := by rw [e94]
            refine And.intro (Nat.le_of_ble_eq_true rfl) (And.intro ⟨0, v93, rfl, by decide, i0⟩ ?_)
            intro v96 s98 h97
            have h97 : Iv s98 ∧ Kp s0 s98 ∧ (v96 = v93 ∧ v96.toInt = v93.toInt) := h97
            have i99 := h97.1
            have k100 : Kp s0 s98 := Kx.tr Kx.rf (h97.2.1)
            have q101 := h97.2.2
            show Iv s98 ∧ Kp s0 s98 ∧ (True)
            exact ⟨i99, k100, (trivial)⟩
          refine And.intro (fun c102 => ?_) ?_
          · have c102 : a1.toInt = (12) := c102
            intro v103 e104
            have g105 : s0.1 0 2 = v103 := by rw [e104]
            have b106 : (0 : Int) ≤ v103.toInt ∧ v103.toInt ≤ 3 := by rw [e104]; exact Iv_0_2 i0
            refine And.intro (Nat.le_of_ble_eq_true rfl) (And.intro ⟨0, v103, rfl, by decide, i0⟩ ?_)
            intro v107 s109 h108
            have h108 : Iv s109 ∧ Kp s0 s109 ∧ (v107 = v103 ∧ v107.toInt = v103.toInt) := h108
            have i110 := h108.1
            have k111 : Kp s0 s109 := Kx.tr Kx.rf (h108.2.1)
            have q112 := h108.2.2
            show Iv s109 ∧ Kp s0 s109 ∧ (True)
            exact ⟨i110, k111, (trivial)⟩
          exact trivial
        · have c9 : ¬ ((Int32.ofInt 4).toInt ≤ a1.toInt) := c9
          refine And.intro ⟨by omega, by omega⟩ ?_
          intro v113 e114
          refine And.intro (Nat.le_of_ble_eq_true rfl) (And.intro ⟨0, v113, rfl, by decide, i0⟩ ?_)
          intro v115 s117 h116
          have h116 : Iv s117 ∧ Kp s0 s117 ∧ (v115 = v113 ∧ v115.toInt = v113.toInt) := h116
          have i118 := h116.1
          have k119 : Kp s0 s117 := Kx.tr Kx.rf (h116.2.1)
          have q120 := h116.2.2
          show Iv s117 ∧ Kp s0 s117 ∧ (True)
          exact ⟨i118, k119, (trivial)⟩
      · have c8 : ¬ (¬ v1.toInt = 0) := c8
        refine And.intro (Nat.le_of_ble_eq_true rfl) (And.intro ⟨0, (Int32.ofInt 1), rfl, by decide, i0⟩ ?_)
        intro v121 s123 h122
        have h122 : Iv s123 ∧ Kp s0 s123 ∧ (v121.toInt = -1) := h122
        have i124 := h122.1
        have k125 : Kp s0 s123 := Kx.tr Kx.rf (h122.2.1)
        have q126 := h122.2.2
        show Iv s123 ∧ Kp s0 s123 ∧ (True)
        exact ⟨i124, k125, (trivial)⟩
def o_X10_sum : List vg_I := [(0, .iload_n 1, 1, 0, 0, 0, 0), (1, .tableswitch 111 0 5 #[39, 51, 63, 75, 87, 99], 39, 0, 0, 0, 0), (40, .aload_n 0, 1, 0, 0, 0, 0), (41, .aload_n 0, 1, 0, 0, 0, 0), (42, .getfield 19, 3, 431, 10, 4, 0), (45, .getfield 235, 3, 195, 5, 9, 0), (48, .invokevirtual 239, 3, 0, 10, 1, 800), (51, .lreturn, 1, 0, 0, 0, 0), (52, .aload_n 0, 1, 0, 0, 0, 0), (53, .aload_n 0, 1, 0, 0, 0, 0), (54, .getfield 19, 3, 431, 10, 4, 0), (57, .getfield 243, 3, 197, 5, 10, 0), (60, .invokevirtual 239, 3, 0, 10, 1, 800), (63, .lreturn, 1, 0, 0, 0, 0), (64, .aload_n 0, 1, 0, 0, 0, 0), (65, .aload_n 0, 1, 0, 0, 0, 0), (66, .getfield 19, 3, 431, 10, 4, 0), (69, .getfield 246, 3, 199, 5, 11, 0), (72, .invokevirtual 239, 3, 0, 10, 1, 800), (75, .lreturn, 1, 0, 0, 0, 0), (76, .aload_n 0, 1, 0, 0, 0, 0), (77, .aload_n 0, 1, 0, 0, 0, 0), (78, .getfield 19, 3, 431, 10, 4, 0), (81, .getfield 249, 3, 201, 5, 12, 0), (84, .invokevirtual 239, 3, 0, 10, 1, 800), (87, .lreturn, 1, 0, 0, 0, 0), (88, .aload_n 0, 1, 0, 0, 0, 0), (89, .aload_n 0, 1, 0, 0, 0, 0), (90, .getfield 26, 3, 432, 10, 5, 0), (93, .getfield 252, 3, 256, 2, 8, 0), (96, .invokevirtual 239, 3, 0, 10, 1, 800), (99, .lreturn, 1, 0, 0, 0, 0), (100, .aload_n 0, 1, 0, 0, 0, 0), (101, .aload_n 0, 1, 0, 0, 0, 0), (102, .getfield 26, 3, 432, 10, 5, 0), (105, .getfield 255, 3, 260, 2, 10, 0), (108, .invokevirtual 239, 3, 0, 10, 1, 800), (111, .lreturn, 1, 0, 0, 0, 0), (112, .aload_n 0, 1, 0, 0, 0, 0), (113, .iconst 1, 1, 0, 0, 0, 0), (114, .invokevirtual 90, 3, 1, 10, 1, 484), (117, .i2l, 1, 0, 0, 0, 0), (118, .lreturn, 1, 0, 0, 0, 0)]
set_option maxRecDepth 100000 in
set_option maxHeartbeats 4000000 in
theorem c_X10_sum (l : Launch) (G : vg_G) (hp : vg_Hp G) : vg_Ct l G vg_sh r_X10_sum := by
  refine vg_meth hp vg_sh_ok r_X10_sum k_X10_sum rfl (fun h => by cases h) o_X10_sum [r_X10_answerLong, r_X10_refuse] false (by decide +kernel) (by decide +kernel) ⟨_, _, rfl, rfl⟩ (List.forall_mem_cons.mpr ⟨⟨c_X10_answerLong l G hp, Nat.le_of_ble_eq_true rfl, Nat.le_of_ble_eq_true rfl⟩, List.forall_mem_cons.mpr ⟨⟨c_X10_refuse l G hp, Nat.le_of_ble_eq_true rfl, Nat.le_of_ble_eq_true rfl⟩, fun _ h => absurd h List.not_mem_nil⟩⟩) (fun h => by cases h) 600 ?_
  intro as s0 hpre
  obtain ⟨r, a1, rfl, hr, i0⟩ := hpre
  simp only [List.mem_cons, List.not_mem_nil, or_false] at hr
  rcases hr with rfl
  ·
    have z1 : (Int32.ofInt 1).toInt = 1 := by decide
    refine ⟨Nat.le_of_ble_eq_true rfl, [], ?_, fun _ h => absurd h List.not_mem_nil⟩
    ·
      refine And.intro (fun c1 => ?_) ?_
      · have c1 : a1.toInt < (0) ∨ (5) < a1.toInt := c1
        refine And.intro (Nat.le_of_ble_eq_true rfl) (And.intro ⟨0, (Int32.ofInt 1), rfl, by decide, i0⟩ ?_)
        intro v2 s4 h3
        have h3 : Iv s4 ∧ Kp s0 s4 ∧ (v2.toInt = -1) := h3
        have i5 := h3.1
        have k6 : Kp s0 s4 := Kx.tr Kx.rf (h3.2.1)
        have q7 := h3.2.2
        intro v8 e9
        show Iv s4 ∧ Kp s0 s4 ∧ (True)
        exact ⟨i5, k6, (trivial)⟩
      refine And.intro (fun c10 => ?_) ?_
      · have c10 : a1.toInt = (0) := c10
        intro v11 e12
        refine And.intro (Nat.le_of_ble_eq_true rfl) (And.intro ⟨0, v11, rfl, by decide, i0⟩ ?_)
        intro v13 s15 h14
        have h14 : Iv s15 ∧ Kp s0 s15 ∧ (v13 = v11) := h14
        have i16 := h14.1
        have k17 : Kp s0 s15 := Kx.tr Kx.rf (h14.2.1)
        have q18 := h14.2.2
        show Iv s15 ∧ Kp s0 s15 ∧ (True)
        exact ⟨i16, k17, (trivial)⟩
      refine And.intro (fun c19 => ?_) ?_
      · have c19 : a1.toInt = (1) := c19
        intro v20 e21
        refine And.intro (Nat.le_of_ble_eq_true rfl) (And.intro ⟨0, v20, rfl, by decide, i0⟩ ?_)
        intro v22 s24 h23
        have h23 : Iv s24 ∧ Kp s0 s24 ∧ (v22 = v20) := h23
        have i25 := h23.1
        have k26 : Kp s0 s24 := Kx.tr Kx.rf (h23.2.1)
        have q27 := h23.2.2
        show Iv s24 ∧ Kp s0 s24 ∧ (True)
        exact ⟨i25, k26, (trivial)⟩
      refine And.intro (fun c28 => ?_) ?_
      · have c28 : a1.toInt = (2) := c28
        intro v29 e30
        refine And.intro (Nat.le_of_ble_eq_true rfl) (And.intro ⟨0, v29, rfl, by decide, i0⟩ ?_)
        intro v31 s33 h32
        have h32 : Iv s33 ∧ Kp s0 s33 ∧ (v31 = v29) := h32
        have i34 := h32.1
        have k35 : Kp s0 s33 := Kx.tr Kx.rf (h32.2.1)
        have q36 := h32.2.2
        show Iv s33 ∧ Kp s0 s33 ∧ (True)
        exact ⟨i34, k35, (trivial)⟩
      refine And.intro (fun c37 => ?_) ?_
      · have c37 : a1.toInt = (3) := c37
        intro v38 e39
        refine And.intro (Nat.le_of_ble_eq_true rfl) (And.intro ⟨0, v38, rfl, by decide, i0⟩ ?_)
        intro v40 s42 h41
        have h41 : Iv s42 ∧ Kp s0 s42 ∧ (v40 = v38) := h41
        have i43 := h41.1
        have k44 : Kp s0 s42 := Kx.tr Kx.rf (h41.2.1)
        have q45 := h41.2.2
        show Iv s42 ∧ Kp s0 s42 ∧ (True)
        exact ⟨i43, k44, (trivial)⟩
      refine And.intro (fun c46 => ?_) ?_
      · have c46 : a1.toInt = (4) := c46
        intro v47 e48
        refine And.intro (Nat.le_of_ble_eq_true rfl) (And.intro ⟨0, v47, rfl, by decide, i0⟩ ?_)
        intro v49 s51 h50
        have h50 : Iv s51 ∧ Kp s0 s51 ∧ (v49 = v47) := h50
        have i52 := h50.1
        have k53 : Kp s0 s51 := Kx.tr Kx.rf (h50.2.1)
        have q54 := h50.2.2
        show Iv s51 ∧ Kp s0 s51 ∧ (True)
        exact ⟨i52, k53, (trivial)⟩
      refine And.intro (fun c55 => ?_) ?_
      · have c55 : a1.toInt = (5) := c55
        intro v56 e57
        refine And.intro (Nat.le_of_ble_eq_true rfl) (And.intro ⟨0, v56, rfl, by decide, i0⟩ ?_)
        intro v58 s60 h59
        have h59 : Iv s60 ∧ Kp s0 s60 ∧ (v58 = v56) := h59
        have i61 := h59.1
        have k62 : Kp s0 s60 := Kx.tr Kx.rf (h59.2.1)
        have q63 := h59.2.2
        show Iv s60 ∧ Kp s0 s60 ∧ (True)
        exact ⟨i61, k62, (trivial)⟩
      exact trivial
def o_X10_keptByLoop : List vg_I := [(0, .aload_n 0, 1, 0, 0, 0, 0), (1, .getfield 52, 3, 436, 10, 9, 0), (4, .iconst 0, 1, 0, 0, 0, 0), (5, .aaload, 1, 0, 0, 0, 0), (6, .getfield 210, 3, 415, 4, 2, 0), (9, .aload_n 0, 1, 0, 0, 0, 0), (10, .getfield 52, 3, 436, 10, 9, 0), (13, .iconst 1, 1, 0, 0, 0, 0), (14, .aaload, 1, 0, 0, 0, 0), (15, .getfield 210, 3, 415, 4, 2, 0), (18, .invokestatic 434, 3, 0, 1, 2, 813), (21, .ireturn, 1, 0, 0, 0, 0)]
set_option maxRecDepth 100000 in
set_option maxHeartbeats 4000000 in
theorem c_X10_keptByLoop (l : Launch) (G : vg_G) (hp : vg_Hp G) : vg_Ct l G vg_sh r_X10_keptByLoop := by
  refine vg_meth hp vg_sh_ok r_X10_keptByLoop k_X10_keptByLoop rfl (fun h => by cases h) o_X10_keptByLoop [r_J9_min_7cf53] false (by decide +kernel) (by decide +kernel) ⟨_, _, rfl, rfl⟩ (List.forall_mem_cons.mpr ⟨⟨c_J9_min_7cf53 l G hp, Nat.le_of_ble_eq_true rfl, Nat.le_of_ble_eq_true rfl⟩, fun _ h => absurd h List.not_mem_nil⟩) (fun h => by cases h) 600 ?_
  intro as s0 hpre
  obtain ⟨r, rfl, hr, i0⟩ := hpre
  simp only [List.mem_cons, List.not_mem_nil, or_false] at hr
  rcases hr with rfl
  ·
    have z0 : (Int32.ofInt 0).toInt = 0 := by decide
    have z1 : (Int32.ofInt 1).toInt = 1 := by decide
    refine ⟨Nat.le_of_ble_eq_true rfl, [], ?_, fun _ h => absurd h List.not_mem_nil⟩
    ·
      refine And.intro rfl (And.intro ⟨by omega, by omega⟩ ?_)
      refine And.intro (fun c1 => ?_) ?_
      · have c1 : (Int32.ofInt 0).toInt = (0) := c1
        intro v2 e3
        have g4 : s0.1 41 2 = v2 := by rw [e3]
        have b5 : (0 : Int) ≤ v2.toInt ∧ v2.toInt ≤ 48 := by rw [e3]; exact Iv_41_2 i0
        refine And.intro rfl (And.intro ⟨by omega, by omega⟩ ?_)
        refine And.intro (fun c6 => ?_) ?_
        · have c6 : (Int32.ofInt 1).toInt = (0) := c6
          exfalso
          omega
        refine And.intro (fun c7 => ?_) ?_
        · have c7 : (Int32.ofInt 1).toInt = (1) := c7
          intro v8 e9
          have g10 : s0.1 43 2 = v8 := by rw [e9]
          have b11 : (0 : Int) ≤ v8.toInt ∧ v8.toInt ≤ 48 := by rw [e9]; exact Iv_43_2 i0
          refine And.intro (Nat.le_of_ble_eq_true rfl) (And.intro ⟨v2, v8, rfl, trivial⟩ ?_)
          intro v12 s14 h13
          have h13 : s14 = s0 ∧ (v12.toInt ≤ v2.toInt ∧ v12.toInt ≤ v8.toInt ∧ (v12.toInt = v2.toInt ∨ v12.toInt = v8.toInt)) := h13
          have q17 := h13.1.symm
          subst q17
          have q18 := h13.2
          show s0 = s0 ∧ (0 ≤ v12.toInt ∧ v12.toInt ≤ 48)
          exact ⟨rfl, (by first | trivial | omega | assumption)⟩
        refine And.intro (fun c19 => ?_) ?_
        · have c19 : (Int32.ofInt 1).toInt = (2) := c19
          exfalso
          omega
        refine And.intro (fun c20 => ?_) ?_
        · have c20 : (Int32.ofInt 1).toInt = (3) := c20
          exfalso
          omega
        refine And.intro (fun c21 => ?_) ?_
        · have c21 : (Int32.ofInt 1).toInt = (4) := c21
          exfalso
          omega
        refine And.intro (fun c22 => ?_) ?_
        · have c22 : (Int32.ofInt 1).toInt = (5) := c22
          exfalso
          omega
        refine And.intro (fun c23 => ?_) ?_
        · have c23 : (Int32.ofInt 1).toInt = (6) := c23
          exfalso
          omega
        exact trivial
      refine And.intro (fun c24 => ?_) ?_
      · have c24 : (Int32.ofInt 0).toInt = (1) := c24
        exfalso
        omega
      refine And.intro (fun c25 => ?_) ?_
      · have c25 : (Int32.ofInt 0).toInt = (2) := c25
        exfalso
        omega
      refine And.intro (fun c26 => ?_) ?_
      · have c26 : (Int32.ofInt 0).toInt = (3) := c26
        exfalso
        omega
      refine And.intro (fun c27 => ?_) ?_
      · have c27 : (Int32.ofInt 0).toInt = (4) := c27
        exfalso
        omega
      refine And.intro (fun c28 => ?_) ?_
      · have c28 : (Int32.ofInt 0).toInt = (5) := c28
        exfalso
        omega
      refine And.intro (fun c29 => ?_) ?_
      · have c29 : (Int32.ofInt 0).toInt = (6) := c29
        exfalso
        omega
      exact trivial
