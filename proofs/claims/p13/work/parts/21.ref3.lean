def o_X11_comb : List vg_I := [(0, .iload_n 1, 1, 0, 0, 0, 0), (1, .iconst 1, 1, 0, 0, 0, 0), (2, .iconst 5, 1, 0, 0, 0, 0), (3, .invokestatic 76, 3, 0, 1, 3, 1175), (6, .ifCond .eq 34, 3, 0, 0, 0, 0), (9, .iload_n 2, 1, 0, 0, 0, 0), (10, .iconst 1, 1, 0, 0, 0, 0), (11, .bipush 16, 2, 0, 0, 0, 0), (13, .invokestatic 76, 3, 0, 1, 3, 1175), (16, .ifCond .eq 24, 3, 0, 0, 0, 0), (19, .iload_n 3, 1, 0, 0, 0, 0), (20, .bipush 8, 2, 0, 0, 0, 0), (22, .bipush 32, 2, 0, 0, 0, 0), (24, .invokestatic 76, 3, 0, 1, 3, 1175), (27, .ifCond .eq 13, 3, 0, 0, 0, 0), (30, .iload 4, 2, 0, 0, 0, 0), (32, .iconst 0, 1, 0, 0, 0, 0), (33, .iconst 1, 1, 0, 0, 0, 0), (34, .invokestatic 76, 3, 0, 1, 3, 1175), (37, .ifCond .ne 9, 3, 0, 0, 0, 0), (40, .aload_n 0, 1, 0, 0, 0, 0), (41, .iconst 1, 1, 0, 0, 0, 0), (42, .invokevirtual 242, 3, 1, 11, 1, 1181), (45, .ireturn, 1, 0, 0, 0, 0), (46, .aload_n 0, 1, 0, 0, 0, 0), (47, .iload_n 1, 1, 0, 0, 0, 0), (48, .putfield 33, 3, 1077, 11, 16, 0), (51, .aload_n 0, 1, 0, 0, 0, 0), (52, .iload_n 2, 1, 0, 0, 0, 0), (53, .putfield 36, 3, 1078, 11, 17, 0), (56, .aload_n 0, 1, 0, 0, 0, 0), (57, .iload_n 3, 1, 0, 0, 0, 0), (58, .putfield 39, 3, 1079, 11, 18, 0), (61, .aload_n 0, 1, 0, 0, 0, 0), (62, .iload 4, 2, 0, 0, 0, 0), (64, .putfield 221, 3, 1080, 11, 19, 0), (67, .aload_n 0, 1, 0, 0, 0, 0), (68, .iconst 3, 1, 0, 0, 0, 0), (69, .invokevirtual 245, 3, 2, 11, 1, 1185), (72, .aload_n 0, 1, 0, 0, 0, 0), (73, .aload_n 0, 1, 0, 0, 0, 0), (74, .iload 4, 2, 0, 0, 0, 0), (76, .ifCond .ne 10, 3, 0, 0, 0, 0), (79, .aload_n 0, 1, 0, 0, 0, 0), (80, .invokevirtual 102, 3, 3, 11, 0, 1218), (83, .goto 7, 3, 0, 0, 0, 0), (86, .aload_n 0, 1, 0, 0, 0, 0), (87, .invokevirtual 185, 3, 4, 11, 0, 1238), (90, .invokevirtual 255, 3, 5, 11, 1, 1246), (93, .invokevirtual 249, 3, 6, 11, 1, 1206), (96, .ireturn, 1, 0, 0, 0, 0)]
set_option maxRecDepth 100000 in
set_option maxHeartbeats 4000000 in
theorem c_X11_comb (l : Launch) (G : vg_G) (hp : vg_Hp G) : vg_Ct l G vg_sh r_X11_comb := by
  refine vg_meth hp vg_sh_ok r_X11_comb k_X11_comb rfl (fun h => by cases h) o_X11_comb [r_X11_isFrom, r_X11_refuse, r_X11_begins, r_X11_elements, r_X11_weights, r_X11_needFor, r_X11_gives] false (by decide +kernel) (by decide +kernel) ⟨_, _, rfl, rfl⟩ (List.forall_mem_cons.mpr ⟨⟨c_X11_isFrom l G hp, Nat.le_of_ble_eq_true rfl, Nat.le_of_ble_eq_true rfl⟩, List.forall_mem_cons.mpr ⟨⟨c_X11_refuse l G hp, Nat.le_of_ble_eq_true rfl, Nat.le_of_ble_eq_true rfl⟩, List.forall_mem_cons.mpr ⟨⟨c_X11_begins l G hp, Nat.le_of_ble_eq_true rfl, Nat.le_of_ble_eq_true rfl⟩, List.forall_mem_cons.mpr ⟨⟨c_X11_elements l G hp, Nat.le_of_ble_eq_true rfl, Nat.le_of_ble_eq_true rfl⟩, List.forall_mem_cons.mpr ⟨⟨c_X11_weights l G hp, Nat.le_of_ble_eq_true rfl, Nat.le_of_ble_eq_true rfl⟩, List.forall_mem_cons.mpr ⟨⟨c_X11_needFor l G hp, Nat.le_of_ble_eq_true rfl, Nat.le_of_ble_eq_true rfl⟩, List.forall_mem_cons.mpr ⟨⟨c_X11_gives l G hp, Nat.le_of_ble_eq_true rfl, Nat.le_of_ble_eq_true rfl⟩, fun _ h => absurd h List.not_mem_nil⟩⟩⟩⟩⟩⟩⟩) (fun h => by cases h) 600 ?_
  intro as s0 hpre
  obtain ⟨r, a1, a2, a3, a4, rfl, hr, i0⟩ := hpre
  simp only [List.mem_cons, List.not_mem_nil, or_false] at hr
  rcases hr with rfl
  ·
    have z0 : (Int32.ofInt 0).toInt = 0 := by decide
    have z1 : (Int32.ofInt 1).toInt = 1 := by decide
    have z3 : (Int32.ofInt 3).toInt = 3 := by decide
    have z5 : (Int32.ofInt 5).toInt = 5 := by decide
    have z8 : (Int32.ofInt 8).toInt = 8 := by decide
    have z16 : (Int32.ofInt 16).toInt = 16 := by decide
    have z32 : (Int32.ofInt 32).toInt = 32 := by decide
    refine ⟨Nat.le_of_ble_eq_true rfl, [], ?_, fun _ h => absurd h List.not_mem_nil⟩
    ·
      refine And.intro (Nat.le_of_ble_eq_true rfl) (And.intro ⟨a1, (Int32.ofInt 1), (Int32.ofInt 5), rfl, trivial⟩ ?_)
      intro v1 s3 h2
      have h2 : s3 = s0 ∧ ((v1.toInt = 1 ∧ (Int32.ofInt 1).toInt ≤ a1.toInt ∧ a1.toInt ≤ (Int32.ofInt 5).toInt) ∨ (v1.toInt = 0 ∧ (a1.toInt < (Int32.ofInt 1).toInt ∨ (Int32.ofInt 5).toInt < a1.toInt))) := h2
      have q6 := h2.1.symm
      subst q6
      have q7 := h2.2
      refine And.intro (fun c8 => ?_) (fun c8 => ?_)
      · have c8 : v1.toInt = 0 := c8
        refine And.intro (Nat.le_of_ble_eq_true rfl) (And.intro ⟨55, (Int32.ofInt 1), rfl, by decide, i0⟩ ?_)
        intro v9 s11 h10
        have h10 : Iv s11 ∧ Kp s0 s11 ∧ (v9.toInt = -1) := h10
        have i12 := h10.1
        have k13 : K_X11_comb s0 s11 := Kx.tr Kx.rf ((h10.2.1).px)
        have q14 := h10.2.2
        show Iv s11 ∧ K_X11_comb s0 s11 ∧ (((1 ≤ a1.toInt ∧ a1.toInt ≤ 5 ∧ 1 ≤ a2.toInt ∧ a2.toInt ≤ 16 ∧ 8 ≤ a3.toInt ∧ a3.toInt ≤ 32 ∧ 0 ≤ a4.toInt ∧ a4.toInt ≤ 1) ∧ (s11.1 55 16).toInt = a1.toInt ∧ (s11.1 55 17).toInt = a2.toInt ∧ vg_isneed (vg_mp a2.toInt64 (vg_cx a4 (vg_me s0) (s0.1 59)).toInt64 a1.toNatClampNeg) v9) ∨ (¬ (1 ≤ a1.toInt ∧ a1.toInt ≤ 5 ∧ 1 ≤ a2.toInt ∧ a2.toInt ≤ 16 ∧ 8 ≤ a3.toInt ∧ a3.toInt ≤ 32 ∧ 0 ≤ a4.toInt ∧ a4.toInt ≤ 1) ∧ (s11.1 55 16).toInt = (s0.1 55 16).toInt ∧ (s11.1 55 17).toInt = (s0.1 55 17).toInt ∧ v9.toInt = -1))
        exact ⟨i12, k13, (by first | exact Or.inl ⟨by omega, by rw [none], by rw [none], by rw [q14.1]; exact y1⟩ | exact Or.inr ⟨by omega, congrArg Int32.toInt (h10.2.1.1 55 16 rfl), congrArg Int32.toInt (h10.2.1.1 55 17 rfl), by omega⟩)⟩
      · have c8 : ¬ (v1.toInt = 0) := c8
        refine And.intro (Nat.le_of_ble_eq_true rfl) (And.intro ⟨a2, (Int32.ofInt 1), (Int32.ofInt 16), rfl, trivial⟩ ?_)
        intro v15 s17 h16
        have h16 : s17 = s0 ∧ ((v15.toInt = 1 ∧ (Int32.ofInt 1).toInt ≤ a2.toInt ∧ a2.toInt ≤ (Int32.ofInt 16).toInt) ∨ (v15.toInt = 0 ∧ (a2.toInt < (Int32.ofInt 1).toInt ∨ (Int32.ofInt 16).toInt < a2.toInt))) := h16
        have q20 := h16.1.symm
        subst q20
        have q21 := h16.2
        refine And.intro (fun c22 => ?_) (fun c22 => ?_)
        · have c22 : v15.toInt = 0 := c22
          refine And.intro (Nat.le_of_ble_eq_true rfl) (And.intro ⟨55, (Int32.ofInt 1), rfl, by decide, i0⟩ ?_)
          intro v23 s25 h24
          have h24 : Iv s25 ∧ Kp s0 s25 ∧ (v23.toInt = -1) := h24
          have i26 := h24.1
          have k27 : K_X11_comb s0 s25 := Kx.tr Kx.rf ((h24.2.1).px)
          have q28 := h24.2.2
          show Iv s25 ∧ K_X11_comb s0 s25 ∧ (((1 ≤ a1.toInt ∧ a1.toInt ≤ 5 ∧ 1 ≤ a2.toInt ∧ a2.toInt ≤ 16 ∧ 8 ≤ a3.toInt ∧ a3.toInt ≤ 32 ∧ 0 ≤ a4.toInt ∧ a4.toInt ≤ 1) ∧ (s25.1 55 16).toInt = a1.toInt ∧ (s25.1 55 17).toInt = a2.toInt ∧ vg_isneed (vg_mp a2.toInt64 (vg_cx a4 (vg_me s0) (s0.1 59)).toInt64 a1.toNatClampNeg) v23) ∨ (¬ (1 ≤ a1.toInt ∧ a1.toInt ≤ 5 ∧ 1 ≤ a2.toInt ∧ a2.toInt ≤ 16 ∧ 8 ≤ a3.toInt ∧ a3.toInt ≤ 32 ∧ 0 ≤ a4.toInt ∧ a4.toInt ≤ 1) ∧ (s25.1 55 16).toInt = (s0.1 55 16).toInt ∧ (s25.1 55 17).toInt = (s0.1 55 17).toInt ∧ v23.toInt = -1))
          exact ⟨i26, k27, (by first | exact Or.inl ⟨by omega, by rw [none], by rw [none], by rw [q28.1]; exact y1⟩ | exact Or.inr ⟨by omega, congrArg Int32.toInt (h24.2.1.1 55 16 rfl), congrArg Int32.toInt (h24.2.1.1 55 17 rfl), by omega⟩)⟩
        · have c22 : ¬ (v15.toInt = 0) := c22
          refine And.intro (Nat.le_of_ble_eq_true rfl) (And.intro ⟨a3, (Int32.ofInt 8), (Int32.ofInt 32), rfl, trivial⟩ ?_)
          intro v29 s31 h30
          have h30 : s31 = s0 ∧ ((v29.toInt = 1 ∧ (Int32.ofInt 8).toInt ≤ a3.toInt ∧ a3.toInt ≤ (Int32.ofInt 32).toInt) ∨ (v29.toInt = 0 ∧ (a3.toInt < (Int32.ofInt 8).toInt ∨ (Int32.ofInt 32).toInt < a3.toInt))) := h30
          have q34 := h30.1.symm
          subst q34
          have q35 := h30.2
          refine And.intro (fun c36 => ?_) (fun c36 => ?_)
          · have c36 : v29.toInt = 0 := c36
            refine And.intro (Nat.le_of_ble_eq_true rfl) (And.intro ⟨55, (Int32.ofInt 1), rfl, by decide, i0⟩ ?_)
            intro v37 s39 h38
            have h38 : Iv s39 ∧ Kp s0 s39 ∧ (v37.toInt = -1) := h38
            have i40 := h38.1
            have k41 : K_X11_comb s0 s39 := Kx.tr Kx.rf ((h38.2.1).px)
            have q42 := h38.2.2
            show Iv s39 ∧ K_X11_comb s0 s39 ∧ (((1 ≤ a1.toInt ∧ a1.toInt ≤ 5 ∧ 1 ≤ a2.toInt ∧ a2.toInt ≤ 16 ∧ 8 ≤ a3.toInt ∧ a3.toInt ≤ 32 ∧ 0 ≤ a4.toInt ∧ a4.toInt ≤ 1) ∧ (s39.1 55 16).toInt = a1.toInt ∧ (s39.1 55 17).toInt = a2.toInt ∧ vg_isneed (vg_mp a2.toInt64 (vg_cx a4 (vg_me s0) (s0.1 59)).toInt64 a1.toNatClampNeg) v37) ∨ (¬ (1 ≤ a1.toInt ∧ a1.toInt ≤ 5 ∧ 1 ≤ a2.toInt ∧ a2.toInt ≤ 16 ∧ 8 ≤ a3.toInt ∧ a3.toInt ≤ 32 ∧ 0 ≤ a4.toInt ∧ a4.toInt ≤ 1) ∧ (s39.1 55 16).toInt = (s0.1 55 16).toInt ∧ (s39.1 55 17).toInt = (s0.1 55 17).toInt ∧ v37.toInt = -1))
            exact ⟨i40, k41, (by first | exact Or.inl ⟨by omega, by rw [none], by rw [none], by rw [q42.1]; exact y1⟩ | exact Or.inr ⟨by omega, congrArg Int32.toInt (h38.2.1.1 55 16 rfl), congrArg Int32.toInt (h38.2.1.1 55 17 rfl), by omega⟩)⟩
          · have c36 : ¬ (v29.toInt = 0) := c36
            refine And.intro (Nat.le_of_ble_eq_true rfl) (And.intro ⟨a4, (Int32.ofInt 0), (Int32.ofInt 1), rfl, trivial⟩ ?_)
            intro v43 s45 h44
            have h44 : s45 = s0 ∧ ((v43.toInt = 1 ∧ (Int32.ofInt 0).toInt ≤ a4.toInt ∧ a4.toInt ≤ (Int32.ofInt 1).toInt) ∨ (v43.toInt = 0 ∧ (a4.toInt < (Int32.ofInt 0).toInt ∨ (Int32.ofInt 1).toInt < a4.toInt))) := h44
            have q48 := h44.1.symm
            subst q48
            have q49 := h44.2
            refine And.intro (fun c50 => ?_) (fun c50 => ?_)
            · have c50 : ¬ v43.toInt = 0 := c50
              intro s51 e52
              have i53 : Iv s51 := Iv.c1 (lo := 1) (hi := 5) i0 e52 rfl (by omega) (by omega)
              have k54 : K_X11_comb s0 s51 := Kx.u1 Kx.rf e52 rfl
              have g55 : s51.1 55 16 = a1 := by rw [e52]; exact vg_u1_self
              intro s56 e57
              have i58 : Iv s56 := Iv.c1 (lo := 1) (hi := 16) i53 e57 rfl (by omega) (by omega)
              have k59 : K_X11_comb s0 s56 := Kx.u1 k54 e57 rfl
              have g60 : s56.1 55 16 = a1 := by rw [e57, vg_u1_at (a := 55) (b := 16) (k := 55) (i := 17) (by decide)]; exact g55
              have g61 : s56.1 55 17 = a2 := by rw [e57]; exact vg_u1_self
              intro s62 e63
              have i64 : Iv s62 := Iv.u1 i58 e63 rfl
              have k65 : K_X11_comb s0 s62 := Kx.u1 k59 e63 rfl
              have g66 : s62.1 55 16 = a1 := by rw [e63, vg_u1_at (a := 55) (b := 16) (k := 55) (i := 18) (by decide)]; exact g60
              have g67 : s62.1 55 17 = a2 := by rw [e63, vg_u1_at (a := 55) (b := 17) (k := 55) (i := 18) (by decide)]; exact g61
              intro s68 e69
              have i70 : Iv s68 := Iv.u1 i64 e69 rfl
              have k71 : K_X11_comb s0 s68 := Kx.u1 k65 e69 rfl
              have g72 : s68.1 55 16 = a1 := by rw [e69, vg_u1_at (a := 55) (b := 16) (k := 55) (i := 19) (by decide)]; exact g66
              have g73 : s68.1 55 17 = a2 := by rw [e69, vg_u1_at (a := 55) (b := 17) (k := 55) (i := 19) (by decide)]; exact g67
              refine And.intro (Nat.le_of_ble_eq_true rfl) (And.intro ⟨55, (Int32.ofInt 3), rfl, by decide, i70, by omega⟩ ?_)
              intro s75 h74
              have h74 : Iv s75 ∧ Kp s68 s75 ∧ (True) := h74
              have i76 := h74.1
              have k77 : K_X11_comb s0 s75 := Kx.tr k71 ((h74.2.1).px)
              have g78 : s75.1 55 16 = a1 := by rw [h74.2.1.1 55 16 rfl]; exact g72
              have g79 : s75.1 55 17 = a2 := by rw [h74.2.1.1 55 17 rfl]; exact g73
              refine And.intro (fun c80 => ?_) (fun c80 => ?_)
              · have c80 : ¬ a4.toInt = 0 := c80
                refine And.intro (Nat.le_of_ble_eq_true rfl) (And.intro ⟨55, rfl, by decide, i76⟩ ?_)
                intro v81 s83 h82
                have h82 : s83 = s75 ∧ (v81 = vg_ws (s75.1 59) (vg_me s75).toNatClampNeg) := h82
                have q86 := h82.1.symm
                subst q86
                have q87 := h82.2
                have y0 : v81 = vg_cx a4 (vg_me s0) (s0.1 59) := by first | (rw [vg_cx, if_pos (by omega), q87.1]; exact vg_me_eq (k77.1 55 7 rfl) (k77.1 55 8 rfl) (k77.1 55 10 rfl)) | (rw [vg_cx, if_neg (by omega), q87, vg_me_eq (k77.1 55 7 rfl) (k77.1 55 8 rfl) (k77.1 55 10 rfl)]; exact vg_ws_congr (fun j _ => k77.1 59 j rfl))
                refine And.intro (Nat.le_of_ble_eq_true rfl) (And.intro ⟨55, v81, rfl, by decide, i76⟩ ?_)
                intro v88 s90 h89
                have h89 : s90 = s75 ∧ (vg_isneed (vg_mp (s75.1 55 17).toInt64 v81.toInt64 (s75.1 55 16).toNatClampNeg) v88) := h89
                have q93 := h89.1.symm
                subst q93
                have q94 := h89.2
                have y1 : vg_isneed (vg_mp a2.toInt64 (vg_cx a4 (vg_me s0) (s0.1 59)).toInt64 a1.toNatClampNeg) v88 := vg_cned q94 g78 g79 y0
                refine And.intro (Nat.le_of_ble_eq_true rfl) (And.intro ⟨55, v88, rfl, by decide, i76⟩ ?_)
                intro v95 s97 h96
                have h96 : Iv s97 ∧ Kp s75 s97 ∧ (v95 = v88 ∧ v95.toInt = v88.toInt) := h96
                have i98 := h96.1
                have k99 : K_X11_comb s0 s97 := Kx.tr k77 ((h96.2.1).px)
                have q100 := h96.2.2
                have g101 : s97.1 55 16 = a1 := by rw [h96.2.1.1 55 16 rfl]; exact g78
                have g102 : s97.1 55 17 = a2 := by rw [h96.2.1.1 55 17 rfl]; exact g79
                show Iv s97 ∧ K_X11_comb s0 s97 ∧ (((1 ≤ a1.toInt ∧ a1.toInt ≤ 5 ∧ 1 ≤ a2.toInt ∧ a2.toInt ≤ 16 ∧ 8 ≤ a3.toInt ∧ a3.toInt ≤ 32 ∧ 0 ≤ a4.toInt ∧ a4.toInt ≤ 1) ∧ (s97.1 55 16).toInt = a1.toInt ∧ (s97.1 55 17).toInt = a2.toInt ∧ vg_isneed (vg_mp a2.toInt64 (vg_cx a4 (vg_me s0) (s0.1 59)).toInt64 a1.toNatClampNeg) v95) ∨ (¬ (1 ≤ a1.toInt ∧ a1.toInt ≤ 5 ∧ 1 ≤ a2.toInt ∧ a2.toInt ≤ 16 ∧ 8 ≤ a3.toInt ∧ a3.toInt ≤ 32 ∧ 0 ≤ a4.toInt ∧ a4.toInt ≤ 1) ∧ (s97.1 55 16).toInt = (s0.1 55 16).toInt ∧ (s97.1 55 17).toInt = (s0.1 55 17).toInt ∧ v95.toInt = -1))
                exact ⟨i98, k99, (by first | exact Or.inl ⟨by omega, by rw [g101], by rw [g102], by rw [q100.1]; exact y1⟩ | exact Or.inr ⟨by omega, congrArg Int32.toInt (h96.2.1.1 55 16 rfl), congrArg Int32.toInt (h96.2.1.1 55 17 rfl), by omega⟩)⟩
              · have c80 : ¬ (¬ a4.toInt = 0) := c80
                refine And.intro (Nat.le_of_ble_eq_true rfl) (And.intro ⟨55, rfl, by decide, i76⟩ ?_)
                intro v103 s105 h104
                have h104 : s105 = s75 ∧ (v103 = vg_me s75 ∧ 1 ≤ v103.toInt ∧ v103.toInt ≤ 16) := h104
                have q108 := h104.1.symm
                subst q108
                have q109 := h104.2
                have y0 : v103 = vg_cx a4 (vg_me s0) (s0.1 59) := by first | (rw [vg_cx, if_pos (by omega), q109.1]; exact vg_me_eq (k77.1 55 7 rfl) (k77.1 55 8 rfl) (k77.1 55 10 rfl)) | (rw [vg_cx, if_neg (by omega), q109, vg_me_eq (k77.1 55 7 rfl) (k77.1 55 8 rfl) (k77.1 55 10 rfl)]; exact vg_ws_congr (fun j _ => k77.1 59 j rfl))
                refine And.intro (Nat.le_of_ble_eq_true rfl) (And.intro ⟨55, v103, rfl, by decide, i76⟩ ?_)
                intro v110 s112 h111
                have h111 : s112 = s75 ∧ (vg_isneed (vg_mp (s75.1 55 17).toInt64 v103.toInt64 (s75.1 55 16).toNatClampNeg) v110) := h111
                have q115 := h111.1.symm
                subst q115
                have q116 := h111.2
                have y1 : vg_isneed (vg_mp a2.toInt64 (vg_cx a4 (vg_me s0) (s0.1 59)).toInt64 a1.toNatClampNeg) v110 := vg_cned q116 g78 g79 y0
                refine And.intro (Nat.le_of_ble_eq_true rfl) (And.intro ⟨55, v110, rfl, by decide, i76⟩ ?_)
                intro v117 s119 h118
                have h118 : Iv s119 ∧ Kp s75 s119 ∧ (v117 = v110 ∧ v117.toInt = v110.toInt) := h118
                have i120 := h118.1
                have k121 : K_X11_comb s0 s119 := Kx.tr k77 ((h118.2.1).px)
                have q122 := h118.2.2
                have g123 : s119.1 55 16 = a1 := by rw [h118.2.1.1 55 16 rfl]; exact g78
                have g124 : s119.1 55 17 = a2 := by rw [h118.2.1.1 55 17 rfl]; exact g79
                show Iv s119 ∧ K_X11_comb s0 s119 ∧ (((1 ≤ a1.toInt ∧ a1.toInt ≤ 5 ∧ 1 ≤ a2.toInt ∧ a2.toInt ≤ 16 ∧ 8 ≤ a3.toInt ∧ a3.toInt ≤ 32 ∧ 0 ≤ a4.toInt ∧ a4.toInt ≤ 1) ∧ (s119.1 55 16).toInt = a1.toInt ∧ (s119.1 55 17).toInt = a2.toInt ∧ vg_isneed (vg_mp a2.toInt64 (vg_cx a4 (vg_me s0) (s0.1 59)).toInt64 a1.toNatClampNeg) v117) ∨ (¬ (1 ≤ a1.toInt ∧ a1.toInt ≤ 5 ∧ 1 ≤ a2.toInt ∧ a2.toInt ≤ 16 ∧ 8 ≤ a3.toInt ∧ a3.toInt ≤ 32 ∧ 0 ≤ a4.toInt ∧ a4.toInt ≤ 1) ∧ (s119.1 55 16).toInt = (s0.1 55 16).toInt ∧ (s119.1 55 17).toInt = (s0.1 55 17).toInt ∧ v117.toInt = -1))
                exact ⟨i120, k121, (by first | exact Or.inl ⟨by omega, by rw [g123], by rw [g124], by rw [q122.1]; exact y1⟩ | exact Or.inr ⟨by omega, congrArg Int32.toInt (h118.2.1.1 55 16 rfl), congrArg Int32.toInt (h118.2.1.1 55 17 rfl), by omega⟩)⟩
            · have c50 : ¬ (¬ v43.toInt = 0) := c50
              refine And.intro (Nat.le_of_ble_eq_true rfl) (And.intro ⟨55, (Int32.ofInt 1), rfl, by decide, i0⟩ ?_)
              intro v125 s127 h126
              have h126 : Iv s127 ∧ Kp s0 s127 ∧ (v125.toInt = -1) := h126
              have i128 := h126.1
              have k129 : K_X11_comb s0 s127 := Kx.tr Kx.rf ((h126.2.1).px)
              have q130 := h126.2.2
              show Iv s127 ∧ K_X11_comb s0 s127 ∧ (((1 ≤ a1.toInt ∧ a1.toInt ≤ 5 ∧ 1 ≤ a2.toInt ∧ a2.toInt ≤ 16 ∧ 8 ≤ a3.toInt ∧ a3.toInt ≤ 32 ∧ 0 ≤ a4.toInt ∧ a4.toInt ≤ 1) ∧ (s127.1 55 16).toInt = a1.toInt ∧ (s127.1 55 17).toInt = a2.toInt ∧ vg_isneed (vg_mp a2.toInt64 (vg_cx a4 (vg_me s0) (s0.1 59)).toInt64 a1.toNatClampNeg) v125) ∨ (¬ (1 ≤ a1.toInt ∧ a1.toInt ≤ 5 ∧ 1 ≤ a2.toInt ∧ a2.toInt ≤ 16 ∧ 8 ≤ a3.toInt ∧ a3.toInt ≤ 32 ∧ 0 ≤ a4.toInt ∧ a4.toInt ≤ 1) ∧ (s127.1 55 16).toInt = (s0.1 55 16).toInt ∧ (s127.1 55 17).toInt = (s0.1 55 17).toInt ∧ v125.toInt = -1))
              exact ⟨i128, k129, (by first | exact Or.inl ⟨by omega, by rw [none], by rw [none], by rw [q130.1]; exact y1⟩ | exact Or.inr ⟨by omega, congrArg Int32.toInt (h126.2.1.1 55 16 rfl), congrArg Int32.toInt (h126.2.1.1 55 17 rfl), by omega⟩)⟩
def o_X11_taps : List vg_I := [(0, .iload_n 1, 1, 0, 0, 0, 0), (1, .invokestatic 258, 3, 0, 1, 1, 1254), (4, .ifCond .eq 36, 3, 0, 0, 0, 0), (7, .iload_n 2, 1, 0, 0, 0, 0), (8, .invokestatic 258, 3, 0, 1, 1, 1254), (11, .ifCond .eq 29, 3, 0, 0, 0, 0), (14, .iload_n 3, 1, 0, 0, 0, 0), (15, .invokestatic 258, 3, 0, 1, 1, 1254), (18, .ifCond .eq 22, 3, 0, 0, 0, 0), (21, .iload 4, 2, 0, 0, 0, 0), (23, .invokestatic 258, 3, 0, 1, 1, 1254), (26, .ifCond .eq 14, 3, 0, 0, 0, 0), (29, .iload 5, 2, 0, 0, 0, 0), (31, .iconst 0, 1, 0, 0, 0, 0), (32, .bipush 12, 2, 0, 0, 0, 0), (34, .invokestatic 76, 3, 1, 1, 3, 1175), (37, .ifCond .ne 9, 3, 0, 0, 0, 0), (40, .aload_n 0, 1, 0, 0, 0, 0), (41, .iconst 1, 1, 0, 0, 0, 0), (42, .invokevirtual 242, 3, 2, 11, 1, 1181), (45, .ireturn, 1, 0, 0, 0, 0), (46, .aload_n 0, 1, 0, 0, 0, 0), (47, .getfield 52, 3, 1086, 11, 25, 0), (50, .iconst 0, 1, 0, 0, 0, 0), (51, .iload_n 1, 1, 0, 0, 0, 0), (52, .iastore, 1, 0, 0, 0, 0), (53, .aload_n 0, 1, 0, 0, 0, 0), (54, .getfield 52, 3, 1086, 11, 25, 0), (57, .iconst 1, 1, 0, 0, 0, 0), (58, .iload_n 2, 1, 0, 0, 0, 0), (59, .iastore, 1, 0, 0, 0, 0), (60, .aload_n 0, 1, 0, 0, 0, 0), (61, .getfield 52, 3, 1086, 11, 25, 0), (64, .iconst 2, 1, 0, 0, 0, 0), (65, .iload_n 3, 1, 0, 0, 0, 0), (66, .iastore, 1, 0, 0, 0, 0), (67, .aload_n 0, 1, 0, 0, 0, 0), (68, .getfield 52, 3, 1086, 11, 25, 0), (71, .iconst 3, 1, 0, 0, 0, 0), (72, .iload 4, 2, 0, 0, 0, 0), (74, .iastore, 1, 0, 0, 0, 0), (75, .aload_n 0, 1, 0, 0, 0, 0), (76, .iload 5, 2, 0, 0, 0, 0), (78, .putfield 198, 3, 1082, 11, 21, 0), (81, .aload_n 0, 1, 0, 0, 0, 0), (82, .iconst 4, 1, 0, 0, 0, 0), (83, .invokevirtual 245, 3, 3, 11, 1, 1185), (86, .aload_n 0, 1, 0, 0, 0, 0), (87, .iconst 2, 1, 0, 0, 0, 0), (88, .iload_n 1, 1, 0, 0, 0, 0), (89, .iload_n 2, 1, 0, 0, 0, 0), (90, .iadd, 1, 0, 0, 0, 0), (91, .iload_n 3, 1, 0, 0, 0, 0), (92, .iadd, 1, 0, 0, 0, 0), (93, .imul, 1, 0, 0, 0, 0), (94, .iload 4, 2, 0, 0, 0, 0), (96, .iadd, 1, 0, 0, 0, 0), (97, .invokevirtual 249, 3, 4, 11, 1, 1206), (100, .ireturn, 1, 0, 0, 0, 0)]
set_option maxRecDepth 100000 in
set_option maxHeartbeats 4000000 in
theorem c_X11_taps (l : Launch) (G : vg_G) (hp : vg_Hp G) : vg_Ct l G vg_sh r_X11_taps := by
  refine vg_meth hp vg_sh_ok r_X11_taps k_X11_taps rfl (fun h => by cases h) o_X11_taps [r_X11_isTap, r_X11_isFrom, r_X11_refuse, r_X11_begins, r_X11_gives] false (by decide +kernel) (by decide +kernel) ⟨_, _, rfl, rfl⟩ (List.forall_mem_cons.mpr ⟨⟨c_X11_isTap l G hp, Nat.le_of_ble_eq_true rfl, Nat.le_of_ble_eq_true rfl⟩, List.forall_mem_cons.mpr ⟨⟨c_X11_isFrom l G hp, Nat.le_of_ble_eq_true rfl, Nat.le_of_ble_eq_true rfl⟩, List.forall_mem_cons.mpr ⟨⟨c_X11_refuse l G hp, Nat.le_of_ble_eq_true rfl, Nat.le_of_ble_eq_true rfl⟩, List.forall_mem_cons.mpr ⟨⟨c_X11_begins l G hp, Nat.le_of_ble_eq_true rfl, Nat.le_of_ble_eq_true rfl⟩, List.forall_mem_cons.mpr ⟨⟨c_X11_gives l G hp, Nat.le_of_ble_eq_true rfl, Nat.le_of_ble_eq_true rfl⟩, fun _ h => absurd h List.not_mem_nil⟩⟩⟩⟩⟩) (fun h => by cases h) 600 ?_
  intro as s0 hpre
  obtain ⟨r, a1, a2, a3, a4, a5, rfl, hr, i0⟩ := hpre
  simp only [List.mem_cons, List.not_mem_nil, or_false] at hr
  rcases hr with rfl
  ·
    have z0 : (Int32.ofInt 0).toInt = 0 := by decide
    have z1 : (Int32.ofInt 1).toInt = 1 := by decide
    have z2 : (Int32.ofInt 2).toInt = 2 := by decide
    have z3 : (Int32.ofInt 3).toInt = 3 := by decide
    have z4 : (Int32.ofInt 4).toInt = 4 := by decide
    have z12 : (Int32.ofInt 12).toInt = 12 := by decide
    refine ⟨Nat.le_of_ble_eq_true rfl, [], ?_, fun _ h => absurd h List.not_mem_nil⟩
    ·
      refine And.intro (Nat.le_of_ble_eq_true rfl) (And.intro ⟨a1, rfl, trivial⟩ ?_)
      intro v1 s3 h2
      have h2 : s3 = s0 ∧ ((v1.toInt = 1 ∧ -999 ≤ a1.toInt ∧ a1.toInt ≤ 999) ∨ (v1.toInt = 0 ∧ (a1.toInt < -999 ∨ 999 < a1.toInt))) := h2
      have q6 := h2.1.symm
      subst q6
      have q7 := h2.2
      refine And.intro (fun c8 => ?_) (fun c8 => ?_)
      · have c8 : v1.toInt = 0 := c8
        refine And.intro (Nat.le_of_ble_eq_true rfl) (And.intro ⟨55, (Int32.ofInt 1), rfl, by decide, i0⟩ ?_)
        intro v9 s11 h10
        have h10 : Iv s11 ∧ Kp s0 s11 ∧ (v9.toInt = -1) := h10
        have i12 := h10.1
        have k13 : K_X11_taps s0 s11 := Kx.tr Kx.rf ((h10.2.1).px)
        have q14 := h10.2.2
        show Iv s11 ∧ K_X11_taps s0 s11 ∧ (((-999 ≤ a1.toInt ∧ a1.toInt ≤ 999 ∧ -999 ≤ a2.toInt ∧ a2.toInt ≤ 999 ∧ -999 ≤ a3.toInt ∧ a3.toInt ≤ 999 ∧ -999 ≤ a4.toInt ∧ a4.toInt ≤ 999 ∧ 0 ≤ a5.toInt ∧ a5.toInt ≤ 12) ∧ v9.toInt = 2 * (a1.toInt + a2.toInt + a3.toInt) + a4.toInt ∧ s11.1 55 21 = a5 ∧ s11.1 61 0 = a1 ∧ s11.1 61 1 = a2 ∧ s11.1 61 2 = a3 ∧ s11.1 61 3 = a4) ∨ (¬ (-999 ≤ a1.toInt ∧ a1.toInt ≤ 999 ∧ -999 ≤ a2.toInt ∧ a2.toInt ≤ 999 ∧ -999 ≤ a3.toInt ∧ a3.toInt ≤ 999 ∧ -999 ≤ a4.toInt ∧ a4.toInt ≤ 999 ∧ 0 ≤ a5.toInt ∧ a5.toInt ≤ 12) ∧ v9.toInt = -1 ∧ s11.1 55 21 = s0.1 55 21 ∧ ∀ j : Nat, s11.1 61 j = s0.1 61 j))
        exact ⟨i12, k13, (by first | exact Or.inl ⟨by omega, by omega, None⟩ | exact Or.inr ⟨by omega, by omega, h10.2.1.1 55 21 rfl, fun j => h10.2.1.1 61 j rfl⟩)⟩
      · have c8 : ¬ (v1.toInt = 0) := c8
        refine And.intro (Nat.le_of_ble_eq_true rfl) (And.intro ⟨a2, rfl, trivial⟩ ?_)
        intro v15 s17 h16
        have h16 : s17 = s0 ∧ ((v15.toInt = 1 ∧ -999 ≤ a2.toInt ∧ a2.toInt ≤ 999) ∨ (v15.toInt = 0 ∧ (a2.toInt < -999 ∨ 999 < a2.toInt))) := h16
        have q20 := h16.1.symm
        subst q20
        have q21 := h16.2
        refine And.intro (fun c22 => ?_) (fun c22 => ?_)
        · have c22 : v15.toInt = 0 := c22
          refine And.intro (Nat.le_of_ble_eq_true rfl) (And.intro ⟨55, (Int32.ofInt 1), rfl, by decide, i0⟩ ?_)
          intro v23 s25 h24
          have h24 : Iv s25 ∧ Kp s0 s25 ∧ (v23.toInt = -1) := h24
          have i26 := h24.1
          have k27 : K_X11_taps s0 s25 := Kx.tr Kx.rf ((h24.2.1).px)
          have q28 := h24.2.2
          show Iv s25 ∧ K_X11_taps s0 s25 ∧ (((-999 ≤ a1.toInt ∧ a1.toInt ≤ 999 ∧ -999 ≤ a2.toInt ∧ a2.toInt ≤ 999 ∧ -999 ≤ a3.toInt ∧ a3.toInt ≤ 999 ∧ -999 ≤ a4.toInt ∧ a4.toInt ≤ 999 ∧ 0 ≤ a5.toInt ∧ a5.toInt ≤ 12) ∧ v23.toInt = 2 * (a1.toInt + a2.toInt + a3.toInt) + a4.toInt ∧ s25.1 55 21 = a5 ∧ s25.1 61 0 = a1 ∧ s25.1 61 1 = a2 ∧ s25.1 61 2 = a3 ∧ s25.1 61 3 = a4) ∨ (¬ (-999 ≤ a1.toInt ∧ a1.toInt ≤ 999 ∧ -999 ≤ a2.toInt ∧ a2.toInt ≤ 999 ∧ -999 ≤ a3.toInt ∧ a3.toInt ≤ 999 ∧ -999 ≤ a4.toInt ∧ a4.toInt ≤ 999 ∧ 0 ≤ a5.toInt ∧ a5.toInt ≤ 12) ∧ v23.toInt = -1 ∧ s25.1 55 21 = s0.1 55 21 ∧ ∀ j : Nat, s25.1 61 j = s0.1 61 j))
          exact ⟨i26, k27, (by first | exact Or.inl ⟨by omega, by omega, None⟩ | exact Or.inr ⟨by omega, by omega, h24.2.1.1 55 21 rfl, fun j => h24.2.1.1 61 j rfl⟩)⟩
        · have c22 : ¬ (v15.toInt = 0) := c22
          refine And.intro (Nat.le_of_ble_eq_true rfl) (And.intro ⟨a3, rfl, trivial⟩ ?_)
          intro v29 s31 h30
          have h30 : s31 = s0 ∧ ((v29.toInt = 1 ∧ -999 ≤ a3.toInt ∧ a3.toInt ≤ 999) ∨ (v29.toInt = 0 ∧ (a3.toInt < -999 ∨ 999 < a3.toInt))) := h30
          have q34 := h30.1.symm
          subst q34
          have q35 := h30.2
          refine And.intro (fun c36 => ?_) (fun c36 => ?_)
          · have c36 : v29.toInt = 0 := c36
            refine And.intro (Nat.le_of_ble_eq_true rfl) (And.intro ⟨55, (Int32.ofInt 1), rfl, by decide, i0⟩ ?_)
            intro v37 s39 h38
            have h38 : Iv s39 ∧ Kp s0 s39 ∧ (v37.toInt = -1) := h38
            have i40 := h38.1
            have k41 : K_X11_taps s0 s39 := Kx.tr Kx.rf ((h38.2.1).px)
            have q42 := h38.2.2
            show Iv s39 ∧ K_X11_taps s0 s39 ∧ (((-999 ≤ a1.toInt ∧ a1.toInt ≤ 999 ∧ -999 ≤ a2.toInt ∧ a2.toInt ≤ 999 ∧ -999 ≤ a3.toInt ∧ a3.toInt ≤ 999 ∧ -999 ≤ a4.toInt ∧ a4.toInt ≤ 999 ∧ 0 ≤ a5.toInt ∧ a5.toInt ≤ 12) ∧ v37.toInt = 2 * (a1.toInt + a2.toInt + a3.toInt) + a4.toInt ∧ s39.1 55 21 = a5 ∧ s39.1 61 0 = a1 ∧ s39.1 61 1 = a2 ∧ s39.1 61 2 = a3 ∧ s39.1 61 3 = a4) ∨ (¬ (-999 ≤ a1.toInt ∧ a1.toInt ≤ 999 ∧ -999 ≤ a2.toInt ∧ a2.toInt ≤ 999 ∧ -999 ≤ a3.toInt ∧ a3.toInt ≤ 999 ∧ -999 ≤ a4.toInt ∧ a4.toInt ≤ 999 ∧ 0 ≤ a5.toInt ∧ a5.toInt ≤ 12) ∧ v37.toInt = -1 ∧ s39.1 55 21 = s0.1 55 21 ∧ ∀ j : Nat, s39.1 61 j = s0.1 61 j))
            exact ⟨i40, k41, (by first | exact Or.inl ⟨by omega, by omega, None⟩ | exact Or.inr ⟨by omega, by omega, h38.2.1.1 55 21 rfl, fun j => h38.2.1.1 61 j rfl⟩)⟩
          · have c36 : ¬ (v29.toInt = 0) := c36
            refine And.intro (Nat.le_of_ble_eq_true rfl) (And.intro ⟨a4, rfl, trivial⟩ ?_)
            intro v43 s45 h44
            have h44 : s45 = s0 ∧ ((v43.toInt = 1 ∧ -999 ≤ a4.toInt ∧ a4.toInt ≤ 999) ∨ (v43.toInt = 0 ∧ (a4.toInt < -999 ∨ 999 < a4.toInt))) := h44
            have q48 := h44.1.symm
            subst q48
            have q49 := h44.2
            refine And.intro (fun c50 => ?_) (fun c50 => ?_)
            · have c50 : v43.toInt = 0 := c50
              refine And.intro (Nat.le_of_ble_eq_true rfl) (And.intro ⟨55, (Int32.ofInt 1), rfl, by decide, i0⟩ ?_)
              intro v51 s53 h52
              have h52 : Iv s53 ∧ Kp s0 s53 ∧ (v51.toInt = -1) := h52
              have i54 := h52.1
              have k55 : K_X11_taps s0 s53 := Kx.tr Kx.rf ((h52.2.1).px)
              have q56 := h52.2.2
              show Iv s53 ∧ K_X11_taps s0 s53 ∧ (((-999 ≤ a1.toInt ∧ a1.toInt ≤ 999 ∧ -999 ≤ a2.toInt ∧ a2.toInt ≤ 999 ∧ -999 ≤ a3.toInt ∧ a3.toInt ≤ 999 ∧ -999 ≤ a4.toInt ∧ a4.toInt ≤ 999 ∧ 0 ≤ a5.toInt ∧ a5.toInt ≤ 12) ∧ v51.toInt = 2 * (a1.toInt + a2.toInt + a3.toInt) + a4.toInt ∧ s53.1 55 21 = a5 ∧ s53.1 61 0 = a1 ∧ s53.1 61 1 = a2 ∧ s53.1 61 2 = a3 ∧ s53.1 61 3 = a4) ∨ (¬ (-999 ≤ a1.toInt ∧ a1.toInt ≤ 999 ∧ -999 ≤ a2.toInt ∧ a2.toInt ≤ 999 ∧ -999 ≤ a3.toInt ∧ a3.toInt ≤ 999 ∧ -999 ≤ a4.toInt ∧ a4.toInt ≤ 999 ∧ 0 ≤ a5.toInt ∧ a5.toInt ≤ 12) ∧ v51.toInt = -1 ∧ s53.1 55 21 = s0.1 55 21 ∧ ∀ j : Nat, s53.1 61 j = s0.1 61 j))
              exact ⟨i54, k55, (by first | exact Or.inl ⟨by omega, by omega, None⟩ | exact Or.inr ⟨by omega, by omega, h52.2.1.1 55 21 rfl, fun j => h52.2.1.1 61 j rfl⟩)⟩
            · have c50 : ¬ (v43.toInt = 0) := c50
              refine And.intro (Nat.le_of_ble_eq_true rfl) (And.intro ⟨a5, (Int32.ofInt 0), (Int32.ofInt 12), rfl, trivial⟩ ?_)
              intro v57 s59 h58
              have h58 : s59 = s0 ∧ ((v57.toInt = 1 ∧ (Int32.ofInt 0).toInt ≤ a5.toInt ∧ a5.toInt ≤ (Int32.ofInt 12).toInt) ∨ (v57.toInt = 0 ∧ (a5.toInt < (Int32.ofInt 0).toInt ∨ (Int32.ofInt 12).toInt < a5.toInt))) := h58
              have q62 := h58.1.symm
              subst q62
              have q63 := h58.2
              refine And.intro (fun c64 => ?_) (fun c64 => ?_)
              · have c64 : ¬ v57.toInt = 0 := c64
                refine And.intro ⟨by omega, by omega⟩ ?_
                intro s65 e66
                have i67 : Iv s65 := Iv.a1 i0 e66 rfl
                have k68 : K_X11_taps s0 s65 := Kx.u1 Kx.rf e66 rfl
                refine And.intro ⟨by omega, by omega⟩ ?_
                intro s69 e70
                have i71 : Iv s69 := Iv.a1 i67 e70 rfl
                have k72 : K_X11_taps s0 s69 := Kx.u1 k68 e70 rfl
                refine And.intro ⟨by omega, by omega⟩ ?_
                intro s73 e74
                have i75 : Iv s73 := Iv.a1 i71 e74 rfl
                have k76 : K_X11_taps s0 s73 := Kx.u1 k72 e74 rfl
                refine And.intro ⟨by omega, by omega⟩ ?_
                intro s77 e78
                have i79 : Iv s77 := Iv.a1 i75 e78 rfl
                have k80 : K_X11_taps s0 s77 := Kx.u1 k76 e78 rfl
                intro s81 e82
                have i83 : Iv s81 := Iv.u1 i79 e82 rfl
                have k84 : K_X11_taps s0 s81 := Kx.u1 k80 e82 rfl
                have y85 : s81.1 55 21 = a5 ∧ s81.1 61 0 = a1 ∧ s81.1 61 1 = a2 ∧ s81.1 61 2 = a3 ∧ s81.1 61 3 = a4 := vg_own4 e66 e70 e74 e78 e82
                refine And.intro (Nat.le_of_ble_eq_true rfl) (And.intro ⟨55, (Int32.ofInt 4), rfl, by decide, i83, by omega⟩ ?_)
                intro s87 h86
                have h86 : Iv s87 ∧ Kp s81 s87 ∧ (True) := h86
                have i88 := h86.1
                have k89 : K_X11_taps s0 s87 := Kx.tr k84 ((h86.2.1).px)
                have y90 : s87.1 55 21 = a5 ∧ s87.1 61 0 = a1 ∧ s87.1 61 1 = a2 ∧ s87.1 61 2 = a3 ∧ s87.1 61 3 = a4 := by rw [h86.2.1.1 55 21 rfl, h86.2.1.1 61 0 rfl, h86.2.1.1 61 1 rfl, h86.2.1.1 61 2 rfl, h86.2.1.1 61 3 rfl]; exact y85
                intro v91 e92
                have b93 := vg_add e92 (by omega) (by omega)
                intro v94 e95
                have b96 := vg_add e95 (by omega) (by omega)
                intro v97 e98
                have b99 : v97.toInt = (2) * v94.toInt := vg_mulL e98 (by omega) (by omega) (by omega)
                intro v100 e101
                have b102 := vg_add e101 (by omega) (by omega)
                refine And.intro (Nat.le_of_ble_eq_true rfl) (And.intro ⟨55, v100, rfl, by decide, i88⟩ ?_)
                intro v103 s105 h104
                have h104 : Iv s105 ∧ Kp s87 s105 ∧ (v103 = v100 ∧ v103.toInt = v100.toInt) := h104
                have i106 := h104.1
                have k107 : K_X11_taps s0 s105 := Kx.tr k89 ((h104.2.1).px)
                have q108 := h104.2.2
                have y109 : s105.1 55 21 = a5 ∧ s105.1 61 0 = a1 ∧ s105.1 61 1 = a2 ∧ s105.1 61 2 = a3 ∧ s105.1 61 3 = a4 := by rw [h104.2.1.1 55 21 rfl, h104.2.1.1 61 0 rfl, h104.2.1.1 61 1 rfl, h104.2.1.1 61 2 rfl, h104.2.1.1 61 3 rfl]; exact y90
                show Iv s105 ∧ K_X11_taps s0 s105 ∧ (((-999 ≤ a1.toInt ∧ a1.toInt ≤ 999 ∧ -999 ≤ a2.toInt ∧ a2.toInt ≤ 999 ∧ -999 ≤ a3.toInt ∧ a3.toInt ≤ 999 ∧ -999 ≤ a4.toInt ∧ a4.toInt ≤ 999 ∧ 0 ≤ a5.toInt ∧ a5.toInt ≤ 12) ∧ v103.toInt = 2 * (a1.toInt + a2.toInt + a3.toInt) + a4.toInt ∧ s105.1 55 21 = a5 ∧ s105.1 61 0 = a1 ∧ s105.1 61 1 = a2 ∧ s105.1 61 2 = a3 ∧ s105.1 61 3 = a4) ∨ (¬ (-999 ≤ a1.toInt ∧ a1.toInt ≤ 999 ∧ -999 ≤ a2.toInt ∧ a2.toInt ≤ 999 ∧ -999 ≤ a3.toInt ∧ a3.toInt ≤ 999 ∧ -999 ≤ a4.toInt ∧ a4.toInt ≤ 999 ∧ 0 ≤ a5.toInt ∧ a5.toInt ≤ 12) ∧ v103.toInt = -1 ∧ s105.1 55 21 = s0.1 55 21 ∧ ∀ j : Nat, s105.1 61 j = s0.1 61 j))
                exact ⟨i106, k107, (by first | exact Or.inl ⟨by omega, by omega, y109⟩ | exact Or.inr ⟨by omega, by omega, h104.2.1.1 55 21 rfl, fun j => h104.2.1.1 61 j rfl⟩)⟩
              · have c64 : ¬ (¬ v57.toInt = 0) := c64
                refine And.intro (Nat.le_of_ble_eq_true rfl) (And.intro ⟨55, (Int32.ofInt 1), rfl, by decide, i0⟩ ?_)
                intro v110 s112 h111
                have h111 : Iv s112 ∧ Kp s0 s112 ∧ (v110.toInt = -1) := h111
                have i113 := h111.1
                have k114 : K_X11_taps s0 s112 := Kx.tr Kx.rf ((h111.2.1).px)
                have q115 := h111.2.2
                show Iv s112 ∧ K_X11_taps s0 s112 ∧ (((-999 ≤ a1.toInt ∧ a1.toInt ≤ 999 ∧ -999 ≤ a2.toInt ∧ a2.toInt ≤ 999 ∧ -999 ≤ a3.toInt ∧ a3.toInt ≤ 999 ∧ -999 ≤ a4.toInt ∧ a4.toInt ≤ 999 ∧ 0 ≤ a5.toInt ∧ a5.toInt ≤ 12) ∧ v110.toInt = 2 * (a1.toInt + a2.toInt + a3.toInt) + a4.toInt ∧ s112.1 55 21 = a5 ∧ s112.1 61 0 = a1 ∧ s112.1 61 1 = a2 ∧ s112.1 61 2 = a3 ∧ s112.1 61 3 = a4) ∨ (¬ (-999 ≤ a1.toInt ∧ a1.toInt ≤ 999 ∧ -999 ≤ a2.toInt ∧ a2.toInt ≤ 999 ∧ -999 ≤ a3.toInt ∧ a3.toInt ≤ 999 ∧ -999 ≤ a4.toInt ∧ a4.toInt ≤ 999 ∧ 0 ≤ a5.toInt ∧ a5.toInt ≤ 12) ∧ v110.toInt = -1 ∧ s112.1 55 21 = s0.1 55 21 ∧ ∀ j : Nat, s112.1 61 j = s0.1 61 j))
                exact ⟨i113, k114, (by first | exact Or.inl ⟨by omega, by omega, None⟩ | exact Or.inr ⟨by omega, by omega, h111.2.1.1 55 21 rfl, fun j => h111.2.1.1 61 j rfl⟩)⟩
def o_X11_folds_ : List vg_I := [(0, .iload_n 1, 1, 0, 0, 0, 0), (1, .iconst 0, 1, 0, 0, 0, 0), (2, .iconst 3, 1, 0, 0, 0, 0), (3, .invokestatic 76, 3, 0, 1, 3, 1175), (6, .ifCond .eq 31, 3, 0, 0, 0, 0), (9, .iload_n 2, 1, 0, 0, 0, 0), (10, .iconst 0, 1, 0, 0, 0, 0), (11, .iconst 3, 1, 0, 0, 0, 0), (12, .invokestatic 76, 3, 0, 1, 3, 1175), (15, .ifCond .eq 22, 3, 0, 0, 0, 0), (18, .iload_n 3, 1, 0, 0, 0, 0), (19, .iconst 0, 1, 0, 0, 0, 0), (20, .iconst 3, 1, 0, 0, 0, 0), (21, .invokestatic 76, 3, 0, 1, 3, 1175), (24, .ifCond .eq 13, 3, 0, 0, 0, 0), (27, .iload 4, 2, 0, 0, 0, 0), (29, .iconst 0, 1, 0, 0, 0, 0), (30, .iconst 3, 1, 0, 0, 0, 0), (31, .invokestatic 76, 3, 0, 1, 3, 1175), (34, .ifCond .ne 9, 3, 0, 0, 0, 0), (37, .aload_n 0, 1, 0, 0, 0, 0), (38, .iconst 1, 1, 0, 0, 0, 0), (39, .invokevirtual 242, 3, 1, 11, 1, 1181), (42, .ireturn, 1, 0, 0, 0, 0), (43, .aload_n 0, 1, 0, 0, 0, 0), (44, .iload_n 1, 1, 0, 0, 0, 0), (45, .putfield 228, 3, 1081, 11, 20, 0), (48, .aload_n 0, 1, 0, 0, 0, 0), (49, .getfield 49, 3, 1085, 11, 24, 0), (52, .iconst 0, 1, 0, 0, 0, 0), (53, .iload_n 2, 1, 0, 0, 0, 0), (54, .iastore, 1, 0, 0, 0, 0), (55, .aload_n 0, 1, 0, 0, 0, 0), (56, .getfield 49, 3, 1085, 11, 24, 0), (59, .iconst 1, 1, 0, 0, 0, 0), (60, .iload_n 3, 1, 0, 0, 0, 0), (61, .iastore, 1, 0, 0, 0, 0), (62, .aload_n 0, 1, 0, 0, 0, 0), (63, .getfield 49, 3, 1085, 11, 24, 0), (66, .iconst 2, 1, 0, 0, 0, 0), (67, .iload 4, 2, 0, 0, 0, 0), (69, .iastore, 1, 0, 0, 0, 0), (70, .aload_n 0, 1, 0, 0, 0, 0), (71, .iconst 4, 1, 0, 0, 0, 0), (72, .invokevirtual 245, 3, 2, 11, 1, 1185), (75, .aload_n 0, 1, 0, 0, 0, 0), (76, .iconst 1, 1, 0, 0, 0, 0), (77, .iload_n 1, 1, 0, 0, 0, 0), (78, .ishl, 1, 0, 0, 0, 0), (79, .invokevirtual 249, 3, 3, 11, 1, 1206), (82, .ireturn, 1, 0, 0, 0, 0)]
set_option maxRecDepth 100000 in
set_option maxHeartbeats 4000000 in
theorem c_X11_folds_ (l : Launch) (G : vg_G) (hp : vg_Hp G) : vg_Ct l G vg_sh r_X11_folds_ := by
  refine vg_meth hp vg_sh_ok r_X11_folds_ k_X11_folds_ rfl (fun h => by cases h) o_X11_folds_ [r_X11_isFrom, r_X11_refuse, r_X11_begins, r_X11_gives] false (by decide +kernel) (by decide +kernel) ⟨_, _, rfl, rfl⟩ (List.forall_mem_cons.mpr ⟨⟨c_X11_isFrom l G hp, Nat.le_of_ble_eq_true rfl, Nat.le_of_ble_eq_true rfl⟩, List.forall_mem_cons.mpr ⟨⟨c_X11_refuse l G hp, Nat.le_of_ble_eq_true rfl, Nat.le_of_ble_eq_true rfl⟩, List.forall_mem_cons.mpr ⟨⟨c_X11_begins l G hp, Nat.le_of_ble_eq_true rfl, Nat.le_of_ble_eq_true rfl⟩, List.forall_mem_cons.mpr ⟨⟨c_X11_gives l G hp, Nat.le_of_ble_eq_true rfl, Nat.le_of_ble_eq_true rfl⟩, fun _ h => absurd h List.not_mem_nil⟩⟩⟩⟩) (fun h => by cases h) 600 ?_
  intro as s0 hpre
  obtain ⟨r, a1, a2, a3, a4, rfl, hr, i0⟩ := hpre
  simp only [List.mem_cons, List.not_mem_nil, or_false] at hr
  rcases hr with rfl
  ·
    have z0 : (Int32.ofInt 0).toInt = 0 := by decide
    have z1 : (Int32.ofInt 1).toInt = 1 := by decide
    have z2 : (Int32.ofInt 2).toInt = 2 := by decide
    have z3 : (Int32.ofInt 3).toInt = 3 := by decide
    have z4 : (Int32.ofInt 4).toInt = 4 := by decide
    refine ⟨Nat.le_of_ble_eq_true rfl, [], ?_, fun _ h => absurd h List.not_mem_nil⟩
    ·
      refine And.intro (Nat.le_of_ble_eq_true rfl) (And.intro ⟨a1, (Int32.ofInt 0), (Int32.ofInt 3), rfl, trivial⟩ ?_)
      intro v1 s3 h2
      have h2 : s3 = s0 ∧ ((v1.toInt = 1 ∧ (Int32.ofInt 0).toInt ≤ a1.toInt ∧ a1.toInt ≤ (Int32.ofInt 3).toInt) ∨ (v1.toInt = 0 ∧ (a1.toInt < (Int32.ofInt 0).toInt ∨ (Int32.ofInt 3).toInt < a1.toInt))) := h2
      have q6 := h2.1.symm
      subst q6
      have q7 := h2.2
      refine And.intro (fun c8 => ?_) (fun c8 => ?_)
      · have c8 : v1.toInt = 0 := c8
        refine And.intro (Nat.le_of_ble_eq_true rfl) (And.intro ⟨55, (Int32.ofInt 1), rfl, by decide, i0⟩ ?_)
        intro v9 s11 h10
        have h10 : Iv s11 ∧ Kp s0 s11 ∧ (v9.toInt = -1) := h10
        have i12 := h10.1
        have k13 : K_X11_folds_ s0 s11 := Kx.tr Kx.rf ((h10.2.1).px)
        have q14 := h10.2.2
        show Iv s11 ∧ K_X11_folds_ s0 s11 ∧ (((0 ≤ a1.toInt ∧ a1.toInt ≤ 3 ∧ 0 ≤ a2.toInt ∧ a2.toInt ≤ 3 ∧ 0 ≤ a3.toInt ∧ a3.toInt ≤ 3 ∧ 0 ≤ a4.toInt ∧ a4.toInt ≤ 3) ∧ v9.toInt = (vg_af a1).toInt) ∨ (¬ (0 ≤ a1.toInt ∧ a1.toInt ≤ 3 ∧ 0 ≤ a2.toInt ∧ a2.toInt ≤ 3 ∧ 0 ≤ a3.toInt ∧ a3.toInt ≤ 3 ∧ 0 ≤ a4.toInt ∧ a4.toInt ≤ 3) ∧ v9.toInt = -1))
        exact ⟨i12, k13, (by first | trivial | omega | assumption)⟩
      · have c8 : ¬ (v1.toInt = 0) := c8
        refine And.intro (Nat.le_of_ble_eq_true rfl) (And.intro ⟨a2, (Int32.ofInt 0), (Int32.ofInt 3), rfl, trivial⟩ ?_)
        intro v15 s17 h16
        have h16 : s17 = s0 ∧ ((v15.toInt = 1 ∧ (Int32.ofInt 0).toInt ≤ a2.toInt ∧ a2.toInt ≤ (Int32.ofInt 3).toInt) ∨ (v15.toInt = 0 ∧ (a2.toInt < (Int32.ofInt 0).toInt ∨ (Int32.ofInt 3).toInt < a2.toInt))) := h16
        have q20 := h16.1.symm
        subst q20
        have q21 := h16.2
        refine And.intro (fun c22 => ?_) (fun c22 => ?_)
        · have c22 : v15.toInt = 0 := c22
          refine And.intro (Nat.le_of_ble_eq_true rfl) (And.intro ⟨55, (Int32.ofInt 1), rfl, by decide, i0⟩ ?_)
          intro v23 s25 h24
          have h24 : Iv s25 ∧ Kp s0 s25 ∧ (v23.toInt = -1) := h24
          have i26 := h24.1
          have k27 : K_X11_folds_ s0 s25 := Kx.tr Kx.rf ((h24.2.1).px)
          have q28 := h24.2.2
          show Iv s25 ∧ K_X11_folds_ s0 s25 ∧ (((0 ≤ a1.toInt ∧ a1.toInt ≤ 3 ∧ 0 ≤ a2.toInt ∧ a2.toInt ≤ 3 ∧ 0 ≤ a3.toInt ∧ a3.toInt ≤ 3 ∧ 0 ≤ a4.toInt ∧ a4.toInt ≤ 3) ∧ v23.toInt = (vg_af a1).toInt) ∨ (¬ (0 ≤ a1.toInt ∧ a1.toInt ≤ 3 ∧ 0 ≤ a2.toInt ∧ a2.toInt ≤ 3 ∧ 0 ≤ a3.toInt ∧ a3.toInt ≤ 3 ∧ 0 ≤ a4.toInt ∧ a4.toInt ≤ 3) ∧ v23.toInt = -1))
          exact ⟨i26, k27, (by first | trivial | omega | assumption)⟩
        · have c22 : ¬ (v15.toInt = 0) := c22
          refine And.intro (Nat.le_of_ble_eq_true rfl) (And.intro ⟨a3, (Int32.ofInt 0), (Int32.ofInt 3), rfl, trivial⟩ ?_)
          intro v29 s31 h30
          have h30 : s31 = s0 ∧ ((v29.toInt = 1 ∧ (Int32.ofInt 0).toInt ≤ a3.toInt ∧ a3.toInt ≤ (Int32.ofInt 3).toInt) ∨ (v29.toInt = 0 ∧ (a3.toInt < (Int32.ofInt 0).toInt ∨ (Int32.ofInt 3).toInt < a3.toInt))) := h30
          have q34 := h30.1.symm
          subst q34
          have q35 := h30.2
          refine And.intro (fun c36 => ?_) (fun c36 => ?_)
          · have c36 : v29.toInt = 0 := c36
            refine And.intro (Nat.le_of_ble_eq_true rfl) (And.intro ⟨55, (Int32.ofInt 1), rfl, by decide, i0⟩ ?_)
            intro v37 s39 h38
            have h38 : Iv s39 ∧ Kp s0 s39 ∧ (v37.toInt = -1) := h38
            have i40 := h38.1
            have k41 : K_X11_folds_ s0 s39 := Kx.tr Kx.rf ((h38.2.1).px)
            have q42 := h38.2.2
            show Iv s39 ∧ K_X11_folds_ s0 s39 ∧ (((0 ≤ a1.toInt ∧ a1.toInt ≤ 3 ∧ 0 ≤ a2.toInt ∧ a2.toInt ≤ 3 ∧ 0 ≤ a3.toInt ∧ a3.toInt ≤ 3 ∧ 0 ≤ a4.toInt ∧ a4.toInt ≤ 3) ∧ v37.toInt = (vg_af a1).toInt) ∨ (¬ (0 ≤ a1.toInt ∧ a1.toInt ≤ 3 ∧ 0 ≤ a2.toInt ∧ a2.toInt ≤ 3 ∧ 0 ≤ a3.toInt ∧ a3.toInt ≤ 3 ∧ 0 ≤ a4.toInt ∧ a4.toInt ≤ 3) ∧ v37.toInt = -1))
            exact ⟨i40, k41, (by first | trivial | omega | assumption)⟩
          · have c36 : ¬ (v29.toInt = 0) := c36
            refine And.intro (Nat.le_of_ble_eq_true rfl) (And.intro ⟨a4, (Int32.ofInt 0), (Int32.ofInt 3), rfl, trivial⟩ ?_)
            intro v43 s45 h44
            have h44 : s45 = s0 ∧ ((v43.toInt = 1 ∧ (Int32.ofInt 0).toInt ≤ a4.toInt ∧ a4.toInt ≤ (Int32.ofInt 3).toInt) ∨ (v43.toInt = 0 ∧ (a4.toInt < (Int32.ofInt 0).toInt ∨ (Int32.ofInt 3).toInt < a4.toInt))) := h44
            have q48 := h44.1.symm
            subst q48
            have q49 := h44.2
            refine And.intro (fun c50 => ?_) (fun c50 => ?_)
            · have c50 : ¬ v43.toInt = 0 := c50
              intro s51 e52
              have i53 : Iv s51 := Iv.c1 (lo := 0) (hi := 3) i0 e52 rfl (by omega) (by omega)
              have k54 : K_X11_folds_ s0 s51 := Kx.u1 Kx.rf e52 rfl
              refine And.intro ⟨by omega, by omega⟩ ?_
              intro s55 e56
              have i57 : Iv s55 := Iv.a1 i53 e56 rfl
              have k58 : K_X11_folds_ s0 s55 := Kx.u1 k54 e56 rfl
              refine And.intro ⟨by omega, by omega⟩ ?_
              intro s59 e60
              have i61 : Iv s59 := Iv.a1 i57 e60 rfl
              have k62 : K_X11_folds_ s0 s59 := Kx.u1 k58 e60 rfl
              refine And.intro ⟨by omega, by omega⟩ ?_
              intro s63 e64
              have i65 : Iv s63 := Iv.a1 i61 e64 rfl
              have k66 : K_X11_folds_ s0 s63 := Kx.u1 k62 e64 rfl
              refine And.intro (Nat.le_of_ble_eq_true rfl) (And.intro ⟨55, (Int32.ofInt 4), rfl, by decide, i65, by omega⟩ ?_)
              intro s68 h67
              have h67 : Iv s68 ∧ Kp s63 s68 ∧ (True) := h67
              have i69 := h67.1
              have k70 : K_X11_folds_ s0 s68 := Kx.tr k66 ((h67.2.1).px)
              intro v71 e72
              have y1 : v71.toInt = (vg_af a1).toInt := congrArg Int32.toInt (by assumption)
              refine And.intro (Nat.le_of_ble_eq_true rfl) (And.intro ⟨55, v71, rfl, by decide, i69⟩ ?_)
              intro v73 s75 h74
              have h74 : Iv s75 ∧ Kp s68 s75 ∧ (v73 = v71 ∧ v73.toInt = v71.toInt) := h74
              have i76 := h74.1
              have k77 : K_X11_folds_ s0 s75 := Kx.tr k70 ((h74.2.1).px)
              have q78 := h74.2.2
              show Iv s75 ∧ K_X11_folds_ s0 s75 ∧ (((0 ≤ a1.toInt ∧ a1.toInt ≤ 3 ∧ 0 ≤ a2.toInt ∧ a2.toInt ≤ 3 ∧ 0 ≤ a3.toInt ∧ a3.toInt ≤ 3 ∧ 0 ≤ a4.toInt ∧ a4.toInt ≤ 3) ∧ v73.toInt = (vg_af a1).toInt) ∨ (¬ (0 ≤ a1.toInt ∧ a1.toInt ≤ 3 ∧ 0 ≤ a2.toInt ∧ a2.toInt ≤ 3 ∧ 0 ≤ a3.toInt ∧ a3.toInt ≤ 3 ∧ 0 ≤ a4.toInt ∧ a4.toInt ≤ 3) ∧ v73.toInt = -1))
              exact ⟨i76, k77, (by first | trivial | omega | assumption)⟩
            · have c50 : ¬ (¬ v43.toInt = 0) := c50
              refine And.intro (Nat.le_of_ble_eq_true rfl) (And.intro ⟨55, (Int32.ofInt 1), rfl, by decide, i0⟩ ?_)
              intro v79 s81 h80
              have h80 : Iv s81 ∧ Kp s0 s81 ∧ (v79.toInt = -1) := h80
              have i82 := h80.1
              have k83 : K_X11_folds_ s0 s81 := Kx.tr Kx.rf ((h80.2.1).px)
              have q84 := h80.2.2
              show Iv s81 ∧ K_X11_folds_ s0 s81 ∧ (((0 ≤ a1.toInt ∧ a1.toInt ≤ 3 ∧ 0 ≤ a2.toInt ∧ a2.toInt ≤ 3 ∧ 0 ≤ a3.toInt ∧ a3.toInt ≤ 3 ∧ 0 ≤ a4.toInt ∧ a4.toInt ≤ 3) ∧ v79.toInt = (vg_af a1).toInt) ∨ (¬ (0 ≤ a1.toInt ∧ a1.toInt ≤ 3 ∧ 0 ≤ a2.toInt ∧ a2.toInt ≤ 3 ∧ 0 ≤ a3.toInt ∧ a3.toInt ≤ 3 ∧ 0 ≤ a4.toInt ∧ a4.toInt ≤ 3) ∧ v79.toInt = -1))
              exact ⟨i82, k83, (by first | trivial | omega | assumption)⟩
def o_X11_clocks : List vg_I := [(0, .iload_n 1, 1, 0, 0, 0, 0), (1, .iconst 1, 1, 0, 0, 0, 0), (2, .sipush 400, 3, 0, 0, 0, 0), (5, .invokestatic 76, 3, 0, 1, 3, 1175), (8, .ifCond .ne 9, 3, 0, 0, 0, 0), (11, .aload_n 0, 1, 0, 0, 0, 0), (12, .iconst 1, 1, 0, 0, 0, 0), (13, .invokevirtual 242, 3, 1, 11, 1, 1181), (16, .ireturn, 1, 0, 0, 0, 0), (17, .iconst 0, 1, 0, 0, 0, 0), (18, .istore_n 2, 1, 0, 0, 0, 0), (19, .iload_n 2, 1, 0, 0, 0, 0), (20, .iload_n 1, 1, 0, 0, 0, 0), (21, .if_icmp .ge 13, 3, 0, 0, 0, 0), (24, .aload_n 0, 1, 0, 0, 0, 0), (25, .invokevirtual 264, 3, 2, 11, 0, 1272), (28, .iinc 2 1, 3, 0, 0, 0, 0), (31, .goto (-12), 3, 0, 0, 0, 0), (34, .aload_n 0, 1, 0, 0, 0, 0), (35, .aload_n 0, 1, 0, 0, 0, 0), (36, .iconst 0, 1, 0, 0, 0, 0), (37, .invokevirtual 110, 3, 3, 11, 1, 1202), (40, .invokevirtual 249, 3, 4, 11, 1, 1206), (43, .ireturn, 1, 0, 0, 0, 0)]
set_option maxRecDepth 100000 in
set_option maxHeartbeats 4000000 in
theorem c_X11_clocks (l : Launch) (G : vg_G) (hp : vg_Hp G) : vg_Ct l G vg_sh r_X11_clocks := by
  refine vg_meth hp vg_sh_ok r_X11_clocks k_X11_clocks rfl (fun h => by cases h) o_X11_clocks [r_X11_isFrom, r_X11_refuse, r_X11_goes, r_X11_get, r_X11_gives] false (by decide +kernel) (by decide +kernel) ⟨_, _, rfl, rfl⟩ (List.forall_mem_cons.mpr ⟨⟨c_X11_isFrom l G hp, Nat.le_of_ble_eq_true rfl, Nat.le_of_ble_eq_true rfl⟩, List.forall_mem_cons.mpr ⟨⟨c_X11_refuse l G hp, Nat.le_of_ble_eq_true rfl, Nat.le_of_ble_eq_true rfl⟩, List.forall_mem_cons.mpr ⟨⟨c_X11_goes l G hp, Nat.le_of_ble_eq_true rfl, Nat.le_of_ble_eq_true rfl⟩, List.forall_mem_cons.mpr ⟨⟨c_X11_get l G hp, Nat.le_of_ble_eq_true rfl, Nat.le_of_ble_eq_true rfl⟩, List.forall_mem_cons.mpr ⟨⟨c_X11_gives l G hp, Nat.le_of_ble_eq_true rfl, Nat.le_of_ble_eq_true rfl⟩, fun _ h => absurd h List.not_mem_nil⟩⟩⟩⟩⟩) (fun h => by cases h) 600 ?_
  intro as s0 hpre
  obtain ⟨r, a1, rfl, hr, i0, p0⟩ := hpre
  simp only [List.mem_cons, List.not_mem_nil, or_false] at hr
  rcases hr with rfl
  ·
    have z0 : (Int32.ofInt 0).toInt = 0 := by decide
    have z1 : (Int32.ofInt 1).toInt = 1 := by decide
    have z400 : (Int32.ofInt 400).toInt = 400 := by decide
    refine ⟨Nat.le_of_ble_eq_true rfl, [(19, [true, true, true], (fun L t => ∃ (x2 : Int32), L = [some (.ref 55), some (.int a1), some (.int x2)] ∧ (0 : Int) ≤ x2.toInt ∧ x2.toInt ≤ (400 : Int) ∧ (1 : Int) ≤ a1.toInt ∧ a1.toInt ≤ (400 : Int) ∧ ((t.2 56 0).toInt = (s0.2 56 0).toInt + x2.toInt ∧ x2.toInt ≤ a1.toInt) ∧ Iv t ∧ Kg s0 t), (fun L _ => (0 + (400 - (vg_li L 2).toInt) * 1000000000000).toNat))], ?_, List.forall_mem_cons.mpr ⟨?_, fun _ h => absurd h List.not_mem_nil⟩⟩
    ·
      refine And.intro (Nat.le_of_ble_eq_true rfl) (And.intro ⟨a1, (Int32.ofInt 1), (Int32.ofInt 400), rfl, trivial⟩ ?_)
      intro v1 s3 h2
      have h2 : s3 = s0 ∧ ((v1.toInt = 1 ∧ (Int32.ofInt 1).toInt ≤ a1.toInt ∧ a1.toInt ≤ (Int32.ofInt 400).toInt) ∨ (v1.toInt = 0 ∧ (a1.toInt < (Int32.ofInt 1).toInt ∨ (Int32.ofInt 400).toInt < a1.toInt))) := h2
      have q6 := h2.1.symm
      subst q6
      have q7 := h2.2
      refine And.intro (fun c8 => ?_) (fun c8 => ?_)
      · have c8 : ¬ v1.toInt = 0 := c8
        exact ⟨rfl, ⟨(Int32.ofInt 0), rfl, (by omega), (by omega), (by omega), (by omega), (by omega), i0, Kx.rf⟩, trivial⟩
      · have c8 : ¬ (¬ v1.toInt = 0) := c8
        refine And.intro (Nat.le_of_ble_eq_true rfl) (And.intro ⟨55, (Int32.ofInt 1), rfl, by decide, i0⟩ ?_)
        intro v9 s11 h10
        have h10 : Iv s11 ∧ Kp s0 s11 ∧ (v9.toInt = -1) := h10
        have i12 := h10.1
        have k13 : Kg s0 s11 := Kx.tr Kx.rf ((h10.2.1).pg)
        have q14 := h10.2.2
        show Iv s11 ∧ Kg s0 s11 ∧ (((1 ≤ a1.toInt ∧ a1.toInt ≤ 400) ∧ v9.toInt = (s0.2 56 0).toInt + a1.toInt ∧ (s11.2 56 0).toInt = (s0.2 56 0).toInt + a1.toInt) ∨ (¬ (1 ≤ a1.toInt ∧ a1.toInt ≤ 400) ∧ v9.toInt = -1 ∧ (s11.2 56 0).toInt = (s0.2 56 0).toInt))
        exact ⟨i12, k13, (by have h9 := congrArg Int64.toInt (h10.2.1.2 56 0 rfl); omega)⟩
    ·
      intro L s21 hL
      obtain ⟨w15, rfl, b16, b17, b18, b19, x20, i22, k23⟩ := hL
      refine And.intro (fun c24 => ?_) (fun c24 => ?_)
      · have c24 : a1.toInt ≤ w15.toInt := c24
        refine And.intro (Nat.le_of_ble_eq_true rfl) (And.intro ⟨55, (Int32.ofInt 0), rfl, by decide, i22, by omega⟩ ?_)
        intro v25 s27 h26
        have h26 : s27 = s21 ∧ (v25 = (s21.2 56 (Int32.ofInt 0).toNatClampNeg).toInt32) := h26
        have q30 := h26.1.symm
        subst q30
        have q31 := h26.2
        have y1 : v25.toInt = (s21.2 56 0).toInt := vg_l2i (x := s21.2 56 0) q31 (by omega) (by omega)
        refine And.intro (Nat.le_of_ble_eq_true rfl) (And.intro ⟨55, v25, rfl, by decide, i22⟩ ?_)
        intro v32 s34 h33
        have h33 : Iv s34 ∧ Kp s21 s34 ∧ (v32 = v25 ∧ v32.toInt = v25.toInt) := h33
        have i35 := h33.1
        have k36 : Kg s0 s34 := Kx.tr k23 ((h33.2.1).pg)
        have q37 := h33.2.2
        show Iv s34 ∧ Kg s0 s34 ∧ (((1 ≤ a1.toInt ∧ a1.toInt ≤ 400) ∧ v32.toInt = (s0.2 56 0).toInt + a1.toInt ∧ (s34.2 56 0).toInt = (s0.2 56 0).toInt + a1.toInt) ∨ (¬ (1 ≤ a1.toInt ∧ a1.toInt ≤ 400) ∧ v32.toInt = -1 ∧ (s34.2 56 0).toInt = (s0.2 56 0).toInt))
        exact ⟨i35, k36, (by have h9 := congrArg Int64.toInt (h33.2.1.2 56 0 rfl); omega)⟩
      · have c24 : ¬ (a1.toInt ≤ w15.toInt) := c24
        refine And.intro (Nat.le_of_ble_eq_true rfl) (And.intro ⟨55, rfl, by decide, i22, by omega⟩ ?_)
        intro s39 h38
        have h38 : Iv s39 ∧ Kg s21 s39 ∧ ((s39.2 56 0).toInt = (s21.2 56 0).toInt + 1) := h38
        have i40 := h38.1
        have k41 : Kg s0 s39 := Kx.tr k23 (h38.2.1)
        have q42 := h38.2.2
        intro v43 e44
        have b45 := vg_add e44 (by omega) (by omega)
        exact ⟨rfl, ⟨v43, rfl, (by omega), (by omega), (by omega), (by omega), (by omega), i40, k41⟩, (by show (0 + (400 - v43.toInt) * 1000000000000).toNat < (0 + (400 - w15.toInt) * 1000000000000).toNat; omega)⟩
def o_X11_gap : List vg_I := [(0, .iload_n 1, 1, 0, 0, 0, 0), (1, .iconst 0, 1, 0, 0, 0, 0), (2, .iconst 2, 1, 0, 0, 0, 0), (3, .invokestatic 76, 3, 0, 1, 3, 1175), (6, .ifCond .eq 18, 3, 0, 0, 0, 0), (9, .iload_n 1, 1, 0, 0, 0, 0), (10, .iconst 2, 1, 0, 0, 0, 0), (11, .if_icmp .ne 20, 3, 0, 0, 0, 0), (14, .iload_n 2, 1, 0, 0, 0, 0), (15, .iconst 1, 1, 0, 0, 0, 0), (16, .bipush 48, 2, 0, 0, 0, 0), (18, .invokestatic 76, 3, 0, 1, 3, 1175), (21, .ifCond .ne 10, 3, 0, 0, 0, 0), (24, .aload_n 0, 1, 0, 0, 0, 0), (25, .iconst 1, 1, 0, 0, 0, 0), (26, .invokevirtual 242, 3, 1, 11, 1, 1181), (29, .i2l, 1, 0, 0, 0, 0), (30, .lreturn, 1, 0, 0, 0, 0), (31, .iload_n 1, 1, 0, 0, 0, 0), (32, .iconst 2, 1, 0, 0, 0, 0), (33, .if_icmp .ge 37, 3, 0, 0, 0, 0), (36, .aload_n 0, 1, 0, 0, 0, 0), (37, .iload_n 1, 1, 0, 0, 0, 0), (38, .ifCond .ne 21, 3, 0, 0, 0, 0), (41, .aload_n 0, 1, 0, 0, 0, 0), (42, .getfield 7, 3, 1061, 11, 0, 0), (45, .bipush 7, 2, 0, 0, 0, 0), (47, .laload, 1, 0, 0, 0, 0), (48, .aload_n 0, 1, 0, 0, 0, 0), (49, .getfield 7, 3, 1061, 11, 0, 0), (52, .bipush 6, 2, 0, 0, 0, 0), (54, .laload, 1, 0, 0, 0, 0), (55, .lsub, 1, 0, 0, 0, 0), (56, .goto 10, 3, 0, 0, 0, 0), (59, .aload_n 0, 1, 0, 0, 0, 0), (60, .getfield 7, 3, 1061, 11, 0, 0), (63, .bipush 9, 2, 0, 0, 0, 0), (65, .laload, 1, 0, 0, 0, 0), (66, .invokevirtual 270, 3, 2, 11, 1, 1393), (69, .lreturn, 1, 0, 0, 0, 0), (70, .aload_n 0, 1, 0, 0, 0, 0), (71, .iconst 0, 1, 0, 0, 0, 0), (72, .invokevirtual 267, 3, 3, 11, 1, 1381), (75, .aload_n 0, 1, 0, 0, 0, 0), (76, .iconst 1, 1, 0, 0, 0, 0), (77, .invokevirtual 267, 3, 3, 11, 1, 1381), (80, .invokestatic 113, 3, 4, 1, 2, 1280), (83, .istore_n 3, 1, 0, 0, 0, 0), (84, .iload_n 2, 1, 0, 0, 0, 0), (85, .iload_n 3, 1, 0, 0, 0, 0), (86, .if_icmp .le 10, 3, 0, 0, 0, 0), (89, .aload_n 0, 1, 0, 0, 0, 0), (90, .iconst 5, 1, 0, 0, 0, 0), (91, .invokevirtual 242, 3, 1, 11, 1, 1181), (94, .i2l, 1, 0, 0, 0, 0), (95, .lreturn, 1, 0, 0, 0, 0), (96, .lconst 0, 1, 0, 0, 0, 0), (97, .lstore 4, 2, 0, 0, 0, 0), (99, .iconst 0, 1, 0, 0, 0, 0), (100, .istore 6, 2, 0, 0, 0, 0), (102, .iload 6, 2, 0, 0, 0, 0), (104, .iload_n 2, 1, 0, 0, 0, 0), (105, .iadd, 1, 0, 0, 0, 0), (106, .iload_n 3, 1, 0, 0, 0, 0), (107, .if_icmp .gt 89, 3, 0, 0, 0, 0), (110, .lconst 0, 1, 0, 0, 0, 0), (111, .lstore 7, 2, 0, 0, 0, 0), (113, .iload 6, 2, 0, 0, 0, 0), (115, .istore 9, 2, 0, 0, 0, 0), (117, .iload 9, 2, 0, 0, 0, 0), (119, .iload 6, 2, 0, 0, 0, 0), (121, .iload_n 2, 1, 0, 0, 0, 0), (122, .iadd, 1, 0, 0, 0, 0), (123, .if_icmp .ge 55, 3, 0, 0, 0, 0), (126, .lload 7, 2, 0, 0, 0, 0), (128, .aload_n 0, 1, 0, 0, 0, 0), (129, .getfield 23, 3, 1070, 11, 9, 0), (132, .i2l, 1, 0, 0, 0, 0), (133, .ldc2_w 167, 3, 1336, 0, 0, 2), (136, .aload_n 0, 1, 0, 0, 0, 0), (137, .iconst 1, 1, 0, 0, 0, 0), (138, .iload 9, 2, 0, 0, 0, 0), (140, .invokevirtual 231, 3, 5, 11, 2, 1353), (143, .lmul, 1, 0, 0, 0, 0), (144, .lconst 1, 1, 0, 0, 0, 0), (145, .ladd, 1, 0, 0, 0, 0), (146, .aload_n 0, 1, 0, 0, 0, 0), (147, .getfield 26, 3, 1071, 11, 10, 0), (150, .i2l, 1, 0, 0, 0, 0), (151, .lsub, 1, 0, 0, 0, 0), (152, .iconst 2, 1, 0, 0, 0, 0), (153, .aload_n 0, 1, 0, 0, 0, 0), (154, .invokevirtual 151, 3, 6, 11, 0, 1322), (157, .imul, 1, 0, 0, 0, 0), (158, .i2l, 1, 0, 0, 0, 0), (159, .lsub, 1, 0, 0, 0, 0), (160, .lmul, 1, 0, 0, 0, 0), (161, .aload_n 0, 1, 0, 0, 0, 0), (162, .iconst 0, 1, 0, 0, 0, 0), (163, .iload 9, 2, 0, 0, 0, 0), (165, .invokevirtual 231, 3, 5, 11, 2, 1353), (168, .lsub, 1, 0, 0, 0, 0), (169, .ladd, 1, 0, 0, 0, 0), (170, .lstore 7, 2, 0, 0, 0, 0), (172, .iinc 9 1, 3, 0, 0, 0, 0), (175, .goto (-58), 3, 0, 0, 0, 0), (178, .lload 4, 2, 0, 0, 0, 0), (180, .lload 7, 2, 0, 0, 0, 0), (182, .invokestatic 216, 3, 7, 1, 1, 1326), (185, .invokestatic 176, 3, 8, 1, 2, 1327), (188, .lstore 4, 2, 0, 0, 0, 0), (190, .iinc 6 1, 3, 0, 0, 0, 0), (193, .goto (-91), 3, 0, 0, 0, 0), (196, .aload_n 0, 1, 0, 0, 0, 0), (197, .lload 4, 2, 0, 0, 0, 0), (199, .invokevirtual 270, 3, 2, 11, 1, 1393), (202, .lreturn, 1, 0, 0, 0, 0)]
set_option maxRecDepth 100000 in
set_option maxHeartbeats 4000000 in
theorem c_X11_gap (l : Launch) (G : vg_G) (hp : vg_Hp G) : vg_Ct l G vg_sh r_X11_gap := by
  refine vg_meth hp vg_sh_ok r_X11_gap k_X11_gap rfl (fun h => by cases h) o_X11_gap [r_X11_isFrom, r_X11_refuse, r_X11_givesLong, r_X11_many, r_J9_min_7cf53, r_X11_latestOf, r_X11_besides, r_J9_abs_067f4, r_J9_max_f86c9] false (by decide +kernel) (by decide +kernel) ⟨_, _, rfl, rfl⟩ (List.forall_mem_cons.mpr ⟨⟨c_X11_isFrom l G hp, Nat.le_of_ble_eq_true rfl, Nat.le_of_ble_eq_true rfl⟩, List.forall_mem_cons.mpr ⟨⟨c_X11_refuse l G hp, Nat.le_of_ble_eq_true rfl, Nat.le_of_ble_eq_true rfl⟩, List.forall_mem_cons.mpr ⟨⟨c_X11_givesLong l G hp, Nat.le_of_ble_eq_true rfl, Nat.le_of_ble_eq_true rfl⟩, List.forall_mem_cons.mpr ⟨⟨c_X11_many l G hp, Nat.le_of_ble_eq_true rfl, Nat.le_of_ble_eq_true rfl⟩, List.forall_mem_cons.mpr ⟨⟨c_J9_min_7cf53 l G hp, Nat.le_of_ble_eq_true rfl, Nat.le_of_ble_eq_true rfl⟩, List.forall_mem_cons.mpr ⟨⟨c_X11_latestOf l G hp, Nat.le_of_ble_eq_true rfl, Nat.le_of_ble_eq_true rfl⟩, List.forall_mem_cons.mpr ⟨⟨c_X11_besides l G hp, Nat.le_of_ble_eq_true rfl, Nat.le_of_ble_eq_true rfl⟩, List.forall_mem_cons.mpr ⟨⟨c_J9_abs_067f4 l G hp, Nat.le_of_ble_eq_true rfl, Nat.le_of_ble_eq_true rfl⟩, List.forall_mem_cons.mpr ⟨⟨c_J9_max_f86c9 l G hp, Nat.le_of_ble_eq_true rfl, Nat.le_of_ble_eq_true rfl⟩, fun _ h => absurd h List.not_mem_nil⟩⟩⟩⟩⟩⟩⟩⟩⟩) (fun h => by cases h) 600 ?_
  intro as s0 hpre
  obtain ⟨r, a1, a2, rfl, hr, i0⟩ := hpre
  simp only [List.mem_cons, List.not_mem_nil, or_false] at hr
  rcases hr with rfl
  ·
    have z0 : (Int32.ofInt 0).toInt = 0 := by decide
    have z1 : (Int32.ofInt 1).toInt = 1 := by decide
    have z2 : (Int32.ofInt 2).toInt = 2 := by decide
    have z5 : (Int32.ofInt 5).toInt = 5 := by decide
    have z6 : (Int32.ofInt 6).toInt = 6 := by decide
    have z7 : (Int32.ofInt 7).toInt = 7 := by decide
    have z9 : (Int32.ofInt 9).toInt = 9 := by decide
    have z48 : (Int32.ofInt 48).toInt = 48 := by decide
    refine ⟨Nat.le_of_ble_eq_true rfl, [(102, [true, false, true, true, true, false, true, false, false, false], (fun L t => ∃ (x3 : Int32) (x4 : Int64) (x6 : Int32), L = [some (.ref 55), none, some (.int a2), some (.int x3), some (.long x4), none, some (.int x6), none, none, none] ∧ x3.toInt ≤ (48 : Int) ∧ (0 : Int) ≤ x6.toInt ∧ x6.toInt ≤ (49 : Int) ∧ (1 : Int) ≤ a2.toInt ∧ a2.toInt ≤ (48 : Int) ∧ Iv t ∧ Kp s0 t), (fun L _ => ((49 - (vg_li L 6).toInt) * 1000).toNat)), (117, [true, false, true, true, true, false, true, true, false, true], (fun L t => ∃ (x3 : Int32) (x4 : Int64) (x6 : Int32) (x7 : Int64) (x9 : Int32), L = [some (.ref 55), none, some (.int a2), some (.int x3), some (.long x4), none, some (.int x6), some (.long x7), none, some (.int x9)] ∧ x3.toInt ≤ (48 : Int) ∧ (0 : Int) ≤ x6.toInt ∧ x6.toInt ≤ (47 : Int) ∧ (0 : Int) ≤ x9.toInt ∧ x9.toInt ≤ (100 : Int) ∧ (1 : Int) ≤ a2.toInt ∧ a2.toInt ≤ (48 : Int) ∧ (x6.toInt + a2.toInt ≤ 48) ∧ Iv t ∧ Kp s0 t), (fun L _ => ((49 - (vg_li L 6).toInt) * 1000 - 1000 + (100 - (vg_li L 9).toInt) + 1).toNat))], ?_, List.forall_mem_cons.mpr ⟨?_, List.forall_mem_cons.mpr ⟨?_, fun _ h => absurd h List.not_mem_nil⟩⟩⟩
    ·
      refine And.intro (Nat.le_of_ble_eq_true rfl) (And.intro ⟨a1, (Int32.ofInt 0), (Int32.ofInt 2), rfl, trivial⟩ ?_)
      intro v1 s3 h2
      have h2 : s3 = s0 ∧ ((v1.toInt = 1 ∧ (Int32.ofInt 0).toInt ≤ a1.toInt ∧ a1.toInt ≤ (Int32.ofInt 2).toInt) ∨ (v1.toInt = 0 ∧ (a1.toInt < (Int32.ofInt 0).toInt ∨ (Int32.ofInt 2).toInt < a1.toInt))) := h2
      have q6 := h2.1.symm
      subst q6
      have q7 := h2.2
      refine And.intro (fun c8 => ?_) (fun c8 => ?_)
      · have c8 : v1.toInt = 0 := c8
        refine And.intro (Nat.le_of_ble_eq_true rfl) (And.intro ⟨55, (Int32.ofInt 1), rfl, by decide, i0⟩ ?_)
        intro v9 s11 h10
        have h10 : Iv s11 ∧ Kp s0 s11 ∧ (v9.toInt = -1) := h10
        have i12 := h10.1
        have k13 : Kp s0 s11 := Kx.tr Kx.rf (h10.2.1)
        have q14 := h10.2.2
        intro v15 e16
        show Iv s11 ∧ Kp s0 s11 ∧ (True)
        exact ⟨i12, k13, (trivial)⟩
      · have c8 : ¬ (v1.toInt = 0) := c8
        refine And.intro (fun c17 => ?_) (fun c17 => ?_)
        · have c17 : ¬ a1.toInt = (Int32.ofInt 2).toInt := c17
          refine And.intro (fun c18 => ?_) (fun c18 => ?_)
          · have c18 : (Int32.ofInt 2).toInt ≤ a1.toInt := c18
            exfalso
            omega
          · have c18 : ¬ ((Int32.ofInt 2).toInt ≤ a1.toInt) := c18
            refine And.intro (fun c19 => ?_) (fun c19 => ?_)
            · have c19 : ¬ a1.toInt = 0 := c19
              refine And.intro ⟨by omega, by omega⟩ ?_
              intro v20 e21
              refine And.intro (Nat.le_of_ble_eq_true rfl) (And.intro ⟨55, v20, rfl, by decide, i0⟩ ?_)
              intro v22 s24 h23
              have h23 : Iv s24 ∧ Kp s0 s24 ∧ (v22 = v20) := h23
              have i25 := h23.1
              have k26 : Kp s0 s24 := Kx.tr Kx.rf (h23.2.1)
              have q27 := h23.2.2
              show Iv s24 ∧ Kp s0 s24 ∧ (True)
              exact ⟨i25, k26, (trivial)⟩
            · have c19 : ¬ (¬ a1.toInt = 0) := c19
              refine And.intro ⟨by omega, by omega⟩ ?_
              intro v28 e29
              refine And.intro ⟨by omega, by omega⟩ ?_
              intro v30 e31
              intro v32 e33
              refine And.intro (Nat.le_of_ble_eq_true rfl) (And.intro ⟨55, v32, rfl, by decide, i0⟩ ?_)
              intro v34 s36 h35
              have h35 : Iv s36 ∧ Kp s0 s36 ∧ (v34 = v32) := h35
              have i37 := h35.1
              have k38 : Kp s0 s36 := Kx.tr Kx.rf (h35.2.1)
              have q39 := h35.2.2
              show Iv s36 ∧ Kp s0 s36 ∧ (True)
              exact ⟨i37, k38, (trivial)⟩
        · have c17 : ¬ (¬ a1.toInt = (Int32.ofInt 2).toInt) := c17
          refine And.intro (Nat.le_of_ble_eq_true rfl) (And.intro ⟨a2, (Int32.ofInt 1), (Int32.ofInt 48), rfl, trivial⟩ ?_)
          intro v40 s42 h41
          have h41 : s42 = s0 ∧ ((v40.toInt = 1 ∧ (Int32.ofInt 1).toInt ≤ a2.toInt ∧ a2.toInt ≤ (Int32.ofInt 48).toInt) ∨ (v40.toInt = 0 ∧ (a2.toInt < (Int32.ofInt 1).toInt ∨ (Int32.ofInt 48).toInt < a2.toInt))) := h41
          have q45 := h41.1.symm
          subst q45
          have q46 := h41.2
          refine And.intro (fun c47 => ?_) (fun c47 => ?_)
          · have c47 : ¬ v40.toInt = 0 := c47
            refine And.intro (fun c48 => ?_) (fun c48 => ?_)
            · have c48 : (Int32.ofInt 2).toInt ≤ a1.toInt := c48
              refine And.intro (Nat.le_of_ble_eq_true rfl) (And.intro ⟨55, (Int32.ofInt 0), rfl, by decide, i0, by omega⟩ ?_)
              intro v49 s51 h50
              have h50 : s51 = s0 ∧ (v49.toInt ≤ 48) := h50
              have q54 := h50.1.symm
              subst q54
              have q55 := h50.2
              refine And.intro (Nat.le_of_ble_eq_true rfl) (And.intro ⟨55, (Int32.ofInt 1), rfl, by decide, i0, by omega⟩ ?_)
              intro v56 s58 h57
              have h57 : s58 = s0 ∧ (v56.toInt ≤ 48) := h57
              have q61 := h57.1.symm
              subst q61
              have q62 := h57.2
              refine And.intro (Nat.le_of_ble_eq_true rfl) (And.intro ⟨v49, v56, rfl, trivial⟩ ?_)
              intro v63 s65 h64
              have h64 : s65 = s0 ∧ (v63.toInt ≤ v49.toInt ∧ v63.toInt ≤ v56.toInt ∧ (v63.toInt = v49.toInt ∨ v63.toInt = v56.toInt)) := h64
              have q68 := h64.1.symm
              subst q68
              have q69 := h64.2
              refine And.intro (fun c70 => ?_) (fun c70 => ?_)
              · have c70 : a2.toInt ≤ v63.toInt := c70
                exact ⟨rfl, ⟨v63, (Int64.ofNat 0), (Int32.ofInt 0), rfl, (by omega), (by omega), (by omega), (by omega), (by omega), i0, Kx.rf⟩, trivial⟩
              · have c70 : ¬ (a2.toInt ≤ v63.toInt) := c70
                refine And.intro (Nat.le_of_ble_eq_true rfl) (And.intro ⟨55, (Int32.ofInt 5), rfl, by decide, i0⟩ ?_)
                intro v71 s73 h72
                have h72 : Iv s73 ∧ Kp s0 s73 ∧ (v71.toInt = -1) := h72
                have i74 := h72.1
                have k75 : Kp s0 s73 := Kx.tr Kx.rf (h72.2.1)
                have q76 := h72.2.2
                intro v77 e78
                show Iv s73 ∧ Kp s0 s73 ∧ (True)
                exact ⟨i74, k75, (trivial)⟩
            · have c48 : ¬ ((Int32.ofInt 2).toInt ≤ a1.toInt) := c48
              exfalso
              omega
          · have c47 : ¬ (¬ v40.toInt = 0) := c47
            refine And.intro (Nat.le_of_ble_eq_true rfl) (And.intro ⟨55, (Int32.ofInt 1), rfl, by decide, i0⟩ ?_)
            intro v79 s81 h80
            have h80 : Iv s81 ∧ Kp s0 s81 ∧ (v79.toInt = -1) := h80
            have i82 := h80.1
            have k83 : Kp s0 s81 := Kx.tr Kx.rf (h80.2.1)
            have q84 := h80.2.2
            intro v85 e86
            show Iv s81 ∧ Kp s0 s81 ∧ (True)
            exact ⟨i82, k83, (trivial)⟩
    ·
      intro L s95 hL
      obtain ⟨w87, w89, w90, rfl, b88, b91, b92, b93, b94, i96, k97⟩ := hL
      intro v98 e99
      have b100 := vg_add e99 (by omega) (by omega)
      refine And.intro (fun c101 => ?_) (fun c101 => ?_)
      · have c101 : w87.toInt < v98.toInt := c101
        refine And.intro (Nat.le_of_ble_eq_true rfl) (And.intro ⟨55, w89, rfl, by decide, i96⟩ ?_)
        intro v102 s104 h103
        have h103 : Iv s104 ∧ Kp s95 s104 ∧ (v102 = w89) := h103
        have i105 := h103.1
        have k106 : Kp s0 s104 := Kx.tr k97 (h103.2.1)
        have q107 := h103.2.2
        show Iv s104 ∧ Kp s0 s104 ∧ (True)
        exact ⟨i105, k106, (trivial)⟩
      · have c101 : ¬ (w87.toInt < v98.toInt) := c101
        exact ⟨rfl, ⟨w87, w89, w90, (Int64.ofNat 0), w90, rfl, (by omega), (by omega), (by omega), (by omega), (by omega), (by omega), (by omega), (by omega), i96, k97⟩, (by show ((49 - w90.toInt) * 1000 - 1000 + (100 - w90.toInt) + 1).toNat < ((49 - w90.toInt) * 1000).toNat; omega)⟩
    ·
      intro L s121 hL
      obtain ⟨w108, w110, w111, w114, w115, rfl, b109, b112, b113, b116, b117, b118, b119, x120, i122, k123⟩ := hL
      intro v124 e125
      have b126 := vg_add e125 (by omega) (by omega)
      refine And.intro (fun c127 => ?_) (fun c127 => ?_)
      · have c127 : v124.toInt ≤ w115.toInt := c127
        refine And.intro (Nat.le_of_ble_eq_true rfl) (And.intro ⟨w114, rfl, trivial⟩ ?_)
        intro v128 s130 h129
        have h129 : s130 = s121 ∧ (True) := h129
        have q133 := h129.1.symm
        subst q133
        refine And.intro (Nat.le_of_ble_eq_true rfl) (And.intro ⟨w110, v128, rfl, trivial⟩ ?_)
        intro v134 s136 h135
        have h135 : s136 = s121 ∧ (True) := h135
        have q139 := h135.1.symm
        subst q139
        intro v140 e141
        have b142 := vg_add e141 (by omega) (by omega)
        exact ⟨rfl, ⟨w108, v134, v140, rfl, (by omega), (by omega), (by omega), (by omega), (by omega), i122, k123⟩, (by show ((49 - v140.toInt) * 1000).toNat < ((49 - w111.toInt) * 1000 - 1000 + (100 - w115.toInt) + 1).toNat; omega)⟩
      · have c127 : ¬ (v124.toInt ≤ w115.toInt) := c127
        intro v143 e144
        have g145 : s121.1 55 9 = v143 := by rw [e144]
        intro v146 e147
        refine And.intro (Nat.le_of_ble_eq_true rfl) (And.intro ⟨55, (Int32.ofInt 1), w115, rfl, by decide, i122, by omega⟩ ?_)
        intro v148 s150 h149
        have h149 : s150 = s121 ∧ (True) := h149
        have q153 := h149.1.symm
        subst q153
        intro v154 e155
        intro v156 e157
        intro v158 e159
        have g160 : s121.1 55 10 = v158 := by rw [e159]
        have b161 : (2 : Int) ≤ v158.toInt ∧ v158.toInt ≤ 17 := by rw [e159]; exact Iv_55_10 i122
        intro v162 e163
        have b164 := vg_i2l e163
        intro v165 e166
        refine And.intro (Nat.le_of_ble_eq_true rfl) (And.intro ⟨55, rfl, by decide, i122⟩ ?_)
        intro v167 s169 h168
        have h168 : s169 = s121 ∧ (True) := h168
        have q172 := h168.1.symm
        subst q172
        intro v173 e174
        intro v175 e176
        intro v177 e178
        intro v179 e180
        refine And.intro (Nat.le_of_ble_eq_true rfl) (And.intro ⟨55, (Int32.ofInt 0), w115, rfl, by decide, i122, by omega⟩ ?_)
        intro v181 s183 h182
        have h182 : s183 = s121 ∧ (True) := h182
        have q186 := h182.1.symm
        subst q186
        intro v187 e188
        intro v189 e190
        intro v191 e192
        have b193 := vg_add e192 (by omega) (by omega)
        exact ⟨rfl, ⟨w108, w110, w111, v189, v191, rfl, (by omega), (by omega), (by omega), (by omega), (by omega), (by omega), (by omega), (by omega), i122, k123⟩, (by show ((49 - w111.toInt) * 1000 - 1000 + (100 - v191.toInt) + 1).toNat < ((49 - w111.toInt) * 1000 - 1000 + (100 - w115.toInt) + 1).toNat; omega)⟩
def o_X11_range : List vg_I := [(0, .iload_n 2, 1, 0, 0, 0, 0), (1, .iconst 0, 1, 0, 0, 0, 0), (2, .iconst 2, 1, 0, 0, 0, 0), (3, .invokestatic 76, 3, 0, 1, 3, 1175), (6, .ifCond .ne 10, 3, 0, 0, 0, 0), (9, .aload_n 0, 1, 0, 0, 0, 0), (10, .iconst 1, 1, 0, 0, 0, 0), (11, .invokevirtual 242, 3, 1, 11, 1, 1181), (14, .i2l, 1, 0, 0, 0, 0), (15, .lreturn, 1, 0, 0, 0, 0), (16, .iload_n 1, 1, 0, 0, 0, 0), (17, .invokestatic 261, 3, 2, 1, 1, 1265), (20, .ifCond .ne 10, 3, 0, 0, 0, 0), (23, .aload_n 0, 1, 0, 0, 0, 0), (24, .iconst 2, 1, 0, 0, 0, 0), (25, .invokevirtual 242, 3, 1, 11, 1, 1181), (28, .i2l, 1, 0, 0, 0, 0), (29, .lreturn, 1, 0, 0, 0, 0), (30, .aload_n 0, 1, 0, 0, 0, 0), (31, .iload_n 1, 1, 0, 0, 0, 0), (32, .invokevirtual 267, 3, 3, 11, 1, 1381), (35, .ifCond .ne 10, 3, 0, 0, 0, 0), (38, .aload_n 0, 1, 0, 0, 0, 0), (39, .iconst 5, 1, 0, 0, 0, 0), (40, .invokevirtual 242, 3, 1, 11, 1, 1181), (43, .i2l, 1, 0, 0, 0, 0), (44, .lreturn, 1, 0, 0, 0, 0), (45, .aload_n 0, 1, 0, 0, 0, 0), (46, .iload_n 1, 1, 0, 0, 0, 0), (47, .iconst 0, 1, 0, 0, 0, 0), (48, .invokevirtual 231, 3, 4, 11, 2, 1353), (51, .lstore_n 3, 1, 0, 0, 0, 0), (52, .lload_n 3, 1, 0, 0, 0, 0), (53, .lstore 5, 2, 0, 0, 0, 0), (55, .lconst 0, 1, 0, 0, 0, 0), (56, .lstore 7, 2, 0, 0, 0, 0), (58, .iconst 0, 1, 0, 0, 0, 0), (59, .istore 9, 2, 0, 0, 0, 0), (61, .iload 9, 2, 0, 0, 0, 0), (63, .aload_n 0, 1, 0, 0, 0, 0), (64, .iload_n 1, 1, 0, 0, 0, 0), (65, .invokevirtual 267, 3, 3, 11, 1, 1381), (68, .if_icmp .ge 47, 3, 0, 0, 0, 0), (71, .lload_n 3, 1, 0, 0, 0, 0), (72, .aload_n 0, 1, 0, 0, 0, 0), (73, .iload_n 1, 1, 0, 0, 0, 0), (74, .iload 9, 2, 0, 0, 0, 0), (76, .invokevirtual 231, 3, 4, 11, 2, 1353), (79, .invokestatic 173, 3, 5, 1, 2, 1342), (82, .lstore_n 3, 1, 0, 0, 0, 0), (83, .lload 5, 2, 0, 0, 0, 0), (85, .aload_n 0, 1, 0, 0, 0, 0), (86, .iload_n 1, 1, 0, 0, 0, 0), (87, .iload 9, 2, 0, 0, 0, 0), (89, .invokevirtual 231, 3, 4, 11, 2, 1353), (92, .invokestatic 176, 3, 6, 1, 2, 1327), (95, .lstore 5, 2, 0, 0, 0, 0), (97, .lload 7, 2, 0, 0, 0, 0), (99, .aload_n 0, 1, 0, 0, 0, 0), (100, .iload_n 1, 1, 0, 0, 0, 0), (101, .iload 9, 2, 0, 0, 0, 0), (103, .invokevirtual 231, 3, 4, 11, 2, 1353), (106, .ladd, 1, 0, 0, 0, 0), (107, .lstore 7, 2, 0, 0, 0, 0), (109, .iinc 9 1, 3, 0, 0, 0, 0), (112, .goto (-51), 3, 0, 0, 0, 0), (115, .aload_n 0, 1, 0, 0, 0, 0), (116, .iload_n 2, 1, 0, 0, 0, 0), (117, .ifCond .ne 7, 3, 0, 0, 0, 0), (120, .lload_n 3, 1, 0, 0, 0, 0), (121, .goto 15, 3, 0, 0, 0, 0), (124, .iload_n 2, 1, 0, 0, 0, 0), (125, .iconst 1, 1, 0, 0, 0, 0), (126, .if_icmp .ne 8, 3, 0, 0, 0, 0), (129, .lload 5, 2, 0, 0, 0, 0), (131, .goto 5, 3, 0, 0, 0, 0), (134, .lload 7, 2, 0, 0, 0, 0), (136, .invokevirtual 270, 3, 7, 11, 1, 1393), (139, .lreturn, 1, 0, 0, 0, 0)]
set_option maxRecDepth 100000 in
set_option maxHeartbeats 4000000 in
theorem c_X11_range (l : Launch) (G : vg_G) (hp : vg_Hp G) : vg_Ct l G vg_sh r_X11_range := by
  refine vg_meth hp vg_sh_ok r_X11_range k_X11_range rfl (fun h => by cases h) o_X11_range [r_X11_isFrom, r_X11_refuse, r_X11_isStage, r_X11_many, r_X11_latestOf, r_J9_min_f86c9, r_J9_max_f86c9, r_X11_givesLong] false (by decide +kernel) (by decide +kernel) ⟨_, _, rfl, rfl⟩ (List.forall_mem_cons.mpr ⟨⟨c_X11_isFrom l G hp, Nat.le_of_ble_eq_true rfl, Nat.le_of_ble_eq_true rfl⟩, List.forall_mem_cons.mpr ⟨⟨c_X11_refuse l G hp, Nat.le_of_ble_eq_true rfl, Nat.le_of_ble_eq_true rfl⟩, List.forall_mem_cons.mpr ⟨⟨c_X11_isStage l G hp, Nat.le_of_ble_eq_true rfl, Nat.le_of_ble_eq_true rfl⟩, List.forall_mem_cons.mpr ⟨⟨c_X11_many l G hp, Nat.le_of_ble_eq_true rfl, Nat.le_of_ble_eq_true rfl⟩, List.forall_mem_cons.mpr ⟨⟨c_X11_latestOf l G hp, Nat.le_of_ble_eq_true rfl, Nat.le_of_ble_eq_true rfl⟩, List.forall_mem_cons.mpr ⟨⟨c_J9_min_f86c9 l G hp, Nat.le_of_ble_eq_true rfl, Nat.le_of_ble_eq_true rfl⟩, List.forall_mem_cons.mpr ⟨⟨c_J9_max_f86c9 l G hp, Nat.le_of_ble_eq_true rfl, Nat.le_of_ble_eq_true rfl⟩, List.forall_mem_cons.mpr ⟨⟨c_X11_givesLong l G hp, Nat.le_of_ble_eq_true rfl, Nat.le_of_ble_eq_true rfl⟩, fun _ h => absurd h List.not_mem_nil⟩⟩⟩⟩⟩⟩⟩⟩) (fun h => by cases h) 600 ?_
  intro as s0 hpre
  obtain ⟨r, a1, a2, rfl, hr, i0⟩ := hpre
  simp only [List.mem_cons, List.not_mem_nil, or_false] at hr
  rcases hr with rfl
  ·
    have z0 : (Int32.ofInt 0).toInt = 0 := by decide
    have z1 : (Int32.ofInt 1).toInt = 1 := by decide
    have z2 : (Int32.ofInt 2).toInt = 2 := by decide
    have z5 : (Int32.ofInt 5).toInt = 5 := by decide
    refine ⟨Nat.le_of_ble_eq_true rfl, [(61, [true, true, true, true, false, true, false, true, false, true], (fun L t => ∃ (x3 : Int64) (x5 : Int64) (x7 : Int64) (x9 : Int32), L = [some (.ref 55), some (.int a1), some (.int a2), some (.long x3), none, some (.long x5), none, some (.long x7), none, some (.int x9)] ∧ (0 : Int) ≤ x9.toInt ∧ x9.toInt ≤ (48 : Int) ∧ (0 : Int) ≤ a1.toInt ∧ a1.toInt ≤ (6 : Int) ∧ (0 : Int) ≤ a2.toInt ∧ a2.toInt ≤ (2 : Int) ∧ Iv t ∧ Kp s0 t), (fun L _ => (0 + (48 - (vg_li L 9).toInt) * 1000000000000).toNat))], ?_, List.forall_mem_cons.mpr ⟨?_, fun _ h => absurd h List.not_mem_nil⟩⟩
    ·
      refine And.intro (Nat.le_of_ble_eq_true rfl) (And.intro ⟨a2, (Int32.ofInt 0), (Int32.ofInt 2), rfl, trivial⟩ ?_)
      intro v1 s3 h2
      have h2 : s3 = s0 ∧ ((v1.toInt = 1 ∧ (Int32.ofInt 0).toInt ≤ a2.toInt ∧ a2.toInt ≤ (Int32.ofInt 2).toInt) ∨ (v1.toInt = 0 ∧ (a2.toInt < (Int32.ofInt 0).toInt ∨ (Int32.ofInt 2).toInt < a2.toInt))) := h2
      have q6 := h2.1.symm
      subst q6
      have q7 := h2.2
      refine And.intro (fun c8 => ?_) (fun c8 => ?_)
      · have c8 : ¬ v1.toInt = 0 := c8
        refine And.intro (Nat.le_of_ble_eq_true rfl) (And.intro ⟨a1, rfl, trivial⟩ ?_)
        intro v9 s11 h10
        have h10 : s11 = s0 ∧ ((v9.toInt = 1 ∧ 0 ≤ a1.toInt ∧ a1.toInt ≤ 6) ∨ (v9.toInt = 0 ∧ (a1.toInt < 0 ∨ 6 < a1.toInt))) := h10
        have q14 := h10.1.symm
        subst q14
        have q15 := h10.2
        refine And.intro (fun c16 => ?_) (fun c16 => ?_)
        · have c16 : ¬ v9.toInt = 0 := c16
          refine And.intro (Nat.le_of_ble_eq_true rfl) (And.intro ⟨55, a1, rfl, by decide, i0, by omega⟩ ?_)
          intro v17 s19 h18
          have h18 : s19 = s0 ∧ (v17.toInt ≤ 48) := h18
          have q22 := h18.1.symm
          subst q22
          have q23 := h18.2
          refine And.intro (fun c24 => ?_) (fun c24 => ?_)
          · have c24 : ¬ v17.toInt = 0 := c24
            refine And.intro (Nat.le_of_ble_eq_true rfl) (And.intro ⟨55, a1, (Int32.ofInt 0), rfl, by decide, i0, by omega⟩ ?_)
            intro v25 s27 h26
            have h26 : s27 = s0 ∧ (True) := h26
            have q30 := h26.1.symm
            subst q30
            exact ⟨rfl, ⟨v25, v25, (Int64.ofNat 0), (Int32.ofInt 0), rfl, (by omega), (by omega), (by omega), (by omega), (by omega), (by omega), i0, Kx.rf⟩, trivial⟩
          · have c24 : ¬ (¬ v17.toInt = 0) := c24
            refine And.intro (Nat.le_of_ble_eq_true rfl) (And.intro ⟨55, (Int32.ofInt 5), rfl, by decide, i0⟩ ?_)
            intro v31 s33 h32
            have h32 : Iv s33 ∧ Kp s0 s33 ∧ (v31.toInt = -1) := h32
            have i34 := h32.1
            have k35 : Kp s0 s33 := Kx.tr Kx.rf (h32.2.1)
            have q36 := h32.2.2
            intro v37 e38
            show Iv s33 ∧ Kp s0 s33 ∧ (True)
            exact ⟨i34, k35, (trivial)⟩
        · have c16 : ¬ (¬ v9.toInt = 0) := c16
          refine And.intro (Nat.le_of_ble_eq_true rfl) (And.intro ⟨55, (Int32.ofInt 2), rfl, by decide, i0⟩ ?_)
          intro v39 s41 h40
          have h40 : Iv s41 ∧ Kp s0 s41 ∧ (v39.toInt = -1) := h40
          have i42 := h40.1
          have k43 : Kp s0 s41 := Kx.tr Kx.rf (h40.2.1)
          have q44 := h40.2.2
          intro v45 e46
          show Iv s41 ∧ Kp s0 s41 ∧ (True)
          exact ⟨i42, k43, (trivial)⟩
      · have c8 : ¬ (¬ v1.toInt = 0) := c8
        refine And.intro (Nat.le_of_ble_eq_true rfl) (And.intro ⟨55, (Int32.ofInt 1), rfl, by decide, i0⟩ ?_)
        intro v47 s49 h48
        have h48 : Iv s49 ∧ Kp s0 s49 ∧ (v47.toInt = -1) := h48
        have i50 := h48.1
        have k51 : Kp s0 s49 := Kx.tr Kx.rf (h48.2.1)
        have q52 := h48.2.2
        intro v53 e54
        show Iv s49 ∧ Kp s0 s49 ∧ (True)
        exact ⟨i50, k51, (trivial)⟩
    ·
      intro L s65 hL
      obtain ⟨w55, w56, w57, w58, rfl, b59, b60, b61, b62, b63, b64, i66, k67⟩ := hL
      refine And.intro (Nat.le_of_ble_eq_true rfl) (And.intro ⟨55, a1, rfl, by decide, i66, by omega⟩ ?_)
      intro v68 s70 h69
      have h69 : s70 = s65 ∧ (v68.toInt ≤ 48) := h69
      have q73 := h69.1.symm
      subst q73
      have q74 := h69.2
      refine And.intro (fun c75 => ?_) (fun c75 => ?_)
      · have c75 : v68.toInt ≤ w58.toInt := c75
        refine And.intro (fun c76 => ?_) (fun c76 => ?_)
        · have c76 : ¬ a2.toInt = 0 := c76
          refine And.intro (fun c77 => ?_) (fun c77 => ?_)
          · have c77 : ¬ a2.toInt = (Int32.ofInt 1).toInt := c77
            refine And.intro (Nat.le_of_ble_eq_true rfl) (And.intro ⟨55, w57, rfl, by decide, i66⟩ ?_)
            intro v78 s80 h79
            have h79 : Iv s80 ∧ Kp s65 s80 ∧ (v78 = w57) := h79
            have i81 := h79.1
            have k82 : Kp s0 s80 := Kx.tr k67 (h79.2.1)
            have q83 := h79.2.2
            show Iv s80 ∧ Kp s0 s80 ∧ (True)
            exact ⟨i81, k82, (trivial)⟩
          · have c77 : ¬ (¬ a2.toInt = (Int32.ofInt 1).toInt) := c77
            refine And.intro (Nat.le_of_ble_eq_true rfl) (And.intro ⟨55, w56, rfl, by decide, i66⟩ ?_)
            intro v84 s86 h85
            have h85 : Iv s86 ∧ Kp s65 s86 ∧ (v84 = w56) := h85
            have i87 := h85.1
            have k88 : Kp s0 s86 := Kx.tr k67 (h85.2.1)
            have q89 := h85.2.2
            show Iv s86 ∧ Kp s0 s86 ∧ (True)
            exact ⟨i87, k88, (trivial)⟩
        · have c76 : ¬ (¬ a2.toInt = 0) := c76
          refine And.intro (Nat.le_of_ble_eq_true rfl) (And.intro ⟨55, w55, rfl, by decide, i66⟩ ?_)
          intro v90 s92 h91
          have h91 : Iv s92 ∧ Kp s65 s92 ∧ (v90 = w55) := h91
          have i93 := h91.1
          have k94 : Kp s0 s92 := Kx.tr k67 (h91.2.1)
          have q95 := h91.2.2
          show Iv s92 ∧ Kp s0 s92 ∧ (True)
          exact ⟨i93, k94, (trivial)⟩
      · have c75 : ¬ (v68.toInt ≤ w58.toInt) := c75
        refine And.intro (Nat.le_of_ble_eq_true rfl) (And.intro ⟨55, a1, w58, rfl, by decide, i66, by omega⟩ ?_)
        intro v96 s98 h97
        have h97 : s98 = s65 ∧ (True) := h97
        have q101 := h97.1.symm
        subst q101
        refine And.intro (Nat.le_of_ble_eq_true rfl) (And.intro ⟨w55, v96, rfl, trivial⟩ ?_)
        intro v102 s104 h103
        have h103 : s104 = s65 ∧ (True) := h103
        have q107 := h103.1.symm
        subst q107
        refine And.intro (Nat.le_of_ble_eq_true rfl) (And.intro ⟨55, a1, w58, rfl, by decide, i66, by omega⟩ ?_)
        intro v108 s110 h109
        have h109 : s110 = s65 ∧ (True) := h109
        have q113 := h109.1.symm
        subst q113
        refine And.intro (Nat.le_of_ble_eq_true rfl) (And.intro ⟨w56, v108, rfl, trivial⟩ ?_)
        intro v114 s116 h115
        have h115 : s116 = s65 ∧ (True) := h115
        have q119 := h115.1.symm
        subst q119
        refine And.intro (Nat.le_of_ble_eq_true rfl) (And.intro ⟨55, a1, w58, rfl, by decide, i66, by omega⟩ ?_)
        intro v120 s122 h121
        have h121 : s122 = s65 ∧ (True) := h121
        have q125 := h121.1.symm
        subst q125
        intro v126 e127
        intro v128 e129
        have b130 := vg_add e129 (by omega) (by omega)
        exact ⟨rfl, ⟨v102, v114, v126, v128, rfl, (by omega), (by omega), (by omega), (by omega), (by omega), (by omega), i66, k67⟩, (by show (0 + (48 - v128.toInt) * 1000000000000).toNat < (0 + (48 - w58.toInt) * 1000000000000).toNat; omega)⟩
def o_X11_steady : List vg_I := [(0, .iload_n 2, 1, 0, 0, 0, 0), (1, .iconst 0, 1, 0, 0, 0, 0), (2, .sipush 30000, 3, 0, 0, 0, 0), (5, .invokestatic 76, 3, 0, 1, 3, 1175), (8, .ifCond .ne 9, 3, 0, 0, 0, 0), (11, .aload_n 0, 1, 0, 0, 0, 0), (12, .iconst 1, 1, 0, 0, 0, 0), (13, .invokevirtual 242, 3, 1, 11, 1, 1181), (16, .ireturn, 1, 0, 0, 0, 0), (17, .iload_n 1, 1, 0, 0, 0, 0), (18, .invokestatic 261, 3, 2, 1, 1, 1265), (21, .ifCond .ne 9, 3, 0, 0, 0, 0), (24, .aload_n 0, 1, 0, 0, 0, 0), (25, .iconst 2, 1, 0, 0, 0, 0), (26, .invokevirtual 242, 3, 1, 11, 1, 1181), (29, .ireturn, 1, 0, 0, 0, 0), (30, .aload_n 0, 1, 0, 0, 0, 0), (31, .iload_n 1, 1, 0, 0, 0, 0), (32, .invokevirtual 267, 3, 3, 11, 1, 1381), (35, .ifCond .ne 9, 3, 0, 0, 0, 0), (38, .aload_n 0, 1, 0, 0, 0, 0), (39, .iconst 5, 1, 0, 0, 0, 0), (40, .invokevirtual 242, 3, 1, 11, 1, 1181), (43, .ireturn, 1, 0, 0, 0, 0), (44, .iconst 0, 1, 0, 0, 0, 0), (45, .istore_n 3, 1, 0, 0, 0, 0), (46, .iload_n 3, 1, 0, 0, 0, 0), (47, .aload_n 0, 1, 0, 0, 0, 0), (48, .iload_n 1, 1, 0, 0, 0, 0), (49, .invokevirtual 267, 3, 3, 11, 1, 1381), (52, .if_icmp .ge 31, 3, 0, 0, 0, 0), (55, .aload_n 0, 1, 0, 0, 0, 0), (56, .iload_n 1, 1, 0, 0, 0, 0), (57, .iload_n 3, 1, 0, 0, 0, 0), (58, .invokevirtual 231, 3, 4, 11, 2, 1353), (61, .aload_n 0, 1, 0, 0, 0, 0), (62, .iload_n 1, 1, 0, 0, 0, 0), (63, .iconst 0, 1, 0, 0, 0, 0), (64, .invokevirtual 231, 3, 4, 11, 2, 1353), (67, .lsub, 1, 0, 0, 0, 0), (68, .invokestatic 216, 3, 5, 1, 1, 1326), (71, .iload_n 2, 1, 0, 0, 0, 0), (72, .i2l, 1, 0, 0, 0, 0), (73, .lcmp, 1, 0, 0, 0, 0), (74, .ifCond .gt 9, 3, 0, 0, 0, 0), (77, .iinc 3 1, 3, 0, 0, 0, 0), (80, .goto (-34), 3, 0, 0, 0, 0), (83, .aload_n 0, 1, 0, 0, 0, 0), (84, .iload_n 3, 1, 0, 0, 0, 0), (85, .invokevirtual 249, 3, 6, 11, 1, 1206), (88, .ireturn, 1, 0, 0, 0, 0)]
set_option maxRecDepth 100000 in
set_option maxHeartbeats 4000000 in
theorem c_X11_steady (l : Launch) (G : vg_G) (hp : vg_Hp G) : vg_Ct l G vg_sh r_X11_steady := by
  refine vg_meth hp vg_sh_ok r_X11_steady k_X11_steady rfl (fun h => by cases h) o_X11_steady [r_X11_isFrom, r_X11_refuse, r_X11_isStage, r_X11_many, r_X11_latestOf, r_J9_abs_067f4, r_X11_gives] false (by decide +kernel) (by decide +kernel) ⟨_, _, rfl, rfl⟩ (List.forall_mem_cons.mpr ⟨⟨c_X11_isFrom l G hp, Nat.le_of_ble_eq_true rfl, Nat.le_of_ble_eq_true rfl⟩, List.forall_mem_cons.mpr ⟨⟨c_X11_refuse l G hp, Nat.le_of_ble_eq_true rfl, Nat.le_of_ble_eq_true rfl⟩, List.forall_mem_cons.mpr ⟨⟨c_X11_isStage l G hp, Nat.le_of_ble_eq_true rfl, Nat.le_of_ble_eq_true rfl⟩, List.forall_mem_cons.mpr ⟨⟨c_X11_many l G hp, Nat.le_of_ble_eq_true rfl, Nat.le_of_ble_eq_true rfl⟩, List.forall_mem_cons.mpr ⟨⟨c_X11_latestOf l G hp, Nat.le_of_ble_eq_true rfl, Nat.le_of_ble_eq_true rfl⟩, List.forall_mem_cons.mpr ⟨⟨c_J9_abs_067f4 l G hp, Nat.le_of_ble_eq_true rfl, Nat.le_of_ble_eq_true rfl⟩, List.forall_mem_cons.mpr ⟨⟨c_X11_gives l G hp, Nat.le_of_ble_eq_true rfl, Nat.le_of_ble_eq_true rfl⟩, fun _ h => absurd h List.not_mem_nil⟩⟩⟩⟩⟩⟩⟩) (fun h => by cases h) 600 ?_
  intro as s0 hpre
  obtain ⟨r, a1, a2, rfl, hr, i0⟩ := hpre
  simp only [List.mem_cons, List.not_mem_nil, or_false] at hr
  rcases hr with rfl
  ·
    have z0 : (Int32.ofInt 0).toInt = 0 := by decide
    have z1 : (Int32.ofInt 1).toInt = 1 := by decide
    have z2 : (Int32.ofInt 2).toInt = 2 := by decide
    have z5 : (Int32.ofInt 5).toInt = 5 := by decide
    have z30000 : (Int32.ofInt 30000).toInt = 30000 := by decide
    refine ⟨Nat.le_of_ble_eq_true rfl, [(46, [true, true, true, true], (fun L t => ∃ (x3 : Int32), L = [some (.ref 55), some (.int a1), some (.int a2), some (.int x3)] ∧ (0 : Int) ≤ x3.toInt ∧ x3.toInt ≤ (48 : Int) ∧ (0 : Int) ≤ a1.toInt ∧ a1.toInt ≤ (6 : Int) ∧ (0 : Int) ≤ a2.toInt ∧ a2.toInt ≤ (30000 : Int) ∧ Iv t ∧ Kp s0 t), (fun L _ => (0 + (48 - (vg_li L 3).toInt) * 1000000000000).toNat))], ?_, List.forall_mem_cons.mpr ⟨?_, fun _ h => absurd h List.not_mem_nil⟩⟩
    ·
      refine And.intro (Nat.le_of_ble_eq_true rfl) (And.intro ⟨a2, (Int32.ofInt 0), (Int32.ofInt 30000), rfl, trivial⟩ ?_)
      intro v1 s3 h2
      have h2 : s3 = s0 ∧ ((v1.toInt = 1 ∧ (Int32.ofInt 0).toInt ≤ a2.toInt ∧ a2.toInt ≤ (Int32.ofInt 30000).toInt) ∨ (v1.toInt = 0 ∧ (a2.toInt < (Int32.ofInt 0).toInt ∨ (Int32.ofInt 30000).toInt < a2.toInt))) := h2
      have q6 := h2.1.symm
      subst q6
      have q7 := h2.2
      refine And.intro (fun c8 => ?_) (fun c8 => ?_)
      · have c8 : ¬ v1.toInt = 0 := c8
        refine And.intro (Nat.le_of_ble_eq_true rfl) (And.intro ⟨a1, rfl, trivial⟩ ?_)
        intro v9 s11 h10
        have h10 : s11 = s0 ∧ ((v9.toInt = 1 ∧ 0 ≤ a1.toInt ∧ a1.toInt ≤ 6) ∨ (v9.toInt = 0 ∧ (a1.toInt < 0 ∨ 6 < a1.toInt))) := h10
        have q14 := h10.1.symm
        subst q14
        have q15 := h10.2
        refine And.intro (fun c16 => ?_) (fun c16 => ?_)
        · have c16 : ¬ v9.toInt = 0 := c16
          refine And.intro (Nat.le_of_ble_eq_true rfl) (And.intro ⟨55, a1, rfl, by decide, i0, by omega⟩ ?_)
          intro v17 s19 h18
          have h18 : s19 = s0 ∧ (v17.toInt ≤ 48) := h18
          have q22 := h18.1.symm
          subst q22
          have q23 := h18.2
          refine And.intro (fun c24 => ?_) (fun c24 => ?_)
          · have c24 : ¬ v17.toInt = 0 := c24
            exact ⟨rfl, ⟨(Int32.ofInt 0), rfl, (by omega), (by omega), (by omega), (by omega), (by omega), (by omega), i0, Kx.rf⟩, trivial⟩
          · have c24 : ¬ (¬ v17.toInt = 0) := c24
            refine And.intro (Nat.le_of_ble_eq_true rfl) (And.intro ⟨55, (Int32.ofInt 5), rfl, by decide, i0⟩ ?_)
            intro v25 s27 h26
            have h26 : Iv s27 ∧ Kp s0 s27 ∧ (v25.toInt = -1) := h26
            have i28 := h26.1
            have k29 : Kp s0 s27 := Kx.tr Kx.rf (h26.2.1)
            have q30 := h26.2.2
            show Iv s27 ∧ Kp s0 s27 ∧ (True)
            exact ⟨i28, k29, (trivial)⟩
        · have c16 : ¬ (¬ v9.toInt = 0) := c16
          refine And.intro (Nat.le_of_ble_eq_true rfl) (And.intro ⟨55, (Int32.ofInt 2), rfl, by decide, i0⟩ ?_)
          intro v31 s33 h32
          have h32 : Iv s33 ∧ Kp s0 s33 ∧ (v31.toInt = -1) := h32
          have i34 := h32.1
          have k35 : Kp s0 s33 := Kx.tr Kx.rf (h32.2.1)
          have q36 := h32.2.2
          show Iv s33 ∧ Kp s0 s33 ∧ (True)
          exact ⟨i34, k35, (trivial)⟩
      · have c8 : ¬ (¬ v1.toInt = 0) := c8
        refine And.intro (Nat.le_of_ble_eq_true rfl) (And.intro ⟨55, (Int32.ofInt 1), rfl, by decide, i0⟩ ?_)
        intro v37 s39 h38
        have h38 : Iv s39 ∧ Kp s0 s39 ∧ (v37.toInt = -1) := h38
        have i40 := h38.1
        have k41 : Kp s0 s39 := Kx.tr Kx.rf (h38.2.1)
        have q42 := h38.2.2
        show Iv s39 ∧ Kp s0 s39 ∧ (True)
        exact ⟨i40, k41, (trivial)⟩
    ·
      intro L s50 hL
      obtain ⟨w43, rfl, b44, b45, b46, b47, b48, b49, i51, k52⟩ := hL
      refine And.intro (Nat.le_of_ble_eq_true rfl) (And.intro ⟨55, a1, rfl, by decide, i51, by omega⟩ ?_)
      intro v53 s55 h54
      have h54 : s55 = s50 ∧ (v53.toInt ≤ 48) := h54
      have q58 := h54.1.symm
      subst q58
      have q59 := h54.2
      refine And.intro (fun c60 => ?_) (fun c60 => ?_)
      · have c60 : v53.toInt ≤ w43.toInt := c60
        refine And.intro (Nat.le_of_ble_eq_true rfl) (And.intro ⟨55, w43, rfl, by decide, i51⟩ ?_)
        intro v61 s63 h62
        have h62 : Iv s63 ∧ Kp s50 s63 ∧ (v61 = w43 ∧ v61.toInt = w43.toInt) := h62
        have i64 := h62.1
        have k65 : Kp s0 s63 := Kx.tr k52 (h62.2.1)
        have q66 := h62.2.2
        show Iv s63 ∧ Kp s0 s63 ∧ (True)
        exact ⟨i64, k65, (trivial)⟩
      · have c60 : ¬ (v53.toInt ≤ w43.toInt) := c60
        refine And.intro (Nat.le_of_ble_eq_true rfl) (And.intro ⟨55, a1, w43, rfl, by decide, i51, by omega⟩ ?_)
        intro v67 s69 h68
        have h68 : s69 = s50 ∧ (True) := h68
        have q72 := h68.1.symm
        subst q72
        refine And.intro (Nat.le_of_ble_eq_true rfl) (And.intro ⟨55, a1, (Int32.ofInt 0), rfl, by decide, i51, by omega⟩ ?_)
        intro v73 s75 h74
        have h74 : s75 = s50 ∧ (True) := h74
        have q78 := h74.1.symm
        subst q78
        intro v79 e80
        refine And.intro (Nat.le_of_ble_eq_true rfl) (And.intro ⟨v79, rfl, trivial⟩ ?_)
        intro v81 s83 h82
        have h82 : s83 = s50 ∧ (True) := h82
        have q86 := h82.1.symm
        subst q86
        intro v87 e88
        have b89 := vg_i2l e88
        intro v90 e91
        refine And.intro (fun c92 => ?_) (fun c92 => ?_)
        · have c92 : 0 < v90.toInt := c92
          refine And.intro (Nat.le_of_ble_eq_true rfl) (And.intro ⟨55, w43, rfl, by decide, i51⟩ ?_)
          intro v93 s95 h94
          have h94 : Iv s95 ∧ Kp s50 s95 ∧ (v93 = w43 ∧ v93.toInt = w43.toInt) := h94
          have i96 := h94.1
          have k97 : Kp s0 s95 := Kx.tr k52 (h94.2.1)
          have q98 := h94.2.2
          show Iv s95 ∧ Kp s0 s95 ∧ (True)
          exact ⟨i96, k97, (trivial)⟩
        · have c92 : ¬ (0 < v90.toInt) := c92
          intro v99 e100
          have b101 := vg_add e100 (by omega) (by omega)
          exact ⟨rfl, ⟨v99, rfl, (by omega), (by omega), (by omega), (by omega), (by omega), (by omega), i51, k52⟩, (by show (0 + (48 - v99.toInt) * 1000000000000).toNat < (0 + (48 - w43.toInt) * 1000000000000).toNat; omega)⟩
def o_X11_response : List vg_I := [(0, .iload_n 1, 1, 0, 0, 0, 0), (1, .ifCond .ge 9, 3, 0, 0, 0, 0), (4, .aload_n 0, 1, 0, 0, 0, 0), (5, .iconst 1, 1, 0, 0, 0, 0), (6, .invokevirtual 242, 3, 0, 11, 1, 1181), (9, .ireturn, 1, 0, 0, 0, 0), (10, .iconst 1, 1, 0, 0, 0, 0), (11, .istore_n 2, 1, 0, 0, 0, 0), (12, .aload_n 0, 1, 0, 0, 0, 0), (13, .getfield 55, 3, 1087, 11, 26, 0), (16, .iconst 0, 1, 0, 0, 0, 0), (17, .iconst 1, 1, 0, 0, 0, 0), (18, .iastore, 1, 0, 0, 0, 0), (19, .iconst 0, 1, 0, 0, 0, 0), (20, .istore_n 3, 1, 0, 0, 0, 0), (21, .iload_n 3, 1, 0, 0, 0, 0), (22, .aload_n 0, 1, 0, 0, 0, 0), (23, .getfield 33, 3, 1077, 11, 16, 0), (26, .if_icmp .ge 134, 3, 0, 0, 0, 0), (29, .iconst 0, 1, 0, 0, 0, 0), (30, .istore 4, 2, 0, 0, 0, 0), (32, .iload 4, 2, 0, 0, 0, 0), (34, .iload_n 2, 1, 0, 0, 0, 0), (35, .aload_n 0, 1, 0, 0, 0, 0), (36, .getfield 36, 3, 1078, 11, 17, 0), (39, .iadd, 1, 0, 0, 0, 0), (40, .iconst 1, 1, 0, 0, 0, 0), (41, .isub, 1, 0, 0, 0, 0), (42, .if_icmp .ge 74, 3, 0, 0, 0, 0), (45, .aload_n 0, 1, 0, 0, 0, 0), (46, .getfield 58, 3, 1088, 11, 27, 0), (49, .iload 4, 2, 0, 0, 0, 0), (51, .iconst 0, 1, 0, 0, 0, 0), (52, .iastore, 1, 0, 0, 0, 0), (53, .iconst 0, 1, 0, 0, 0, 0), (54, .istore 5, 2, 0, 0, 0, 0), (56, .iload 5, 2, 0, 0, 0, 0), (58, .aload_n 0, 1, 0, 0, 0, 0), (59, .getfield 36, 3, 1078, 11, 17, 0), (62, .if_icmp .ge 48, 3, 0, 0, 0, 0), (65, .aload_n 0, 1, 0, 0, 0, 0), (66, .getfield 58, 3, 1088, 11, 27, 0), (69, .iload 4, 2, 0, 0, 0, 0), (71, .dup2, 1, 0, 0, 0, 0), (72, .iaload, 1, 0, 0, 0, 0), (73, .iload 4, 2, 0, 0, 0, 0), (75, .iload 5, 2, 0, 0, 0, 0), (77, .isub, 1, 0, 0, 0, 0), (78, .iconst 0, 1, 0, 0, 0, 0), (79, .iload_n 2, 1, 0, 0, 0, 0), (80, .iconst 1, 1, 0, 0, 0, 0), (81, .isub, 1, 0, 0, 0, 0), (82, .invokestatic 76, 3, 1, 1, 3, 1175), (85, .ifCond .eq 16, 3, 0, 0, 0, 0), (88, .aload_n 0, 1, 0, 0, 0, 0), (89, .getfield 55, 3, 1087, 11, 26, 0), (92, .iload 4, 2, 0, 0, 0, 0), (94, .iload 5, 2, 0, 0, 0, 0), (96, .isub, 1, 0, 0, 0, 0), (97, .iaload, 1, 0, 0, 0, 0), (98, .goto 4, 3, 0, 0, 0, 0), (101, .iconst 0, 1, 0, 0, 0, 0), (102, .iadd, 1, 0, 0, 0, 0), (103, .iastore, 1, 0, 0, 0, 0), (104, .iinc 5 1, 3, 0, 0, 0, 0), (107, .goto (-51), 3, 0, 0, 0, 0), (110, .iinc 4 1, 3, 0, 0, 0, 0), (113, .goto (-81), 3, 0, 0, 0, 0), (116, .iload_n 2, 1, 0, 0, 0, 0), (117, .aload_n 0, 1, 0, 0, 0, 0), (118, .getfield 36, 3, 1078, 11, 17, 0), (121, .iconst 1, 1, 0, 0, 0, 0), (122, .isub, 1, 0, 0, 0, 0), (123, .iadd, 1, 0, 0, 0, 0), (124, .istore_n 2, 1, 0, 0, 0, 0), (125, .iconst 0, 1, 0, 0, 0, 0), (126, .istore 4, 2, 0, 0, 0, 0), (128, .iload 4, 2, 0, 0, 0, 0), (130, .iload_n 2, 1, 0, 0, 0, 0), (131, .if_icmp .ge 23, 3, 0, 0, 0, 0), (134, .aload_n 0, 1, 0, 0, 0, 0), (135, .getfield 55, 3, 1087, 11, 26, 0), (138, .iload 4, 2, 0, 0, 0, 0), (140, .aload_n 0, 1, 0, 0, 0, 0), (141, .getfield 58, 3, 1088, 11, 27, 0), (144, .iload 4, 2, 0, 0, 0, 0), (146, .iaload, 1, 0, 0, 0, 0), (147, .iastore, 1, 0, 0, 0, 0), (148, .iinc 4 1, 3, 0, 0, 0, 0), (151, .goto (-23), 3, 0, 0, 0, 0), (154, .iinc 3 1, 3, 0, 0, 0, 0), (157, .goto (-136), 3, 0, 0, 0, 0), (160, .iload_n 1, 1, 0, 0, 0, 0), (161, .iload_n 2, 1, 0, 0, 0, 0), (162, .if_icmp .ge 16, 3, 0, 0, 0, 0), (165, .aload_n 0, 1, 0, 0, 0, 0), (166, .aload_n 0, 1, 0, 0, 0, 0), (167, .getfield 55, 3, 1087, 11, 26, 0), (170, .iload_n 1, 1, 0, 0, 0, 0), (171, .iaload, 1, 0, 0, 0, 0), (172, .invokevirtual 249, 3, 2, 11, 1, 1206), (175, .goto 8, 3, 0, 0, 0, 0), (178, .aload_n 0, 1, 0, 0, 0, 0), (179, .iconst 5, 1, 0, 0, 0, 0), (180, .invokevirtual 242, 3, 0, 11, 1, 1181), (183, .ireturn, 1, 0, 0, 0, 0)]
set_option maxRecDepth 100000 in
set_option maxHeartbeats 4000000 in
theorem c_X11_response (l : Launch) (G : vg_G) (hp : vg_Hp G) : vg_Ct l G vg_sh r_X11_response := by
  refine vg_meth hp vg_sh_ok r_X11_response k_X11_response rfl (fun h => by cases h) o_X11_response [r_X11_refuse, r_X11_isFrom, r_X11_gives] false (by decide +kernel) (by decide +kernel) ⟨_, _, rfl, rfl⟩ (List.forall_mem_cons.mpr ⟨⟨c_X11_refuse l G hp, Nat.le_of_ble_eq_true rfl, Nat.le_of_ble_eq_true rfl⟩, List.forall_mem_cons.mpr ⟨⟨c_X11_isFrom l G hp, Nat.le_of_ble_eq_true rfl, Nat.le_of_ble_eq_true rfl⟩, List.forall_mem_cons.mpr ⟨⟨c_X11_gives l G hp, Nat.le_of_ble_eq_true rfl, Nat.le_of_ble_eq_true rfl⟩, fun _ h => absurd h List.not_mem_nil⟩⟩⟩) (fun h => by cases h) 600 ?_
  intro as s0 hpre
  obtain ⟨r, a1, rfl, hr, i0⟩ := hpre
  simp only [List.mem_cons, List.not_mem_nil, or_false] at hr
  rcases hr with rfl
  ·
    have z0 : (Int32.ofInt 0).toInt = 0 := by decide
    have z1 : (Int32.ofInt 1).toInt = 1 := by decide
    have z5 : (Int32.ofInt 5).toInt = 5 := by decide
    refine ⟨Nat.le_of_ble_eq_true rfl, [(21, [true, true, true, true, false, false], (fun L t => ∃ (x2 : Int32) (x3 : Int32), L = [some (.ref 55), some (.int a1), some (.int x2), some (.int x3), none, none] ∧ (0 : Int) ≤ x3.toInt ∧ x3.toInt ≤ (5 : Int) ∧ (0 : Int) ≤ a1.toInt ∧ (1 ≤ x2.toInt ∧ x2.toInt ≤ 1 + 15 * x3.toInt ∧ x2.toInt = vg_mn (s0.1 55 17).toInt x3.toNatClampNeg ∧ x3.toInt ≤ (s0.1 55 16).toInt ∧ vg_rA (s0.1 55 17).toNatClampNeg t x3.toNatClampNeg x2.toInt) ∧ Iv t ∧ Kp s0 t), (fun L _ => ((5 - (vg_li L 3).toInt) * 10000000).toNat)), (32, [true, true, true, true, true, false], (fun L t => ∃ (x2 : Int32) (x3 : Int32) (x4 : Int32), L = [some (.ref 55), some (.int a1), some (.int x2), some (.int x3), some (.int x4), none] ∧ (1 : Int) ≤ x2.toInt ∧ x2.toInt ≤ (61 : Int) ∧ (0 : Int) ≤ x3.toInt ∧ x3.toInt ≤ (4 : Int) ∧ (0 : Int) ≤ x4.toInt ∧ x4.toInt ≤ (76 : Int) ∧ (0 : Int) ≤ a1.toInt ∧ (1 ≤ x2.toInt ∧ x2.toInt ≤ 1 + 15 * x3.toInt ∧ x2.toInt = vg_mn (s0.1 55 17).toInt x3.toNatClampNeg ∧ x3.toInt < (s0.1 55 16).toInt ∧ vg_rA (s0.1 55 17).toNatClampNeg t x3.toNatClampNeg x2.toInt ∧ vg_rB (s0.1 55 17).toNatClampNeg t (x3.toNatClampNeg + 1) x4.toInt ∧ x4.toInt ≤ x2.toInt + (s0.1 55 17).toInt - 1) ∧ Iv t ∧ Kp s0 t), (fun L _ => ((5 - (vg_li L 3).toInt) * 10000000 - 10000000 + 5000000 + (76 - (vg_li L 4).toInt) * 100 + 1).toNat)), (128, [true, true, true, true, true, false], (fun L t => ∃ (x2 : Int32) (x3 : Int32) (x4 : Int32), L = [some (.ref 55), some (.int a1), some (.int x2), some (.int x3), some (.int x4), none] ∧ (1 : Int) ≤ x2.toInt ∧ x2.toInt ≤ (76 : Int) ∧ (0 : Int) ≤ x3.toInt ∧ x3.toInt ≤ (4 : Int) ∧ (0 : Int) ≤ x4.toInt ∧ x4.toInt ≤ (76 : Int) ∧ (0 : Int) ≤ a1.toInt ∧ (1 ≤ x2.toInt ∧ x2.toInt ≤ 1 + 15 * (x3.toInt + 1) ∧ x2.toInt = vg_mn (s0.1 55 17).toInt (x3.toNatClampNeg + 1) ∧ x3.toInt < (s0.1 55 16).toInt ∧ vg_rB (s0.1 55 17).toNatClampNeg t (x3.toNatClampNeg + 1) x2.toInt ∧ vg_rA (s0.1 55 17).toNatClampNeg t (x3.toNatClampNeg + 1) x4.toInt ∧ x4.toInt ≤ x2.toInt) ∧ Iv t ∧ Kp s0 t), (fun L _ => ((5 - (vg_li L 3).toInt) * 10000000 - 10000000 + (76 - (vg_li L 4).toInt) + 1).toNat)), (56, [true, true, true, true, true, true], (fun L t => ∃ (x2 : Int32) (x3 : Int32) (x4 : Int32) (x5 : Int32), L = [some (.ref 55), some (.int a1), some (.int x2), some (.int x3), some (.int x4), some (.int x5)] ∧ (1 : Int) ≤ x2.toInt ∧ x2.toInt ≤ (61 : Int) ∧ (0 : Int) ≤ x3.toInt ∧ x3.toInt ≤ (4 : Int) ∧ (0 : Int) ≤ x4.toInt ∧ x4.toInt ≤ (75 : Int) ∧ (0 : Int) ≤ x5.toInt ∧ x5.toInt ≤ (16 : Int) ∧ (0 : Int) ≤ a1.toInt ∧ (1 ≤ x2.toInt ∧ x2.toInt ≤ 1 + 15 * x3.toInt ∧ x2.toInt = vg_mn (s0.1 55 17).toInt x3.toNatClampNeg ∧ x3.toInt < (s0.1 55 16).toInt ∧ vg_rA (s0.1 55 17).toNatClampNeg t x3.toNatClampNeg x2.toInt ∧ vg_rB (s0.1 55 17).toNatClampNeg t (x3.toNatClampNeg + 1) x4.toInt ∧ t.1 63 x4.toNatClampNeg = vg_ps (vg_cc (s0.1 55 17).toNatClampNeg x3.toNatClampNeg) x4.toNatClampNeg x5.toNatClampNeg ∧ x5.toInt ≤ (s0.1 55 17).toInt ∧ x4.toInt < x2.toInt + (s0.1 55 17).toInt - 1) ∧ Iv t ∧ Kp s0 t), (fun L _ => ((5 - (vg_li L 3).toInt) * 10000000 - 10000000 + 5000000 + (76 - (vg_li L 4).toInt) * 100 - 100 + (16 - (vg_li L 5).toInt) + 2).toNat))], ?_, List.forall_mem_cons.mpr ⟨?_, List.forall_mem_cons.mpr ⟨?_, List.forall_mem_cons.mpr ⟨?_, List.forall_mem_cons.mpr ⟨?_, fun _ h => absurd h List.not_mem_nil⟩⟩⟩⟩⟩
    ·
      refine And.intro (fun c1 => ?_) (fun c1 => ?_)
      · have c1 : 0 ≤ a1.toInt := c1
        refine And.intro ⟨by omega, by omega⟩ ?_
        intro s2 e3
        have i4 : Iv s2 := Iv.a1 i0 e3 rfl
        have k5 : Kp s0 s2 := Kx.u1 Kx.rf e3 rfl
        exact ⟨rfl, ⟨(Int32.ofInt 1), (Int32.ofInt 0), rfl, (by omega), (by omega), (by omega), (by first | exact ⟨by omega, by omega, z1, by have h9 := Iv_55_16 i0; omega, vg_rA0 e3⟩ | exact ⟨by omega, by omega, vg_mn_up None.2.2.1 (by omega) (by omega), by omega, vg_rA_up None.2.2.2.2.2.1 (by omega) (by omega) (by omega)⟩), i4, k5⟩, trivial⟩
      · have c1 : ¬ (0 ≤ a1.toInt) := c1
        refine And.intro (Nat.le_of_ble_eq_true rfl) (And.intro ⟨55, (Int32.ofInt 1), rfl, by decide, i0⟩ ?_)
        intro v6 s8 h7
        have h7 : Iv s8 ∧ Kp s0 s8 ∧ (v6.toInt = -1) := h7
        have i9 := h7.1
        have k10 : Kp s0 s8 := Kx.tr Kx.rf (h7.2.1)
        have q11 := h7.2.2
        show Iv s8 ∧ Kp s0 s8 ∧ (((0 ≤ a1.toInt ∧ a1.toInt < vg_mn (s0.1 55 17).toInt (s0.1 55 16).toNatClampNeg) ∧ v6 = vg_cc (s0.1 55 17).toNatClampNeg (s0.1 55 16).toNatClampNeg a1.toNatClampNeg) ∨ (¬ (0 ≤ a1.toInt ∧ a1.toInt < vg_mn (s0.1 55 17).toInt (s0.1 55 16).toNatClampNeg) ∧ v6.toInt = -1))
        exact ⟨i9, k10, (by first | exact Or.inl ⟨by omega, by rw [q11.1]; exact vg_rA_at None.2.2.2.2 None (by omega) (by omega) (by omega)⟩ | exact Or.inr ⟨by omega, by omega⟩)⟩
    ·
      intro L s18 hL
      obtain ⟨w12, w13, rfl, b14, b15, b16, x17, i19, k20⟩ := hL
      have y0 := congrArg Int32.toInt (k20.1 55 17 rfl)
      have y1 := congrArg Int32.toInt (k20.1 55 16 rfl)
      have y2 := Iv_55_17 i0
      intro v21 e22
      have g23 : s18.1 55 16 = v21 := by rw [e22]
      have b24 : v21.toInt = (s18.1 55 16).toInt := congrArg Int32.toInt e22
      have b25 : (1 : Int) ≤ v21.toInt ∧ v21.toInt ≤ 5 := by rw [e22]; exact Iv_55_16 i19
      refine And.intro (fun c26 => ?_) (fun c26 => ?_)
      · have c26 : v21.toInt ≤ w13.toInt := c26
        have y3 := vg_mn_at x17.2.2.1 (o := s0.1 55 16) (by omega)
        refine And.intro (fun c27 => ?_) (fun c27 => ?_)
        · have c27 : w12.toInt ≤ a1.toInt := c27
          refine And.intro (Nat.le_of_ble_eq_true rfl) (And.intro ⟨55, (Int32.ofInt 5), rfl, by decide, i19⟩ ?_)
          intro v28 s30 h29
          have h29 : Iv s30 ∧ Kp s18 s30 ∧ (v28.toInt = -1) := h29
          have i31 := h29.1
          have k32 : Kp s0 s30 := Kx.tr k20 (h29.2.1)
          have q33 := h29.2.2
          show Iv s30 ∧ Kp s0 s30 ∧ (((0 ≤ a1.toInt ∧ a1.toInt < vg_mn (s0.1 55 17).toInt (s0.1 55 16).toNatClampNeg) ∧ v28 = vg_cc (s0.1 55 17).toNatClampNeg (s0.1 55 16).toNatClampNeg a1.toNatClampNeg) ∨ (¬ (0 ≤ a1.toInt ∧ a1.toInt < vg_mn (s0.1 55 17).toInt (s0.1 55 16).toNatClampNeg) ∧ v28.toInt = -1))
          exact ⟨i31, k32, (by first | exact Or.inl ⟨by omega, by rw [q33.1]; exact vg_rA_at x17.2.2.2.2 None (by omega) (by omega) (by omega)⟩ | exact Or.inr ⟨by omega, by omega⟩)⟩
        · have c27 : ¬ (w12.toInt ≤ a1.toInt) := c27
          refine And.intro ⟨by omega, by omega⟩ ?_
          intro v34 e35
          refine And.intro (Nat.le_of_ble_eq_true rfl) (And.intro ⟨55, v34, rfl, by decide, i19⟩ ?_)
          intro v36 s38 h37
          have h37 : Iv s38 ∧ Kp s18 s38 ∧ (v36 = v34 ∧ v36.toInt = v34.toInt) := h37
          have i39 := h37.1
          have k40 : Kp s0 s38 := Kx.tr k20 (h37.2.1)
          have q41 := h37.2.2
          show Iv s38 ∧ Kp s0 s38 ∧ (((0 ≤ a1.toInt ∧ a1.toInt < vg_mn (s0.1 55 17).toInt (s0.1 55 16).toNatClampNeg) ∧ v36 = vg_cc (s0.1 55 17).toNatClampNeg (s0.1 55 16).toNatClampNeg a1.toNatClampNeg) ∨ (¬ (0 ≤ a1.toInt ∧ a1.toInt < vg_mn (s0.1 55 17).toInt (s0.1 55 16).toNatClampNeg) ∧ v36.toInt = -1))
          exact ⟨i39, k40, (by first | exact Or.inl ⟨by omega, by rw [q41.1]; exact vg_rA_at x17.2.2.2.2 e35 (by omega) (by omega) (by omega)⟩ | exact Or.inr ⟨by omega, by omega⟩)⟩
      · have c26 : ¬ (v21.toInt ≤ w13.toInt) := c26
        exact ⟨rfl, ⟨w12, w13, (Int32.ofInt 0), rfl, (by omega), (by omega), (by omega), (by omega), (by omega), (by omega), (by omega), (by first | exact ⟨by omega, by omega, x17.2.2.1, by omega, x17.2.2.2.2, vg_rB0, by omega⟩ | exact ⟨by omega, by omega, x17.2.2.1, by omega, x17.2.2.2.2.1, vg_rB_nx x17.2.2.2.2.2.1 x17.2.2.2.2.2.2.1 (by omega) (by omega) (by omega), by omega⟩), i19, k20⟩, (by show ((5 - w13.toInt) * 10000000 - 10000000 + 5000000 + (76 - (Int32.ofInt 0).toInt) * 100 + 1).toNat < ((5 - w13.toInt) * 10000000).toNat; omega)⟩
    ·
      intro L s53 hL
      obtain ⟨w42, w45, w48, rfl, b43, b44, b46, b47, b49, b50, b51, x52, i54, k55⟩ := hL
      have y0 := congrArg Int32.toInt (k55.1 55 17 rfl)
      have y1 := congrArg Int32.toInt (k55.1 55 16 rfl)
      have y2 := Iv_55_17 i0
      intro v56 e57
      have g58 : s53.1 55 17 = v56 := by rw [e57]
      have b59 : v56.toInt = (s53.1 55 17).toInt := congrArg Int32.toInt e57
      have b60 : (1 : Int) ≤ v56.toInt ∧ v56.toInt ≤ 16 := by rw [e57]; exact Iv_55_17 i54
      intro v61 e62
      have b63 := vg_add e62 (by omega) (by omega)
      intro v64 e65
      have b66 := vg_sub e65 (by omega) (by omega)
      refine And.intro (fun c67 => ?_) (fun c67 => ?_)
      · have c67 : v64.toInt ≤ w48.toInt := c67
        intro v68 e69
        have w70 : v56 = v68 := by rw [e69, g58]
        subst w70
        intro v71 e72
        have b73 := vg_sub e72 (by omega) (by omega)
        intro v74 e75
        have b76 := vg_add e75 (by omega) (by omega)
        exact ⟨rfl, ⟨v74, w45, (Int32.ofInt 0), rfl, (by omega), (by omega), (by omega), (by omega), (by omega), (by omega), (by omega), (by first | exact ⟨by omega, by omega, vg_mn_add x52.2.2.1 (by omega), by omega, vg_rB_le x52.2.2.2.2.2.1 (by omega), vg_rAv, by omega⟩ | exact ⟨by omega, by omega, x52.2.2.1, by omega, vg_rB_62 x52.2.2.2.2.1 rfl, vg_rA_nx x52.2.2.2.2.2.1 x52.2.2.2.2.1 None rfl (by omega) (by omega) (by omega), by omega⟩), i54, k55⟩, (by show ((5 - w45.toInt) * 10000000 - 10000000 + (76 - (Int32.ofInt 0).toInt) + 1).toNat < ((5 - w45.toInt) * 10000000 - 10000000 + 5000000 + (76 - w48.toInt) * 100 + 1).toNat; omega)⟩
      · have c67 : ¬ (v64.toInt ≤ w48.toInt) := c67
        refine And.intro ⟨by omega, by omega⟩ ?_
        intro s77 e78
        have i79 : Iv s77 := Iv.a1 i54 e78 rfl
        have k80 : Kp s0 s77 := Kx.u1 k55 e78 rfl
        exact ⟨rfl, ⟨w42, w45, w48, (Int32.ofInt 0), rfl, (by omega), (by omega), (by omega), (by omega), (by omega), (by omega), (by omega), (by omega), (by omega), (by first | exact ⟨by omega, by omega, x52.2.2.1, by omega, vg_rA_63 x52.2.2.2.2.1 e78, vg_rB_63 x52.2.2.2.2.2.1 e78 (by omega), vg_C0 e78, by omega, by omega⟩ | exact ⟨by omega, by omega, x52.2.2.1, by omega, vg_rA_63 x52.2.2.2.2.1 e78, vg_rB_63 x52.2.2.2.2.2.1 e78 (by omega), vg_C1A x52.2.2.2.2.1 x52.2.2.2.2.2.2.1 None None e65 e78 (by omega) (by omega) (by omega) (by omega) (by omega), by omega, by omega⟩ | exact ⟨by omega, by omega, x52.2.2.1, by omega, vg_rA_63 x52.2.2.2.2.1 e78, vg_rB_63 x52.2.2.2.2.2.1 e78 (by omega), vg_C1B x52.2.2.1 x52.2.2.2.2.2.2.1 None e65 e78 (by omega) (by omega) (by omega) (by omega) (by omega), by omega, by omega⟩), i79, k80⟩, (by show ((5 - w45.toInt) * 10000000 - 10000000 + 5000000 + (76 - w48.toInt) * 100 - 100 + (16 - (Int32.ofInt 0).toInt) + 2).toNat < ((5 - w45.toInt) * 10000000 - 10000000 + 5000000 + (76 - w48.toInt) * 100 + 1).toNat; omega)⟩
    ·
      intro L s92 hL
      obtain ⟨w81, w84, w87, rfl, b82, b83, b85, b86, b88, b89, b90, x91, i93, k94⟩ := hL
      have y0 := congrArg Int32.toInt (k94.1 55 17 rfl)
      have y1 := congrArg Int32.toInt (k94.1 55 16 rfl)
      have y2 := Iv_55_17 i0
      refine And.intro (fun c95 => ?_) (fun c95 => ?_)
      · have c95 : w81.toInt ≤ w87.toInt := c95
        intro v96 e97
        have b98 := vg_add e97 (by omega) (by omega)
        exact ⟨rfl, ⟨w81, v96, rfl, (by omega), (by omega), (by omega), (by first | exact ⟨by omega, by omega, z1, by have h9 := Iv_55_16 i0; omega, vg_rA0 rfl⟩ | exact ⟨by omega, by omega, vg_mn_up x91.2.2.1 (by omega) (by omega), by omega, vg_rA_up x91.2.2.2.2.2.1 (by omega) (by omega) (by omega)⟩), i93, k94⟩, (by show ((5 - v96.toInt) * 10000000).toNat < ((5 - w84.toInt) * 10000000 - 10000000 + (76 - w87.toInt) + 1).toNat; omega)⟩
      · have c95 : ¬ (w81.toInt ≤ w87.toInt) := c95
        refine And.intro ⟨by omega, by omega⟩ ?_
        intro v99 e100
        refine And.intro ⟨by omega, by omega⟩ ?_
        intro s101 e102
        have i103 : Iv s101 := Iv.a1 i93 e102 rfl
        have k104 : Kp s0 s101 := Kx.u1 k94 e102 rfl
        intro v105 e106
        have b107 := vg_add e106 (by omega) (by omega)
        exact ⟨rfl, ⟨w81, w84, v105, rfl, (by omega), (by omega), (by omega), (by omega), (by omega), (by omega), (by omega), (by first | exact ⟨by omega, by omega, vg_mn_add x91.2.2.1 (by omega), by omega, vg_rB_le x91.2.2.2.2.2.1 (by omega), vg_rAv, by omega⟩ | exact ⟨by omega, by omega, x91.2.2.1, by omega, vg_rB_62 x91.2.2.2.2.1 e102, vg_rA_nx x91.2.2.2.2.2.1 x91.2.2.2.2.1 e100 e102 (by omega) (by omega) (by omega), by omega⟩), i103, k104⟩, (by show ((5 - w84.toInt) * 10000000 - 10000000 + (76 - v105.toInt) + 1).toNat < ((5 - w84.toInt) * 10000000 - 10000000 + (76 - w87.toInt) + 1).toNat; omega)⟩
    ·
      intro L s122 hL
      obtain ⟨w108, w111, w114, w117, rfl, b109, b110, b112, b113, b115, b116, b118, b119, b120, x121, i123, k124⟩ := hL
      have y0 := congrArg Int32.toInt (k124.1 55 17 rfl)
      have y1 := congrArg Int32.toInt (k124.1 55 16 rfl)
      have y2 := Iv_55_17 i0
      intro v125 e126
      have g127 : s122.1 55 17 = v125 := by rw [e126]
      have b128 : v125.toInt = (s122.1 55 17).toInt := congrArg Int32.toInt e126
      have b129 : (1 : Int) ≤ v125.toInt ∧ v125.toInt ≤ 16 := by rw [e126]; exact Iv_55_17 i123
      refine And.intro (fun c130 => ?_) (fun c130 => ?_)
      · have c130 : v125.toInt ≤ w117.toInt := c130
        intro v131 e132
        have b133 := vg_add e132 (by omega) (by omega)
        exact ⟨rfl, ⟨w108, w111, v131, rfl, (by omega), (by omega), (by omega), (by omega), (by omega), (by omega), (by omega), (by first | exact ⟨by omega, by omega, x121.2.2.1, by omega, x121.2.2.2.2, vg_rB0, by omega⟩ | exact ⟨by omega, by omega, x121.2.2.1, by omega, x121.2.2.2.2.1, vg_rB_nx x121.2.2.2.2.2.1 x121.2.2.2.2.2.2.1 (by omega) (by omega) (by omega), by omega⟩), i123, k124⟩, (by show ((5 - w111.toInt) * 10000000 - 10000000 + 5000000 + (76 - v131.toInt) * 100 + 1).toNat < ((5 - w111.toInt) * 10000000 - 10000000 + 5000000 + (76 - w114.toInt) * 100 - 100 + (16 - w117.toInt) + 2).toNat; omega)⟩
      · have c130 : ¬ (v125.toInt ≤ w117.toInt) := c130
        refine And.intro ⟨by omega, by omega⟩ ?_
        intro v134 e135
        intro v136 e137
        have b138 := vg_sub e137 (by omega) (by omega)
        intro v139 e140
        have b141 := vg_sub e140 (by omega) (by omega)
        refine And.intro (Nat.le_of_ble_eq_true rfl) (And.intro ⟨v136, (Int32.ofInt 0), v139, rfl, trivial⟩ ?_)
        intro v142 s144 h143
        have h143 : s144 = s122 ∧ ((v142.toInt = 1 ∧ (Int32.ofInt 0).toInt ≤ v136.toInt ∧ v136.toInt ≤ v139.toInt) ∨ (v142.toInt = 0 ∧ (v136.toInt < (Int32.ofInt 0).toInt ∨ v139.toInt < v136.toInt))) := h143
        have q147 := h143.1.symm
        subst q147
        have q148 := h143.2
        refine And.intro (fun c149 => ?_) (fun c149 => ?_)
        · have c149 : v142.toInt = 0 := c149
          intro v150 e151
          refine And.intro ⟨by omega, by omega⟩ ?_
          intro s152 e153
          have i154 : Iv s152 := Iv.a1 i123 e153 rfl
          have k155 : Kp s0 s152 := Kx.u1 k124 e153 rfl
          intro v156 e157
          have b158 := vg_add e157 (by omega) (by omega)
          exact ⟨rfl, ⟨w108, w111, w114, v156, rfl, (by omega), (by omega), (by omega), (by omega), (by omega), (by omega), (by omega), (by omega), (by omega), (by first | exact ⟨by omega, by omega, x121.2.2.1, by omega, vg_rA_63 x121.2.2.2.2.1 e153, vg_rB_63 x121.2.2.2.2.2.1 e153 (by omega), vg_C0 e153, by omega, by omega⟩ | exact ⟨by omega, by omega, x121.2.2.1, by omega, vg_rA_63 x121.2.2.2.2.1 e153, vg_rB_63 x121.2.2.2.2.2.1 e153 (by omega), vg_C1A x121.2.2.2.2.1 x121.2.2.2.2.2.2.1 None e135 e151 e153 (by omega) (by omega) (by omega) (by omega) (by omega), by omega, by omega⟩ | exact ⟨by omega, by omega, x121.2.2.1, by omega, vg_rA_63 x121.2.2.2.2.1 e153, vg_rB_63 x121.2.2.2.2.2.1 e153 (by omega), vg_C1B x121.2.2.1 x121.2.2.2.2.2.2.1 e135 e151 e153 (by omega) (by omega) (by omega) (by omega) (by omega), by omega, by omega⟩), i154, k155⟩, (by show ((5 - w111.toInt) * 10000000 - 10000000 + 5000000 + (76 - w114.toInt) * 100 - 100 + (16 - v156.toInt) + 2).toNat < ((5 - w111.toInt) * 10000000 - 10000000 + 5000000 + (76 - w114.toInt) * 100 - 100 + (16 - w117.toInt) + 2).toNat; omega)⟩
        · have c149 : ¬ (v142.toInt = 0) := c149
          intro v159 e160
          have b161 := vg_sub e160 (by omega) (by omega)
          refine And.intro ⟨by omega, by omega⟩ ?_
          intro v162 e163
          intro v164 e165
          refine And.intro ⟨by omega, by omega⟩ ?_
          intro s166 e167
          have i168 : Iv s166 := Iv.a1 i123 e167 rfl
          have k169 : Kp s0 s166 := Kx.u1 k124 e167 rfl
          intro v170 e171
          have b172 := vg_add e171 (by omega) (by omega)
          exact ⟨rfl, ⟨w108, w111, w114, v170, rfl, (by omega), (by omega), (by omega), (by omega), (by omega), (by omega), (by omega), (by omega), (by omega), (by first | exact ⟨by omega, by omega, x121.2.2.1, by omega, vg_rA_63 x121.2.2.2.2.1 e167, vg_rB_63 x121.2.2.2.2.2.1 e167 (by omega), vg_C0 e167, by omega, by omega⟩ | exact ⟨by omega, by omega, x121.2.2.1, by omega, vg_rA_63 x121.2.2.2.2.1 e167, vg_rB_63 x121.2.2.2.2.2.1 e167 (by omega), vg_C1A x121.2.2.2.2.1 x121.2.2.2.2.2.2.1 e135 e163 e165 e167 (by omega) (by omega) (by omega) (by omega) (by omega), by omega, by omega⟩ | exact ⟨by omega, by omega, x121.2.2.1, by omega, vg_rA_63 x121.2.2.2.2.1 e167, vg_rB_63 x121.2.2.2.2.2.1 e167 (by omega), vg_C1B x121.2.2.1 x121.2.2.2.2.2.2.1 e163 e165 e167 (by omega) (by omega) (by omega) (by omega) (by omega), by omega, by omega⟩), i168, k169⟩, (by show ((5 - w111.toInt) * 10000000 - 10000000 + 5000000 + (76 - w114.toInt) * 100 - 100 + (16 - v170.toInt) + 2).toNat < ((5 - w111.toInt) * 10000000 - 10000000 + 5000000 + (76 - w114.toInt) * 100 - 100 + (16 - w117.toInt) + 2).toNat; omega)⟩
def o_X11_half : List vg_I := [(0, .iload_n 1, 1, 0, 0, 0, 0), (1, .iconst 0, 1, 0, 0, 0, 0), (2, .iconst 3, 1, 0, 0, 0, 0), (3, .invokestatic 76, 3, 0, 1, 3, 1175), (6, .ifCond .eq 12, 3, 0, 0, 0, 0), (9, .iload_n 2, 1, 0, 0, 0, 0), (10, .iconst 0, 1, 0, 0, 0, 0), (11, .iconst 3, 1, 0, 0, 0, 0), (12, .invokestatic 76, 3, 0, 1, 3, 1175), (15, .ifCond .ne 9, 3, 0, 0, 0, 0), (18, .aload_n 0, 1, 0, 0, 0, 0), (19, .iconst 1, 1, 0, 0, 0, 0), (20, .invokevirtual 242, 3, 1, 11, 1, 1181), (23, .ireturn, 1, 0, 0, 0, 0), (24, .aload_n 0, 1, 0, 0, 0, 0), (25, .iload_n 1, 1, 0, 0, 0, 0), (26, .invokevirtual 195, 3, 2, 11, 1, 1361), (29, .iconst 2, 1, 0, 0, 0, 0), (30, .idiv, 1, 0, 0, 0, 0), (31, .istore_n 3, 1, 0, 0, 0, 0), (32, .iconst 0, 1, 0, 0, 0, 0), (33, .istore 4, 2, 0, 0, 0, 0), (35, .iconst 1, 1, 0, 0, 0, 0), (36, .istore 5, 2, 0, 0, 0, 0), (38, .iconst 0, 1, 0, 0, 0, 0), (39, .istore 6, 2, 0, 0, 0, 0), (41, .iload 6, 2, 0, 0, 0, 0), (43, .aload_n 0, 1, 0, 0, 0, 0), (44, .iload_n 1, 1, 0, 0, 0, 0), (45, .invokevirtual 195, 3, 2, 11, 1, 1361), (48, .if_icmp .ge 58, 3, 0, 0, 0, 0), (51, .iload 4, 2, 0, 0, 0, 0), (53, .aload_n 0, 1, 0, 0, 0, 0), (54, .iload_n 1, 1, 0, 0, 0, 0), (55, .iload 6, 2, 0, 0, 0, 0), (57, .invokevirtual 201, 3, 3, 11, 2, 1365), (60, .iadd, 1, 0, 0, 0, 0), (61, .istore 4, 2, 0, 0, 0, 0), (63, .iload 5, 2, 0, 0, 0, 0), (65, .ifCond .eq 32, 3, 0, 0, 0, 0), (68, .iload 6, 2, 0, 0, 0, 0), (70, .iload_n 3, 1, 0, 0, 0, 0), (71, .if_icmp .eq 22, 3, 0, 0, 0, 0), (74, .iload 6, 2, 0, 0, 0, 0), (76, .iload_n 3, 1, 0, 0, 0, 0), (77, .isub, 1, 0, 0, 0, 0), (78, .iconst 2, 1, 0, 0, 0, 0), (79, .irem, 1, 0, 0, 0, 0), (80, .ifCond .ne 13, 3, 0, 0, 0, 0), (83, .aload_n 0, 1, 0, 0, 0, 0), (84, .iload_n 1, 1, 0, 0, 0, 0), (85, .iload 6, 2, 0, 0, 0, 0), (87, .invokevirtual 201, 3, 3, 11, 2, 1365), (90, .ifCond .ne 7, 3, 0, 0, 0, 0), (93, .iconst 1, 1, 0, 0, 0, 0), (94, .goto 4, 3, 0, 0, 0, 0), (97, .iconst 0, 1, 0, 0, 0, 0), (98, .istore 5, 2, 0, 0, 0, 0), (100, .iinc 6 1, 3, 0, 0, 0, 0), (103, .goto (-62), 3, 0, 0, 0, 0), (106, .aload_n 0, 1, 0, 0, 0, 0), (107, .iload_n 2, 1, 0, 0, 0, 0), (108, .ifCond .ne 8, 3, 0, 0, 0, 0), (111, .iload 4, 2, 0, 0, 0, 0), (113, .goto 39, 3, 0, 0, 0, 0), (116, .iload_n 2, 1, 0, 0, 0, 0), (117, .iconst 1, 1, 0, 0, 0, 0), (118, .if_icmp .ne 16, 3, 0, 0, 0, 0), (121, .iload 5, 2, 0, 0, 0, 0), (123, .ifCond .eq 7, 3, 0, 0, 0, 0), (126, .iconst 1, 1, 0, 0, 0, 0), (127, .goto 25, 3, 0, 0, 0, 0), (130, .iconst 0, 1, 0, 0, 0, 0), (131, .goto 21, 3, 0, 0, 0, 0), (134, .iload_n 2, 1, 0, 0, 0, 0), (135, .iconst 2, 1, 0, 0, 0, 0), (136, .if_icmp .ne 11, 3, 0, 0, 0, 0), (139, .aload_n 0, 1, 0, 0, 0, 0), (140, .iload_n 1, 1, 0, 0, 0, 0), (141, .invokevirtual 204, 3, 4, 11, 1, 1369), (144, .goto 8, 3, 0, 0, 0, 0), (147, .aload_n 0, 1, 0, 0, 0, 0), (148, .iload_n 1, 1, 0, 0, 0, 0), (149, .invokevirtual 276, 3, 5, 11, 1, 1433), (152, .invokevirtual 249, 3, 6, 11, 1, 1206), (155, .ireturn, 1, 0, 0, 0, 0)]
set_option maxRecDepth 100000 in
set_option maxHeartbeats 4000000 in
theorem c_X11_half (l : Launch) (G : vg_G) (hp : vg_Hp G) : vg_Ct l G vg_sh r_X11_half := by
  refine vg_meth hp vg_sh_ok r_X11_half k_X11_half rfl (fun h => by cases h) o_X11_half [r_X11_isFrom, r_X11_refuse, r_X11_tapMany, r_X11_tapOf, r_X11_shiftOf, r_X11_unlikeNone, r_X11_gives] false (by decide +kernel) (by decide +kernel) ⟨_, _, rfl, rfl⟩ (List.forall_mem_cons.mpr ⟨⟨c_X11_isFrom l G hp, Nat.le_of_ble_eq_true rfl, Nat.le_of_ble_eq_true rfl⟩, List.forall_mem_cons.mpr ⟨⟨c_X11_refuse l G hp, Nat.le_of_ble_eq_true rfl, Nat.le_of_ble_eq_true rfl⟩, List.forall_mem_cons.mpr ⟨⟨c_X11_tapMany l G hp, Nat.le_of_ble_eq_true rfl, Nat.le_of_ble_eq_true rfl⟩, List.forall_mem_cons.mpr ⟨⟨c_X11_tapOf l G hp, Nat.le_of_ble_eq_true rfl, Nat.le_of_ble_eq_true rfl⟩, List.forall_mem_cons.mpr ⟨⟨c_X11_shiftOf l G hp, Nat.le_of_ble_eq_true rfl, Nat.le_of_ble_eq_true rfl⟩, List.forall_mem_cons.mpr ⟨⟨c_X11_unlikeNone l G hp, Nat.le_of_ble_eq_true rfl, Nat.le_of_ble_eq_true rfl⟩, List.forall_mem_cons.mpr ⟨⟨c_X11_gives l G hp, Nat.le_of_ble_eq_true rfl, Nat.le_of_ble_eq_true rfl⟩, fun _ h => absurd h List.not_mem_nil⟩⟩⟩⟩⟩⟩⟩) (fun h => by cases h) 600 ?_
  intro as s0 hpre
  obtain ⟨r, a1, a2, rfl, hr, i0⟩ := hpre
  simp only [List.mem_cons, List.not_mem_nil, or_false] at hr
  rcases hr with rfl
  ·
    have z0 : (Int32.ofInt 0).toInt = 0 := by decide
    have z1 : (Int32.ofInt 1).toInt = 1 := by decide
    have z2 : (Int32.ofInt 2).toInt = 2 := by decide
    have z3 : (Int32.ofInt 3).toInt = 3 := by decide
    refine ⟨Nat.le_of_ble_eq_true rfl, [(41, [true, true, true, true, true, true, true], (fun L t => ∃ (x3 : Int32) (x4 : Int32) (x5 : Int32) (x6 : Int32), L = [some (.ref 55), some (.int a1), some (.int a2), some (.int x3), some (.int x4), some (.int x5), some (.int x6)] ∧ (1 : Int) ≤ x3.toInt ∧ x3.toInt ≤ (5 : Int) ∧ (0 : Int) ≤ x6.toInt ∧ x6.toInt ≤ (11 : Int) ∧ (0 : Int) ≤ a1.toInt ∧ a1.toInt ≤ (3 : Int) ∧ (0 : Int) ≤ a2.toInt ∧ a2.toInt ≤ (3 : Int) ∧ (x4 = vg_rs (vg_tp (s0.1 61) a1) x6.toNatClampNeg ∧ x6.toInt ≤ (vg_tn a1 : Int) ∧ x3.toInt = (vg_tn a1 : Int) / 2 ∧ vg_hbr (vg_tp (s0.1 61) a1) x3.toInt x6.toInt x5) ∧ Iv t ∧ Kp s0 t), (fun L _ => (0 + (11 - (vg_li L 6).toInt) * 1000000000000).toNat))], ?_, List.forall_mem_cons.mpr ⟨?_, fun _ h => absurd h List.not_mem_nil⟩⟩
    ·
      refine And.intro (Nat.le_of_ble_eq_true rfl) (And.intro ⟨a1, (Int32.ofInt 0), (Int32.ofInt 3), rfl, trivial⟩ ?_)
      intro v1 s3 h2
      have h2 : s3 = s0 ∧ ((v1.toInt = 1 ∧ (Int32.ofInt 0).toInt ≤ a1.toInt ∧ a1.toInt ≤ (Int32.ofInt 3).toInt) ∨ (v1.toInt = 0 ∧ (a1.toInt < (Int32.ofInt 0).toInt ∨ (Int32.ofInt 3).toInt < a1.toInt))) := h2
      have q6 := h2.1.symm
      subst q6
      have q7 := h2.2
      refine And.intro (fun c8 => ?_) (fun c8 => ?_)
      · have c8 : v1.toInt = 0 := c8
        refine And.intro (Nat.le_of_ble_eq_true rfl) (And.intro ⟨55, (Int32.ofInt 1), rfl, by decide, i0⟩ ?_)
        intro v9 s11 h10
        have h10 : Iv s11 ∧ Kp s0 s11 ∧ (v9.toInt = -1) := h10
        have i12 := h10.1
        have k13 : Kp s0 s11 := Kx.tr Kx.rf (h10.2.1)
        have q14 := h10.2.2
        show Iv s11 ∧ Kp s0 s11 ∧ (((0 ≤ a1.toInt ∧ a1.toInt ≤ 3 ∧ 0 ≤ a2.toInt ∧ a2.toInt ≤ 3) ∧ ((a2.toInt = 0 ∧ (v9 = vg_rs (vg_tp (s0.1 61) a1) (vg_tn a1))) ∨ (a2.toInt = 1 ∧ (vg_hbr (vg_tp (s0.1 61) a1) ((vg_tn a1 : Int) / 2) (vg_tn a1 : Int) v9)) ∨ (a2.toInt = 2 ∧ ((a1.toInt = 0 ∧ v9.toInt = 2) ∨ (a1.toInt = 1 ∧ v9.toInt = 5) ∨ (a1.toInt = 2 ∧ v9.toInt = 9) ∨ (¬ a1.toInt = 0 ∧ ¬ a1.toInt = 1 ∧ ¬ a1.toInt = 2 ∧ v9.toInt = (s0.1 55 21).toInt))) ∨ (a2.toInt = 3 ∧ (v9 = vg_cnt (vg_tp (s0.1 61) a1) (vg_tn a1))))) ∨ (¬ (0 ≤ a1.toInt ∧ a1.toInt ≤ 3 ∧ 0 ≤ a2.toInt ∧ a2.toInt ≤ 3) ∧ v9.toInt = -1))
        exact ⟨i12, k13, (by first | exact Or.inr ⟨by omega, by omega⟩ | exact Or.inl ⟨by omega, Or.inl ⟨by omega, by rw [q14.1]; exact vg_rs_to None.1 (by omega)⟩⟩ | exact Or.inl ⟨by omega, Or.inr (Or.inl ⟨by omega, vg_hbr_to None.2.2.2 (by omega) (by omega)⟩)⟩ | exact Or.inl ⟨by omega, Or.inr (Or.inr (Or.inl ⟨by omega, by omega⟩))⟩ | exact Or.inl ⟨by omega, Or.inr (Or.inr (Or.inr ⟨by omega, by rw [q14.1, ← yk]; exact y9⟩))⟩)⟩
      · have c8 : ¬ (v1.toInt = 0) := c8
        refine And.intro (Nat.le_of_ble_eq_true rfl) (And.intro ⟨a2, (Int32.ofInt 0), (Int32.ofInt 3), rfl, trivial⟩ ?_)
        intro v15 s17 h16
        have h16 : s17 = s0 ∧ ((v15.toInt = 1 ∧ (Int32.ofInt 0).toInt ≤ a2.toInt ∧ a2.toInt ≤ (Int32.ofInt 3).toInt) ∨ (v15.toInt = 0 ∧ (a2.toInt < (Int32.ofInt 0).toInt ∨ (Int32.ofInt 3).toInt < a2.toInt))) := h16
        have q20 := h16.1.symm
        subst q20
        have q21 := h16.2
        refine And.intro (fun c22 => ?_) (fun c22 => ?_)
        · have c22 : ¬ v15.toInt = 0 := c22
          refine And.intro (Nat.le_of_ble_eq_true rfl) (And.intro ⟨55, a1, rfl, by decide, i0⟩ ?_)
          intro v23 s25 h24
          have h24 : s25 = s0 ∧ (((a1.toInt = 0 ∧ v23.toInt = 3) ∨ (a1.toInt = 2 ∧ v23.toInt = 11) ∨ (¬ a1.toInt = 0 ∧ ¬ a1.toInt = 2 ∧ v23.toInt = 7)) ∧ v23.toInt = (vg_tn a1 : Int)) := h24
          have q28 := h24.1.symm
          subst q28
          have q29 := h24.2
          refine And.intro (by omega) ?_
          intro v30 e31
          have b32 : v30.toInt = v23.toInt / 2 := by have h9 := vg_div e31 (by omega) (by omega); rw [z2] at h9; exact h9
          exact ⟨rfl, ⟨v30, (Int32.ofInt 0), (Int32.ofInt 1), (Int32.ofInt 0), rfl, (by omega), (by omega), (by omega), (by omega), (by omega), (by omega), (by omega), (by omega), (by first | exact ⟨rfl, by omega, by omega, vg_hbr0⟩ | exact ⟨vg_rs_up y1 (by omega) (by omega), by omega, by omega, vg_hbs0 None.2.2.2 (by omega) (by omega)⟩ | exact ⟨vg_rs_up y1 (by omega) (by omega), by omega, by omega, vg_hbs2 y6 (by omega) (by omega) (by omega) (by omega) (by omega)⟩ | exact ⟨vg_rs_up y1 (by omega) (by omega), by omega, by omega, vg_hbs1 None.2.2.2 (by omega) (by omega) (by omega) (by first | exact Or.inl (by omega) | exact Or.inr (Or.inl (by omega)) | exact Or.inr (Or.inr (vg_hbt y6 (by omega))))⟩), i0, Kx.rf⟩, trivial⟩
        · have c22 : ¬ (¬ v15.toInt = 0) := c22
          refine And.intro (Nat.le_of_ble_eq_true rfl) (And.intro ⟨55, (Int32.ofInt 1), rfl, by decide, i0⟩ ?_)
          intro v33 s35 h34
          have h34 : Iv s35 ∧ Kp s0 s35 ∧ (v33.toInt = -1) := h34
          have i36 := h34.1
          have k37 : Kp s0 s35 := Kx.tr Kx.rf (h34.2.1)
          have q38 := h34.2.2
          show Iv s35 ∧ Kp s0 s35 ∧ (((0 ≤ a1.toInt ∧ a1.toInt ≤ 3 ∧ 0 ≤ a2.toInt ∧ a2.toInt ≤ 3) ∧ ((a2.toInt = 0 ∧ (v33 = vg_rs (vg_tp (s0.1 61) a1) (vg_tn a1))) ∨ (a2.toInt = 1 ∧ (vg_hbr (vg_tp (s0.1 61) a1) ((vg_tn a1 : Int) / 2) (vg_tn a1 : Int) v33)) ∨ (a2.toInt = 2 ∧ ((a1.toInt = 0 ∧ v33.toInt = 2) ∨ (a1.toInt = 1 ∧ v33.toInt = 5) ∨ (a1.toInt = 2 ∧ v33.toInt = 9) ∨ (¬ a1.toInt = 0 ∧ ¬ a1.toInt = 1 ∧ ¬ a1.toInt = 2 ∧ v33.toInt = (s0.1 55 21).toInt))) ∨ (a2.toInt = 3 ∧ (v33 = vg_cnt (vg_tp (s0.1 61) a1) (vg_tn a1))))) ∨ (¬ (0 ≤ a1.toInt ∧ a1.toInt ≤ 3 ∧ 0 ≤ a2.toInt ∧ a2.toInt ≤ 3) ∧ v33.toInt = -1))
          exact ⟨i36, k37, (by first | exact Or.inr ⟨by omega, by omega⟩ | exact Or.inl ⟨by omega, Or.inl ⟨by omega, by rw [q38.1]; exact vg_rs_to None.1 (by omega)⟩⟩ | exact Or.inl ⟨by omega, Or.inr (Or.inl ⟨by omega, vg_hbr_to None.2.2.2 (by omega) (by omega)⟩)⟩ | exact Or.inl ⟨by omega, Or.inr (Or.inr (Or.inl ⟨by omega, by omega⟩))⟩ | exact Or.inl ⟨by omega, Or.inr (Or.inr (Or.inr ⟨by omega, by rw [q38.1, ← yk]; exact y9⟩))⟩)⟩
    ·
      intro L s52 hL
      obtain ⟨w39, w42, w43, w44, rfl, b40, b41, b45, b46, b47, b48, b49, b50, x51, i53, k54⟩ := hL
      have yk : s52.1 61 = s0.1 61 := funext (fun j => k54.1 61 j rfl)
      have y5 := congrArg Int32.toInt (k54.1 55 21 rfl)
      refine And.intro (Nat.le_of_ble_eq_true rfl) (And.intro ⟨55, a1, rfl, by decide, i53⟩ ?_)
      intro v55 s57 h56
      have h56 : s57 = s52 ∧ (((a1.toInt = 0 ∧ v55.toInt = 3) ∨ (a1.toInt = 2 ∧ v55.toInt = 11) ∨ (¬ a1.toInt = 0 ∧ ¬ a1.toInt = 2 ∧ v55.toInt = 7)) ∧ v55.toInt = (vg_tn a1 : Int)) := h56
      have q60 := h56.1.symm
      subst q60
      have q61 := h56.2
      refine And.intro (fun c62 => ?_) (fun c62 => ?_)
      · have c62 : v55.toInt ≤ w44.toInt := c62
        refine And.intro (fun c63 => ?_) (fun c63 => ?_)
        · have c63 : ¬ a2.toInt = 0 := c63
          refine And.intro (fun c64 => ?_) (fun c64 => ?_)
          · have c64 : ¬ a2.toInt = (Int32.ofInt 1).toInt := c64
            refine And.intro (fun c65 => ?_) (fun c65 => ?_)
            · have c65 : ¬ a2.toInt = (Int32.ofInt 2).toInt := c65
              refine And.intro (Nat.le_of_ble_eq_true rfl) (And.intro ⟨55, a1, rfl, by decide, i53⟩ ?_)
              intro v66 s68 h67
              have h67 : s68 = s52 ∧ (v66 = vg_cnt (vg_tp (s52.1 61) a1) (vg_tn a1)) := h67
              have q71 := h67.1.symm
              subst q71
              have q72 := h67.2
              have y9 := q72
              refine And.intro (Nat.le_of_ble_eq_true rfl) (And.intro ⟨55, v66, rfl, by decide, i53⟩ ?_)
              intro v73 s75 h74
              have h74 : Iv s75 ∧ Kp s52 s75 ∧ (v73 = v66 ∧ v73.toInt = v66.toInt) := h74
              have i76 := h74.1
              have k77 : Kp s0 s75 := Kx.tr k54 (h74.2.1)
              have q78 := h74.2.2
              show Iv s75 ∧ Kp s0 s75 ∧ (((0 ≤ a1.toInt ∧ a1.toInt ≤ 3 ∧ 0 ≤ a2.toInt ∧ a2.toInt ≤ 3) ∧ ((a2.toInt = 0 ∧ (v73 = vg_rs (vg_tp (s0.1 61) a1) (vg_tn a1))) ∨ (a2.toInt = 1 ∧ (vg_hbr (vg_tp (s0.1 61) a1) ((vg_tn a1 : Int) / 2) (vg_tn a1 : Int) v73)) ∨ (a2.toInt = 2 ∧ ((a1.toInt = 0 ∧ v73.toInt = 2) ∨ (a1.toInt = 1 ∧ v73.toInt = 5) ∨ (a1.toInt = 2 ∧ v73.toInt = 9) ∨ (¬ a1.toInt = 0 ∧ ¬ a1.toInt = 1 ∧ ¬ a1.toInt = 2 ∧ v73.toInt = (s0.1 55 21).toInt))) ∨ (a2.toInt = 3 ∧ (v73 = vg_cnt (vg_tp (s0.1 61) a1) (vg_tn a1))))) ∨ (¬ (0 ≤ a1.toInt ∧ a1.toInt ≤ 3 ∧ 0 ≤ a2.toInt ∧ a2.toInt ≤ 3) ∧ v73.toInt = -1))
              exact ⟨i76, k77, (by first | exact Or.inr ⟨by omega, by omega⟩ | exact Or.inl ⟨by omega, Or.inl ⟨by omega, by rw [q78.1]; exact vg_rs_to x51.1 (by omega)⟩⟩ | exact Or.inl ⟨by omega, Or.inr (Or.inl ⟨by omega, vg_hbr_to x51.2.2.2 (by omega) (by omega)⟩)⟩ | exact Or.inl ⟨by omega, Or.inr (Or.inr (Or.inl ⟨by omega, by omega⟩))⟩ | exact Or.inl ⟨by omega, Or.inr (Or.inr (Or.inr ⟨by omega, by rw [q78.1, ← yk]; exact y9⟩))⟩)⟩
            · have c65 : ¬ (¬ a2.toInt = (Int32.ofInt 2).toInt) := c65
              refine And.intro (Nat.le_of_ble_eq_true rfl) (And.intro ⟨55, a1, rfl, by decide, i53⟩ ?_)
              intro v79 s81 h80
              have h80 : s81 = s52 ∧ ((a1.toInt = 0 ∧ v79.toInt = 2) ∨ (a1.toInt = 1 ∧ v79.toInt = 5) ∨ (a1.toInt = 2 ∧ v79.toInt = 9) ∨ (¬ a1.toInt = 0 ∧ ¬ a1.toInt = 1 ∧ ¬ a1.toInt = 2 ∧ v79.toInt = (s52.1 55 21).toInt)) := h80
              have q84 := h80.1.symm
              subst q84
              have q85 := h80.2
              have y9 := q85
              refine And.intro (Nat.le_of_ble_eq_true rfl) (And.intro ⟨55, v79, rfl, by decide, i53⟩ ?_)
              intro v86 s88 h87
              have h87 : Iv s88 ∧ Kp s52 s88 ∧ (v86 = v79 ∧ v86.toInt = v79.toInt) := h87
              have i89 := h87.1
              have k90 : Kp s0 s88 := Kx.tr k54 (h87.2.1)
              have q91 := h87.2.2
              show Iv s88 ∧ Kp s0 s88 ∧ (((0 ≤ a1.toInt ∧ a1.toInt ≤ 3 ∧ 0 ≤ a2.toInt ∧ a2.toInt ≤ 3) ∧ ((a2.toInt = 0 ∧ (v86 = vg_rs (vg_tp (s0.1 61) a1) (vg_tn a1))) ∨ (a2.toInt = 1 ∧ (vg_hbr (vg_tp (s0.1 61) a1) ((vg_tn a1 : Int) / 2) (vg_tn a1 : Int) v86)) ∨ (a2.toInt = 2 ∧ ((a1.toInt = 0 ∧ v86.toInt = 2) ∨ (a1.toInt = 1 ∧ v86.toInt = 5) ∨ (a1.toInt = 2 ∧ v86.toInt = 9) ∨ (¬ a1.toInt = 0 ∧ ¬ a1.toInt = 1 ∧ ¬ a1.toInt = 2 ∧ v86.toInt = (s0.1 55 21).toInt))) ∨ (a2.toInt = 3 ∧ (v86 = vg_cnt (vg_tp (s0.1 61) a1) (vg_tn a1))))) ∨ (¬ (0 ≤ a1.toInt ∧ a1.toInt ≤ 3 ∧ 0 ≤ a2.toInt ∧ a2.toInt ≤ 3) ∧ v86.toInt = -1))
              exact ⟨i89, k90, (by first | exact Or.inr ⟨by omega, by omega⟩ | exact Or.inl ⟨by omega, Or.inl ⟨by omega, by rw [q91.1]; exact vg_rs_to x51.1 (by omega)⟩⟩ | exact Or.inl ⟨by omega, Or.inr (Or.inl ⟨by omega, vg_hbr_to x51.2.2.2 (by omega) (by omega)⟩)⟩ | exact Or.inl ⟨by omega, Or.inr (Or.inr (Or.inl ⟨by omega, by omega⟩))⟩ | exact Or.inl ⟨by omega, Or.inr (Or.inr (Or.inr ⟨by omega, by rw [q91.1, ← yk]; exact y9⟩))⟩)⟩
          · have c64 : ¬ (¬ a2.toInt = (Int32.ofInt 1).toInt) := c64
            refine And.intro (fun c92 => ?_) (fun c92 => ?_)
            · have c92 : w43.toInt = 0 := c92
              have y9 := q61
              refine And.intro (Nat.le_of_ble_eq_true rfl) (And.intro ⟨55, (Int32.ofInt 0), rfl, by decide, i53⟩ ?_)
              intro v93 s95 h94
              have h94 : Iv s95 ∧ Kp s52 s95 ∧ (v93 = (Int32.ofInt 0) ∧ v93.toInt = (Int32.ofInt 0).toInt) := h94
              have i96 := h94.1
              have k97 : Kp s0 s95 := Kx.tr k54 (h94.2.1)
              have q98 := h94.2.2
              show Iv s95 ∧ Kp s0 s95 ∧ (((0 ≤ a1.toInt ∧ a1.toInt ≤ 3 ∧ 0 ≤ a2.toInt ∧ a2.toInt ≤ 3) ∧ ((a2.toInt = 0 ∧ (v93 = vg_rs (vg_tp (s0.1 61) a1) (vg_tn a1))) ∨ (a2.toInt = 1 ∧ (vg_hbr (vg_tp (s0.1 61) a1) ((vg_tn a1 : Int) / 2) (vg_tn a1 : Int) v93)) ∨ (a2.toInt = 2 ∧ ((a1.toInt = 0 ∧ v93.toInt = 2) ∨ (a1.toInt = 1 ∧ v93.toInt = 5) ∨ (a1.toInt = 2 ∧ v93.toInt = 9) ∨ (¬ a1.toInt = 0 ∧ ¬ a1.toInt = 1 ∧ ¬ a1.toInt = 2 ∧ v93.toInt = (s0.1 55 21).toInt))) ∨ (a2.toInt = 3 ∧ (v93 = vg_cnt (vg_tp (s0.1 61) a1) (vg_tn a1))))) ∨ (¬ (0 ≤ a1.toInt ∧ a1.toInt ≤ 3 ∧ 0 ≤ a2.toInt ∧ a2.toInt ≤ 3) ∧ v93.toInt = -1))
              exact ⟨i96, k97, (by first | exact Or.inr ⟨by omega, by omega⟩ | exact Or.inl ⟨by omega, Or.inl ⟨by omega, by rw [q98.1]; exact vg_rs_to x51.1 (by omega)⟩⟩ | exact Or.inl ⟨by omega, Or.inr (Or.inl ⟨by omega, vg_hbr_to x51.2.2.2 (by omega) (by omega)⟩)⟩ | exact Or.inl ⟨by omega, Or.inr (Or.inr (Or.inl ⟨by omega, by omega⟩))⟩ | exact Or.inl ⟨by omega, Or.inr (Or.inr (Or.inr ⟨by omega, by rw [q98.1, ← yk]; exact y9⟩))⟩)⟩
            · have c92 : ¬ (w43.toInt = 0) := c92
              have y9 := q61
              refine And.intro (Nat.le_of_ble_eq_true rfl) (And.intro ⟨55, (Int32.ofInt 1), rfl, by decide, i53⟩ ?_)
              intro v99 s101 h100
              have h100 : Iv s101 ∧ Kp s52 s101 ∧ (v99 = (Int32.ofInt 1) ∧ v99.toInt = (Int32.ofInt 1).toInt) := h100
              have i102 := h100.1
              have k103 : Kp s0 s101 := Kx.tr k54 (h100.2.1)
              have q104 := h100.2.2
              show Iv s101 ∧ Kp s0 s101 ∧ (((0 ≤ a1.toInt ∧ a1.toInt ≤ 3 ∧ 0 ≤ a2.toInt ∧ a2.toInt ≤ 3) ∧ ((a2.toInt = 0 ∧ (v99 = vg_rs (vg_tp (s0.1 61) a1) (vg_tn a1))) ∨ (a2.toInt = 1 ∧ (vg_hbr (vg_tp (s0.1 61) a1) ((vg_tn a1 : Int) / 2) (vg_tn a1 : Int) v99)) ∨ (a2.toInt = 2 ∧ ((a1.toInt = 0 ∧ v99.toInt = 2) ∨ (a1.toInt = 1 ∧ v99.toInt = 5) ∨ (a1.toInt = 2 ∧ v99.toInt = 9) ∨ (¬ a1.toInt = 0 ∧ ¬ a1.toInt = 1 ∧ ¬ a1.toInt = 2 ∧ v99.toInt = (s0.1 55 21).toInt))) ∨ (a2.toInt = 3 ∧ (v99 = vg_cnt (vg_tp (s0.1 61) a1) (vg_tn a1))))) ∨ (¬ (0 ≤ a1.toInt ∧ a1.toInt ≤ 3 ∧ 0 ≤ a2.toInt ∧ a2.toInt ≤ 3) ∧ v99.toInt = -1))
              exact ⟨i102, k103, (by first | exact Or.inr ⟨by omega, by omega⟩ | exact Or.inl ⟨by omega, Or.inl ⟨by omega, by rw [q104.1]; exact vg_rs_to x51.1 (by omega)⟩⟩ | exact Or.inl ⟨by omega, Or.inr (Or.inl ⟨by omega, vg_hbr_to x51.2.2.2 (by omega) (by omega)⟩)⟩ | exact Or.inl ⟨by omega, Or.inr (Or.inr (Or.inl ⟨by omega, by omega⟩))⟩ | exact Or.inl ⟨by omega, Or.inr (Or.inr (Or.inr ⟨by omega, by rw [q104.1, ← yk]; exact y9⟩))⟩)⟩
        · have c63 : ¬ (¬ a2.toInt = 0) := c63
          have y9 := q61
          refine And.intro (Nat.le_of_ble_eq_true rfl) (And.intro ⟨55, w42, rfl, by decide, i53⟩ ?_)
          intro v105 s107 h106
          have h106 : Iv s107 ∧ Kp s52 s107 ∧ (v105 = w42 ∧ v105.toInt = w42.toInt) := h106
          have i108 := h106.1
          have k109 : Kp s0 s107 := Kx.tr k54 (h106.2.1)
          have q110 := h106.2.2
          show Iv s107 ∧ Kp s0 s107 ∧ (((0 ≤ a1.toInt ∧ a1.toInt ≤ 3 ∧ 0 ≤ a2.toInt ∧ a2.toInt ≤ 3) ∧ ((a2.toInt = 0 ∧ (v105 = vg_rs (vg_tp (s0.1 61) a1) (vg_tn a1))) ∨ (a2.toInt = 1 ∧ (vg_hbr (vg_tp (s0.1 61) a1) ((vg_tn a1 : Int) / 2) (vg_tn a1 : Int) v105)) ∨ (a2.toInt = 2 ∧ ((a1.toInt = 0 ∧ v105.toInt = 2) ∨ (a1.toInt = 1 ∧ v105.toInt = 5) ∨ (a1.toInt = 2 ∧ v105.toInt = 9) ∨ (¬ a1.toInt = 0 ∧ ¬ a1.toInt = 1 ∧ ¬ a1.toInt = 2 ∧ v105.toInt = (s0.1 55 21).toInt))) ∨ (a2.toInt = 3 ∧ (v105 = vg_cnt (vg_tp (s0.1 61) a1) (vg_tn a1))))) ∨ (¬ (0 ≤ a1.toInt ∧ a1.toInt ≤ 3 ∧ 0 ≤ a2.toInt ∧ a2.toInt ≤ 3) ∧ v105.toInt = -1))
          exact ⟨i108, k109, (by first | exact Or.inr ⟨by omega, by omega⟩ | exact Or.inl ⟨by omega, Or.inl ⟨by omega, by rw [q110.1]; exact vg_rs_to x51.1 (by omega)⟩⟩ | exact Or.inl ⟨by omega, Or.inr (Or.inl ⟨by omega, vg_hbr_to x51.2.2.2 (by omega) (by omega)⟩)⟩ | exact Or.inl ⟨by omega, Or.inr (Or.inr (Or.inl ⟨by omega, by omega⟩))⟩ | exact Or.inl ⟨by omega, Or.inr (Or.inr (Or.inr ⟨by omega, by rw [q110.1, ← yk]; exact y9⟩))⟩)⟩
      · have c62 : ¬ (v55.toInt ≤ w44.toInt) := c62
        refine And.intro (Nat.le_of_ble_eq_true rfl) (And.intro ⟨55, a1, w44, rfl, by decide, i53, by omega⟩ ?_)
        intro v111 s113 h112
        have h112 : s113 = s52 ∧ (v111 = vg_tp (s52.1 61) a1 w44.toNatClampNeg) := h112
        have q116 := h112.1.symm
        subst q116
        have q117 := h112.2
        intro v118 e119
        have y1 := vg_rs_nx x51.1 (by rw [← yk]; exact q117) e119
        refine And.intro (fun c120 => ?_) (fun c120 => ?_)
        · have c120 : w43.toInt = 0 := c120
          intro v121 e122
          have b123 := vg_add e122 (by omega) (by omega)
          exact ⟨rfl, ⟨w39, v118, (Int32.ofInt 0), v121, rfl, (by omega), (by omega), (by omega), (by omega), (by omega), (by omega), (by omega), (by omega), (by first | exact ⟨rfl, by omega, by omega, vg_hbr0⟩ | exact ⟨vg_rs_up y1 (by omega) (by omega), by omega, by omega, vg_hbs0 x51.2.2.2 (by omega) (by omega)⟩ | exact ⟨vg_rs_up y1 (by omega) (by omega), by omega, by omega, vg_hbs2 y6 (by omega) (by omega) (by omega) (by omega) (by omega)⟩ | exact ⟨vg_rs_up y1 (by omega) (by omega), by omega, by omega, vg_hbs1 x51.2.2.2 (by omega) (by omega) (by omega) (by first | exact Or.inl (by omega) | exact Or.inr (Or.inl (by omega)) | exact Or.inr (Or.inr (vg_hbt y6 (by omega))))⟩), i53, k54⟩, (by show (0 + (11 - v121.toInt) * 1000000000000).toNat < (0 + (11 - w44.toInt) * 1000000000000).toNat; omega)⟩
        · have c120 : ¬ (w43.toInt = 0) := c120
          refine And.intro (fun c124 => ?_) (fun c124 => ?_)
          · have c124 : w44.toInt = w39.toInt := c124
            intro v125 e126
            have b127 := vg_add e126 (by omega) (by omega)
            exact ⟨rfl, ⟨w39, v118, (Int32.ofInt 1), v125, rfl, (by omega), (by omega), (by omega), (by omega), (by omega), (by omega), (by omega), (by omega), (by first | exact ⟨rfl, by omega, by omega, vg_hbr0⟩ | exact ⟨vg_rs_up y1 (by omega) (by omega), by omega, by omega, vg_hbs0 x51.2.2.2 (by omega) (by omega)⟩ | exact ⟨vg_rs_up y1 (by omega) (by omega), by omega, by omega, vg_hbs2 y6 (by omega) (by omega) (by omega) (by omega) (by omega)⟩ | exact ⟨vg_rs_up y1 (by omega) (by omega), by omega, by omega, vg_hbs1 x51.2.2.2 (by omega) (by omega) (by omega) (by first | exact Or.inl (by omega) | exact Or.inr (Or.inl (by omega)) | exact Or.inr (Or.inr (vg_hbt y6 (by omega))))⟩), i53, k54⟩, (by show (0 + (11 - v125.toInt) * 1000000000000).toNat < (0 + (11 - w44.toInt) * 1000000000000).toNat; omega)⟩
          · have c124 : ¬ (w44.toInt = w39.toInt) := c124
            intro v128 e129
            have b130 := vg_sub e129 (by omega) (by omega)
            refine And.intro (by omega) ?_
            intro v131 e132
            have b133 := vg_remx e132 (by omega)
            have y2 := vg_par e132 (by omega) (by omega)
            refine And.intro (fun c134 => ?_) (fun c134 => ?_)
            · have c134 : ¬ v131.toInt = 0 := c134
              intro v135 e136
              have b137 := vg_add e136 (by omega) (by omega)
              exact ⟨rfl, ⟨w39, v118, (Int32.ofInt 1), v135, rfl, (by omega), (by omega), (by omega), (by omega), (by omega), (by omega), (by omega), (by omega), (by first | exact ⟨rfl, by omega, by omega, vg_hbr0⟩ | exact ⟨vg_rs_up y1 (by omega) (by omega), by omega, by omega, vg_hbs0 x51.2.2.2 (by omega) (by omega)⟩ | exact ⟨vg_rs_up y1 (by omega) (by omega), by omega, by omega, vg_hbs2 y6 (by omega) (by omega) (by omega) (by omega) (by omega)⟩ | exact ⟨vg_rs_up y1 (by omega) (by omega), by omega, by omega, vg_hbs1 x51.2.2.2 (by omega) (by omega) (by omega) (by first | exact Or.inl (by omega) | exact Or.inr (Or.inl (by omega)) | exact Or.inr (Or.inr (vg_hbt y6 (by omega))))⟩), i53, k54⟩, (by show (0 + (11 - v135.toInt) * 1000000000000).toNat < (0 + (11 - w44.toInt) * 1000000000000).toNat; omega)⟩
            · have c134 : ¬ (¬ v131.toInt = 0) := c134
              refine And.intro (Nat.le_of_ble_eq_true rfl) (And.intro ⟨55, a1, w44, rfl, by decide, i53, by omega⟩ ?_)
              intro v138 s140 h139
              have h139 : s140 = s52 ∧ (v138 = vg_tp (s52.1 61) a1 w44.toNatClampNeg) := h139
              have q143 := h139.1.symm
              subst q143
              have q144 := h139.2
              have y6 : v138 = vg_tp (s0.1 61) a1 w44.toNatClampNeg := by rw [← yk]; exact q144
              refine And.intro (fun c145 => ?_) (fun c145 => ?_)
              · have c145 : ¬ v138.toInt = 0 := c145
                intro v146 e147
                have b148 := vg_add e147 (by omega) (by omega)
                exact ⟨rfl, ⟨w39, v118, (Int32.ofInt 0), v146, rfl, (by omega), (by omega), (by omega), (by omega), (by omega), (by omega), (by omega), (by omega), (by first | exact ⟨rfl, by omega, by omega, vg_hbr0⟩ | exact ⟨vg_rs_up y1 (by omega) (by omega), by omega, by omega, vg_hbs0 x51.2.2.2 (by omega) (by omega)⟩ | exact ⟨vg_rs_up y1 (by omega) (by omega), by omega, by omega, vg_hbs2 y6 (by omega) (by omega) (by omega) (by omega) (by omega)⟩ | exact ⟨vg_rs_up y1 (by omega) (by omega), by omega, by omega, vg_hbs1 x51.2.2.2 (by omega) (by omega) (by omega) (by first | exact Or.inl (by omega) | exact Or.inr (Or.inl (by omega)) | exact Or.inr (Or.inr (vg_hbt y6 (by omega))))⟩), i53, k54⟩, (by show (0 + (11 - v146.toInt) * 1000000000000).toNat < (0 + (11 - w44.toInt) * 1000000000000).toNat; omega)⟩
              · have c145 : ¬ (¬ v138.toInt = 0) := c145
                intro v149 e150
                have b151 := vg_add e150 (by omega) (by omega)
                exact ⟨rfl, ⟨w39, v118, (Int32.ofInt 1), v149, rfl, (by omega), (by omega), (by omega), (by omega), (by omega), (by omega), (by omega), (by omega), (by first | exact ⟨rfl, by omega, by omega, vg_hbr0⟩ | exact ⟨vg_rs_up y1 (by omega) (by omega), by omega, by omega, vg_hbs0 x51.2.2.2 (by omega) (by omega)⟩ | exact ⟨vg_rs_up y1 (by omega) (by omega), by omega, by omega, vg_hbs2 y6 (by omega) (by omega) (by omega) (by omega) (by omega)⟩ | exact ⟨vg_rs_up y1 (by omega) (by omega), by omega, by omega, vg_hbs1 x51.2.2.2 (by omega) (by omega) (by omega) (by first | exact Or.inl (by omega) | exact Or.inr (Or.inl (by omega)) | exact Or.inr (Or.inr (vg_hbt y6 (by omega))))⟩), i53, k54⟩, (by show (0 + (11 - v149.toInt) * 1000000000000).toNat < (0 + (11 - w44.toInt) * 1000000000000).toNat; omega)⟩
def o_X11_beatOf : List vg_I := [(0, .aload_n 0, 1, 0, 0, 0, 0), (1, .iload_n 1, 1, 0, 0, 0, 0), (2, .invokevirtual 267, 3, 0, 11, 1, 1381), (5, .istore_n 3, 1, 0, 0, 0, 0), (6, .lconst 0, 1, 0, 0, 0, 0), (7, .lstore 4, 2, 0, 0, 0, 0), (9, .lconst 0, 1, 0, 0, 0, 0), (10, .lstore 6, 2, 0, 0, 0, 0), (12, .iconst 0, 1, 0, 0, 0, 0), (13, .istore 8, 2, 0, 0, 0, 0), (15, .iload 8, 2, 0, 0, 0, 0), (17, .iload_n 3, 1, 0, 0, 0, 0), (18, .if_icmp .ge 21, 3, 0, 0, 0, 0), (21, .lload 4, 2, 0, 0, 0, 0), (23, .aload_n 0, 1, 0, 0, 0, 0), (24, .iload_n 1, 1, 0, 0, 0, 0), (25, .iload 8, 2, 0, 0, 0, 0), (27, .invokevirtual 231, 3, 1, 11, 2, 1353), (30, .ladd, 1, 0, 0, 0, 0), (31, .lstore 4, 2, 0, 0, 0, 0), (33, .iinc 8 1, 3, 0, 0, 0, 0), (36, .goto (-21), 3, 0, 0, 0, 0), (39, .iconst 0, 1, 0, 0, 0, 0), (40, .istore 8, 2, 0, 0, 0, 0), (42, .iload 8, 2, 0, 0, 0, 0), (44, .iload_n 2, 1, 0, 0, 0, 0), (45, .iadd, 1, 0, 0, 0, 0), (46, .iload_n 3, 1, 0, 0, 0, 0), (47, .if_icmp .ge 43, 3, 0, 0, 0, 0), (50, .lload 6, 2, 0, 0, 0, 0), (52, .iload_n 3, 1, 0, 0, 0, 0), (53, .i2l, 1, 0, 0, 0, 0), (54, .aload_n 0, 1, 0, 0, 0, 0), (55, .iload_n 1, 1, 0, 0, 0, 0), (56, .iload 8, 2, 0, 0, 0, 0), (58, .invokevirtual 231, 3, 1, 11, 2, 1353), (61, .lmul, 1, 0, 0, 0, 0), (62, .lload 4, 2, 0, 0, 0, 0), (64, .lsub, 1, 0, 0, 0, 0), (65, .iload_n 3, 1, 0, 0, 0, 0), (66, .i2l, 1, 0, 0, 0, 0), (67, .aload_n 0, 1, 0, 0, 0, 0), (68, .iload_n 1, 1, 0, 0, 0, 0), (69, .iload 8, 2, 0, 0, 0, 0), (71, .iload_n 2, 1, 0, 0, 0, 0), (72, .iadd, 1, 0, 0, 0, 0), (73, .invokevirtual 231, 3, 1, 11, 2, 1353), (76, .lmul, 1, 0, 0, 0, 0), (77, .lload 4, 2, 0, 0, 0, 0), (79, .lsub, 1, 0, 0, 0, 0), (80, .lmul, 1, 0, 0, 0, 0), (81, .ladd, 1, 0, 0, 0, 0), (82, .lstore 6, 2, 0, 0, 0, 0), (84, .iinc 8 1, 3, 0, 0, 0, 0), (87, .goto (-45), 3, 0, 0, 0, 0), (90, .lload 6, 2, 0, 0, 0, 0), (92, .lreturn, 1, 0, 0, 0, 0)]
set_option maxRecDepth 100000 in
set_option maxHeartbeats 4000000 in
theorem c_X11_beatOf (l : Launch) (G : vg_G) (hp : vg_Hp G) : vg_Ct l G vg_sh r_X11_beatOf := by
  refine vg_meth hp vg_sh_ok r_X11_beatOf k_X11_beatOf rfl (fun h => by cases h) o_X11_beatOf [r_X11_many, r_X11_latestOf] false (by decide +kernel) (by decide +kernel) ⟨_, _, rfl, rfl⟩ (List.forall_mem_cons.mpr ⟨⟨c_X11_many l G hp, Nat.le_of_ble_eq_true rfl, Nat.le_of_ble_eq_true rfl⟩, List.forall_mem_cons.mpr ⟨⟨c_X11_latestOf l G hp, Nat.le_of_ble_eq_true rfl, Nat.le_of_ble_eq_true rfl⟩, fun _ h => absurd h List.not_mem_nil⟩⟩) (fun h => by cases h) 600 ?_
  intro as s0 hpre
  obtain ⟨r, a1, a2, rfl, hr, i0, p0⟩ := hpre
  simp only [List.mem_cons, List.not_mem_nil, or_false] at hr
  rcases hr with rfl
  ·
    have z0 : (Int32.ofInt 0).toInt = 0 := by decide
    have z1 : (Int32.ofInt 1).toInt = 1 := by decide
    refine ⟨Nat.le_of_ble_eq_true rfl, [(15, [true, true, true, true, true, false, true, false, true], (fun L t => ∃ (x3 : Int32) (x4 : Int64) (x6 : Int64) (x8 : Int32), L = [some (.ref 55), some (.int a1), some (.int a2), some (.int x3), some (.long x4), none, some (.long x6), none, some (.int x8)] ∧ x3.toInt ≤ (48 : Int) ∧ (0 : Int) ≤ x8.toInt ∧ x8.toInt ≤ (48 : Int) ∧ t = s0), (fun L _ => (10000000000000000 + (48 - (vg_li L 8).toInt) * 1000000000000).toNat)), (42, [true, true, true, true, true, false, true, false, true], (fun L t => ∃ (x3 : Int32) (x4 : Int64) (x6 : Int64) (x8 : Int32), L = [some (.ref 55), some (.int a1), some (.int a2), some (.int x3), some (.long x4), none, some (.long x6), none, some (.int x8)] ∧ x3.toInt ≤ (48 : Int) ∧ (0 : Int) ≤ x8.toInt ∧ x8.toInt ≤ (48 : Int) ∧ t = s0), (fun L _ => (48 - (vg_li L 8).toInt).toNat))], ?_, List.forall_mem_cons.mpr ⟨?_, List.forall_mem_cons.mpr ⟨?_, fun _ h => absurd h List.not_mem_nil⟩⟩⟩
    ·
      refine And.intro (Nat.le_of_ble_eq_true rfl) (And.intro ⟨55, a1, rfl, by decide, i0, by omega⟩ ?_)
      intro v1 s3 h2
      have h2 : s3 = s0 ∧ (v1.toInt ≤ 48) := h2
      have q6 := h2.1.symm
      subst q6
      have q7 := h2.2
      exact ⟨rfl, ⟨v1, (Int64.ofNat 0), (Int64.ofNat 0), (Int32.ofInt 0), rfl, (by omega), (by omega), (by omega), rfl⟩, trivial⟩
    ·
      intro L s15 hL
      obtain ⟨w8, w10, w11, w12, rfl, b9, b13, b14, q18⟩ := hL
      have q18 := q18.symm
      subst q18
      refine And.intro (fun c19 => ?_) (fun c19 => ?_)
      · have c19 : w8.toInt ≤ w12.toInt := c19
        exact ⟨rfl, ⟨w8, w10, w11, (Int32.ofInt 0), rfl, (by omega), (by omega), (by omega), rfl⟩, (by show (48 - (Int32.ofInt 0).toInt).toNat < (10000000000000000 + (48 - w12.toInt) * 1000000000000).toNat; omega)⟩
      · have c19 : ¬ (w8.toInt ≤ w12.toInt) := c19
        refine And.intro (Nat.le_of_ble_eq_true rfl) (And.intro ⟨55, a1, w12, rfl, by decide, i0, by omega⟩ ?_)
        intro v20 s22 h21
        have h21 : s22 = s0 ∧ (True) := h21
        have q25 := h21.1.symm
        subst q25
        intro v26 e27
        intro v28 e29
        have b30 := vg_add e29 (by omega) (by omega)
        exact ⟨rfl, ⟨w8, v26, w11, v28, rfl, (by omega), (by omega), (by omega), rfl⟩, (by show (10000000000000000 + (48 - v28.toInt) * 1000000000000).toNat < (10000000000000000 + (48 - w12.toInt) * 1000000000000).toNat; omega)⟩
    ·
      intro L s38 hL
      obtain ⟨w31, w33, w34, w35, rfl, b32, b36, b37, q41⟩ := hL
      have q41 := q41.symm
      subst q41
      intro v42 e43
      have b44 := vg_add e43 (by omega) (by omega)
      refine And.intro (fun c45 => ?_) (fun c45 => ?_)
      · have c45 : w31.toInt ≤ v42.toInt := c45
        show s0 = s0 ∧ (True)
        exact ⟨rfl, (trivial)⟩
      · have c45 : ¬ (w31.toInt ≤ v42.toInt) := c45
        intro v46 e47
        have b48 := vg_i2l e47
        refine And.intro (Nat.le_of_ble_eq_true rfl) (And.intro ⟨55, a1, w35, rfl, by decide, i0, by omega⟩ ?_)
        intro v49 s51 h50
        have h50 : s51 = s0 ∧ (True) := h50
        have q54 := h50.1.symm
        subst q54
        intro v55 e56
        intro v57 e58
        intro v59 e60
        have b61 := vg_i2l e60
        intro v62 e63
        have b64 := vg_add e63 (by omega) (by omega)
        refine And.intro (Nat.le_of_ble_eq_true rfl) (And.intro ⟨55, a1, v62, rfl, by decide, i0, by omega⟩ ?_)
        intro v65 s67 h66
        have h66 : s67 = s0 ∧ (True) := h66
        have q70 := h66.1.symm
        subst q70
        intro v71 e72
        intro v73 e74
        intro v75 e76
        intro v77 e78
        intro v79 e80
        have b81 := vg_add e80 (by omega) (by omega)
        exact ⟨rfl, ⟨w31, w33, v77, v79, rfl, (by omega), (by omega), (by omega), rfl⟩, (by show (48 - v79.toInt).toNat < (48 - w35.toInt).toNat; omega)⟩
def o_X11_beat : List vg_I := [(0, .iload_n 2, 1, 0, 0, 0, 0), (1, .iconst 0, 1, 0, 0, 0, 0), (2, .bipush 47, 2, 0, 0, 0, 0), (4, .invokestatic 76, 3, 0, 1, 3, 1175), (7, .ifCond .ne 10, 3, 0, 0, 0, 0), (10, .aload_n 0, 1, 0, 0, 0, 0), (11, .iconst 1, 1, 0, 0, 0, 0), (12, .invokevirtual 242, 3, 1, 11, 1, 1181), (15, .i2l, 1, 0, 0, 0, 0), (16, .lreturn, 1, 0, 0, 0, 0), (17, .iload_n 1, 1, 0, 0, 0, 0), (18, .iconst 0, 1, 0, 0, 0, 0), (19, .iconst 2, 1, 0, 0, 0, 0), (20, .invokestatic 76, 3, 0, 1, 3, 1175), (23, .ifCond .ne 10, 3, 0, 0, 0, 0), (26, .aload_n 0, 1, 0, 0, 0, 0), (27, .iconst 2, 1, 0, 0, 0, 0), (28, .invokevirtual 242, 3, 1, 11, 1, 1181), (31, .i2l, 1, 0, 0, 0, 0), (32, .lreturn, 1, 0, 0, 0, 0), (33, .aload_n 0, 1, 0, 0, 0, 0), (34, .iload_n 1, 1, 0, 0, 0, 0), (35, .invokevirtual 267, 3, 2, 11, 1, 1381), (38, .iload_n 2, 1, 0, 0, 0, 0), (39, .if_icmp .le 16, 3, 0, 0, 0, 0), (42, .aload_n 0, 1, 0, 0, 0, 0), (43, .aload_n 0, 1, 0, 0, 0, 0), (44, .iload_n 1, 1, 0, 0, 0, 0), (45, .iload_n 2, 1, 0, 0, 0, 0), (46, .invokevirtual 280, 3, 3, 11, 2, 1454), (49, .invokevirtual 270, 3, 4, 11, 1, 1393), (52, .goto 9, 3, 0, 0, 0, 0), (55, .aload_n 0, 1, 0, 0, 0, 0), (56, .iconst 5, 1, 0, 0, 0, 0), (57, .invokevirtual 242, 3, 1, 11, 1, 1181), (60, .i2l, 1, 0, 0, 0, 0), (61, .lreturn, 1, 0, 0, 0, 0)]
set_option maxRecDepth 100000 in
set_option maxHeartbeats 4000000 in
theorem c_X11_beat (l : Launch) (G : vg_G) (hp : vg_Hp G) : vg_Ct l G vg_sh r_X11_beat := by
  refine vg_meth hp vg_sh_ok r_X11_beat k_X11_beat rfl (fun h => by cases h) o_X11_beat [r_X11_isFrom, r_X11_refuse, r_X11_many, r_X11_beatOf, r_X11_givesLong] false (by decide +kernel) (by decide +kernel) ⟨_, _, rfl, rfl⟩ (List.forall_mem_cons.mpr ⟨⟨c_X11_isFrom l G hp, Nat.le_of_ble_eq_true rfl, Nat.le_of_ble_eq_true rfl⟩, List.forall_mem_cons.mpr ⟨⟨c_X11_refuse l G hp, Nat.le_of_ble_eq_true rfl, Nat.le_of_ble_eq_true rfl⟩, List.forall_mem_cons.mpr ⟨⟨c_X11_many l G hp, Nat.le_of_ble_eq_true rfl, Nat.le_of_ble_eq_true rfl⟩, List.forall_mem_cons.mpr ⟨⟨c_X11_beatOf l G hp, Nat.le_of_ble_eq_true rfl, Nat.le_of_ble_eq_true rfl⟩, List.forall_mem_cons.mpr ⟨⟨c_X11_givesLong l G hp, Nat.le_of_ble_eq_true rfl, Nat.le_of_ble_eq_true rfl⟩, fun _ h => absurd h List.not_mem_nil⟩⟩⟩⟩⟩) (fun h => by cases h) 600 ?_
  intro as s0 hpre
  obtain ⟨r, a1, a2, rfl, hr, i0⟩ := hpre
  simp only [List.mem_cons, List.not_mem_nil, or_false] at hr
  rcases hr with rfl
  ·
    have z0 : (Int32.ofInt 0).toInt = 0 := by decide
    have z1 : (Int32.ofInt 1).toInt = 1 := by decide
    have z2 : (Int32.ofInt 2).toInt = 2 := by decide
    have z5 : (Int32.ofInt 5).toInt = 5 := by decide
    have z47 : (Int32.ofInt 47).toInt = 47 := by decide
    refine ⟨Nat.le_of_ble_eq_true rfl, [], ?_, fun _ h => absurd h List.not_mem_nil⟩
    ·
      refine And.intro (Nat.le_of_ble_eq_true rfl) (And.intro ⟨a2, (Int32.ofInt 0), (Int32.ofInt 47), rfl, trivial⟩ ?_)
      intro v1 s3 h2
      have h2 : s3 = s0 ∧ ((v1.toInt = 1 ∧ (Int32.ofInt 0).toInt ≤ a2.toInt ∧ a2.toInt ≤ (Int32.ofInt 47).toInt) ∨ (v1.toInt = 0 ∧ (a2.toInt < (Int32.ofInt 0).toInt ∨ (Int32.ofInt 47).toInt < a2.toInt))) := h2
      have q6 := h2.1.symm
      subst q6
      have q7 := h2.2
      refine And.intro (fun c8 => ?_) (fun c8 => ?_)
      · have c8 : ¬ v1.toInt = 0 := c8
        refine And.intro (Nat.le_of_ble_eq_true rfl) (And.intro ⟨a1, (Int32.ofInt 0), (Int32.ofInt 2), rfl, trivial⟩ ?_)
        intro v9 s11 h10
        have h10 : s11 = s0 ∧ ((v9.toInt = 1 ∧ (Int32.ofInt 0).toInt ≤ a1.toInt ∧ a1.toInt ≤ (Int32.ofInt 2).toInt) ∨ (v9.toInt = 0 ∧ (a1.toInt < (Int32.ofInt 0).toInt ∨ (Int32.ofInt 2).toInt < a1.toInt))) := h10
        have q14 := h10.1.symm
        subst q14
        have q15 := h10.2
        refine And.intro (fun c16 => ?_) (fun c16 => ?_)
        · have c16 : ¬ v9.toInt = 0 := c16
          refine And.intro (Nat.le_of_ble_eq_true rfl) (And.intro ⟨55, a1, rfl, by decide, i0, by omega⟩ ?_)
          intro v17 s19 h18
          have h18 : s19 = s0 ∧ (v17.toInt ≤ 48) := h18
          have q22 := h18.1.symm
          subst q22
          have q23 := h18.2
          refine And.intro (fun c24 => ?_) (fun c24 => ?_)
          · have c24 : v17.toInt ≤ a2.toInt := c24
            refine And.intro (Nat.le_of_ble_eq_true rfl) (And.intro ⟨55, (Int32.ofInt 5), rfl, by decide, i0⟩ ?_)
            intro v25 s27 h26
            have h26 : Iv s27 ∧ Kp s0 s27 ∧ (v25.toInt = -1) := h26
            have i28 := h26.1
            have k29 : Kp s0 s27 := Kx.tr Kx.rf (h26.2.1)
            have q30 := h26.2.2
            intro v31 e32
            show Iv s27 ∧ Kp s0 s27 ∧ (True)
            exact ⟨i28, k29, (trivial)⟩
          · have c24 : ¬ (v17.toInt ≤ a2.toInt) := c24
            refine And.intro (Nat.le_of_ble_eq_true rfl) (And.intro ⟨55, a1, a2, rfl, by decide, i0, by omega⟩ ?_)
            intro v33 s35 h34
            have h34 : s35 = s0 ∧ (True) := h34
            have q38 := h34.1.symm
            subst q38
            refine And.intro (Nat.le_of_ble_eq_true rfl) (And.intro ⟨55, v33, rfl, by decide, i0⟩ ?_)
            intro v39 s41 h40
            have h40 : Iv s41 ∧ Kp s0 s41 ∧ (v39 = v33) := h40
            have i42 := h40.1
            have k43 : Kp s0 s41 := Kx.tr Kx.rf (h40.2.1)
            have q44 := h40.2.2
            show Iv s41 ∧ Kp s0 s41 ∧ (True)
            exact ⟨i42, k43, (trivial)⟩
        · have c16 : ¬ (¬ v9.toInt = 0) := c16
          refine And.intro (Nat.le_of_ble_eq_true rfl) (And.intro ⟨55, (Int32.ofInt 2), rfl, by decide, i0⟩ ?_)
          intro v45 s47 h46
          have h46 : Iv s47 ∧ Kp s0 s47 ∧ (v45.toInt = -1) := h46
          have i48 := h46.1
          have k49 : Kp s0 s47 := Kx.tr Kx.rf (h46.2.1)
          have q50 := h46.2.2
          intro v51 e52
          show Iv s47 ∧ Kp s0 s47 ∧ (True)
          exact ⟨i48, k49, (trivial)⟩
      · have c8 : ¬ (¬ v1.toInt = 0) := c8
        refine And.intro (Nat.le_of_ble_eq_true rfl) (And.intro ⟨55, (Int32.ofInt 1), rfl, by decide, i0⟩ ?_)
        intro v53 s55 h54
        have h54 : Iv s55 ∧ Kp s0 s55 ∧ (v53.toInt = -1) := h54
        have i56 := h54.1
        have k57 : Kp s0 s55 := Kx.tr Kx.rf (h54.2.1)
        have q58 := h54.2.2
        intro v59 e60
        show Iv s55 ∧ Kp s0 s55 ∧ (True)
        exact ⟨i56, k57, (trivial)⟩
def o_X11_tonal : List vg_I := [(0, .iload_n 1, 1, 0, 0, 0, 0), (1, .iconst 0, 1, 0, 0, 0, 0), (2, .iconst 2, 1, 0, 0, 0, 0), (3, .invokestatic 76, 3, 0, 1, 3, 1175), (6, .ifCond .ne 9, 3, 0, 0, 0, 0), (9, .aload_n 0, 1, 0, 0, 0, 0), (10, .iconst 2, 1, 0, 0, 0, 0), (11, .invokevirtual 242, 3, 1, 11, 1, 1181), (14, .ireturn, 1, 0, 0, 0, 0), (15, .aload_n 0, 1, 0, 0, 0, 0), (16, .iload_n 1, 1, 0, 0, 0, 0), (17, .invokevirtual 267, 3, 2, 11, 1, 1381), (20, .bipush 24, 2, 0, 0, 0, 0), (22, .if_icmp .gt 9, 3, 0, 0, 0, 0), (25, .aload_n 0, 1, 0, 0, 0, 0), (26, .iconst 5, 1, 0, 0, 0, 0), (27, .invokevirtual 242, 3, 1, 11, 1, 1181), (30, .ireturn, 1, 0, 0, 0, 0), (31, .iconst 2, 1, 0, 0, 0, 0), (32, .istore_n 2, 1, 0, 0, 0, 0), (33, .iconst 3, 1, 0, 0, 0, 0), (34, .istore_n 3, 1, 0, 0, 0, 0), (35, .iload_n 3, 1, 0, 0, 0, 0), (36, .bipush 24, 2, 0, 0, 0, 0), (38, .if_icmp .gt 31, 3, 0, 0, 0, 0), (41, .aload_n 0, 1, 0, 0, 0, 0), (42, .iload_n 1, 1, 0, 0, 0, 0), (43, .iload_n 3, 1, 0, 0, 0, 0), (44, .invokevirtual 280, 3, 3, 11, 2, 1454), (47, .aload_n 0, 1, 0, 0, 0, 0), (48, .iload_n 1, 1, 0, 0, 0, 0), (49, .iload_n 2, 1, 0, 0, 0, 0), (50, .invokevirtual 280, 3, 3, 11, 2, 1454), (53, .lcmp, 1, 0, 0, 0, 0), (54, .ifCond .le 7, 3, 0, 0, 0, 0), (57, .iload_n 3, 1, 0, 0, 0, 0), (58, .goto 4, 3, 0, 0, 0, 0), (61, .iload_n 2, 1, 0, 0, 0, 0), (62, .istore_n 2, 1, 0, 0, 0, 0), (63, .iinc 3 1, 3, 0, 0, 0, 0), (66, .goto (-31), 3, 0, 0, 0, 0), (69, .aload_n 0, 1, 0, 0, 0, 0), (70, .iload_n 2, 1, 0, 0, 0, 0), (71, .invokevirtual 249, 3, 4, 11, 1, 1206), (74, .ireturn, 1, 0, 0, 0, 0)]
set_option maxRecDepth 100000 in
set_option maxHeartbeats 4000000 in
theorem c_X11_tonal (l : Launch) (G : vg_G) (hp : vg_Hp G) : vg_Ct l G vg_sh r_X11_tonal := by
  refine vg_meth hp vg_sh_ok r_X11_tonal k_X11_tonal rfl (fun h => by cases h) o_X11_tonal [r_X11_isFrom, r_X11_refuse, r_X11_many, r_X11_beatOf, r_X11_gives] false (by decide +kernel) (by decide +kernel) ⟨_, _, rfl, rfl⟩ (List.forall_mem_cons.mpr ⟨⟨c_X11_isFrom l G hp, Nat.le_of_ble_eq_true rfl, Nat.le_of_ble_eq_true rfl⟩, List.forall_mem_cons.mpr ⟨⟨c_X11_refuse l G hp, Nat.le_of_ble_eq_true rfl, Nat.le_of_ble_eq_true rfl⟩, List.forall_mem_cons.mpr ⟨⟨c_X11_many l G hp, Nat.le_of_ble_eq_true rfl, Nat.le_of_ble_eq_true rfl⟩, List.forall_mem_cons.mpr ⟨⟨c_X11_beatOf l G hp, Nat.le_of_ble_eq_true rfl, Nat.le_of_ble_eq_true rfl⟩, List.forall_mem_cons.mpr ⟨⟨c_X11_gives l G hp, Nat.le_of_ble_eq_true rfl, Nat.le_of_ble_eq_true rfl⟩, fun _ h => absurd h List.not_mem_nil⟩⟩⟩⟩⟩) (fun h => by cases h) 600 ?_
  intro as s0 hpre
  obtain ⟨r, a1, rfl, hr, i0⟩ := hpre
  simp only [List.mem_cons, List.not_mem_nil, or_false] at hr
  rcases hr with rfl
  ·
    have z0 : (Int32.ofInt 0).toInt = 0 := by decide
    have z1 : (Int32.ofInt 1).toInt = 1 := by decide
    have z2 : (Int32.ofInt 2).toInt = 2 := by decide
    have z3 : (Int32.ofInt 3).toInt = 3 := by decide
    have z5 : (Int32.ofInt 5).toInt = 5 := by decide
    have z24 : (Int32.ofInt 24).toInt = 24 := by decide
    refine ⟨Nat.le_of_ble_eq_true rfl, [(35, [true, true, true, true], (fun L t => ∃ (x2 : Int32) (x3 : Int32), L = [some (.ref 55), some (.int a1), some (.int x2), some (.int x3)] ∧ (2 : Int) ≤ x2.toInt ∧ x2.toInt ≤ (24 : Int) ∧ (3 : Int) ≤ x3.toInt ∧ x3.toInt ≤ (25 : Int) ∧ (0 : Int) ≤ a1.toInt ∧ a1.toInt ≤ (2 : Int) ∧ Iv t ∧ Kp s0 t), (fun L _ => (0 + (25 - (vg_li L 3).toInt) * 1000000000000).toNat))], ?_, List.forall_mem_cons.mpr ⟨?_, fun _ h => absurd h List.not_mem_nil⟩⟩
    ·
      refine And.intro (Nat.le_of_ble_eq_true rfl) (And.intro ⟨a1, (Int32.ofInt 0), (Int32.ofInt 2), rfl, trivial⟩ ?_)
      intro v1 s3 h2
      have h2 : s3 = s0 ∧ ((v1.toInt = 1 ∧ (Int32.ofInt 0).toInt ≤ a1.toInt ∧ a1.toInt ≤ (Int32.ofInt 2).toInt) ∨ (v1.toInt = 0 ∧ (a1.toInt < (Int32.ofInt 0).toInt ∨ (Int32.ofInt 2).toInt < a1.toInt))) := h2
      have q6 := h2.1.symm
      subst q6
      have q7 := h2.2
      refine And.intro (fun c8 => ?_) (fun c8 => ?_)
      · have c8 : ¬ v1.toInt = 0 := c8
        refine And.intro (Nat.le_of_ble_eq_true rfl) (And.intro ⟨55, a1, rfl, by decide, i0, by omega⟩ ?_)
        intro v9 s11 h10
        have h10 : s11 = s0 ∧ (v9.toInt ≤ 48) := h10
        have q14 := h10.1.symm
        subst q14
        have q15 := h10.2
        refine And.intro (fun c16 => ?_) (fun c16 => ?_)
        · have c16 : (Int32.ofInt 24).toInt < v9.toInt := c16
          exact ⟨rfl, ⟨(Int32.ofInt 2), (Int32.ofInt 3), rfl, (by omega), (by omega), (by omega), (by omega), (by omega), (by omega), i0, Kx.rf⟩, trivial⟩
        · have c16 : ¬ ((Int32.ofInt 24).toInt < v9.toInt) := c16
          refine And.intro (Nat.le_of_ble_eq_true rfl) (And.intro ⟨55, (Int32.ofInt 5), rfl, by decide, i0⟩ ?_)
          intro v17 s19 h18
          have h18 : Iv s19 ∧ Kp s0 s19 ∧ (v17.toInt = -1) := h18
          have i20 := h18.1
          have k21 : Kp s0 s19 := Kx.tr Kx.rf (h18.2.1)
          have q22 := h18.2.2
          show Iv s19 ∧ Kp s0 s19 ∧ (True)
          exact ⟨i20, k21, (trivial)⟩
      · have c8 : ¬ (¬ v1.toInt = 0) := c8
        refine And.intro (Nat.le_of_ble_eq_true rfl) (And.intro ⟨55, (Int32.ofInt 2), rfl, by decide, i0⟩ ?_)
        intro v23 s25 h24
        have h24 : Iv s25 ∧ Kp s0 s25 ∧ (v23.toInt = -1) := h24
        have i26 := h24.1
        have k27 : Kp s0 s25 := Kx.tr Kx.rf (h24.2.1)
        have q28 := h24.2.2
        show Iv s25 ∧ Kp s0 s25 ∧ (True)
        exact ⟨i26, k27, (trivial)⟩
    ·
      intro L s37 hL
      obtain ⟨w29, w32, rfl, b30, b31, b33, b34, b35, b36, i38, k39⟩ := hL
      refine And.intro (fun c40 => ?_) (fun c40 => ?_)
      · have c40 : (Int32.ofInt 24).toInt < w32.toInt := c40
        refine And.intro (Nat.le_of_ble_eq_true rfl) (And.intro ⟨55, w29, rfl, by decide, i38⟩ ?_)
        intro v41 s43 h42
        have h42 : Iv s43 ∧ Kp s37 s43 ∧ (v41 = w29 ∧ v41.toInt = w29.toInt) := h42
        have i44 := h42.1
        have k45 : Kp s0 s43 := Kx.tr k39 (h42.2.1)
        have q46 := h42.2.2
        show Iv s43 ∧ Kp s0 s43 ∧ (True)
        exact ⟨i44, k45, (trivial)⟩
      · have c40 : ¬ ((Int32.ofInt 24).toInt < w32.toInt) := c40
        refine And.intro (Nat.le_of_ble_eq_true rfl) (And.intro ⟨55, a1, w32, rfl, by decide, i38, by omega⟩ ?_)
        intro v47 s49 h48
        have h48 : s49 = s37 ∧ (True) := h48
        have q52 := h48.1.symm
        subst q52
        refine And.intro (Nat.le_of_ble_eq_true rfl) (And.intro ⟨55, a1, w29, rfl, by decide, i38, by omega⟩ ?_)
        intro v53 s55 h54
        have h54 : s55 = s37 ∧ (True) := h54
        have q58 := h54.1.symm
        subst q58
        intro v59 e60
        refine And.intro (fun c61 => ?_) (fun c61 => ?_)
        · have c61 : v59.toInt ≤ 0 := c61
          intro v62 e63
          have b64 := vg_add e63 (by omega) (by omega)
          exact ⟨rfl, ⟨w29, v62, rfl, (by omega), (by omega), (by omega), (by omega), (by omega), (by omega), i38, k39⟩, (by show (0 + (25 - v62.toInt) * 1000000000000).toNat < (0 + (25 - w32.toInt) * 1000000000000).toNat; omega)⟩
        · have c61 : ¬ (v59.toInt ≤ 0) := c61
          intro v65 e66
          have b67 := vg_add e66 (by omega) (by omega)
          exact ⟨rfl, ⟨w32, v65, rfl, (by omega), (by omega), (by omega), (by omega), (by omega), (by omega), i38, k39⟩, (by show (0 + (25 - v65.toInt) * 1000000000000).toNat < (0 + (25 - w32.toInt) * 1000000000000).toNat; omega)⟩
def o_X11_lays : List vg_I := [(0, .iconst 0, 1, 0, 0, 0, 0), (1, .istore_n 2, 1, 0, 0, 0, 0), (2, .iload_n 2, 1, 0, 0, 0, 0), (3, .bipush 16, 2, 0, 0, 0, 0), (5, .if_icmp .ge 29, 3, 0, 0, 0, 0), (8, .aload_n 0, 1, 0, 0, 0, 0), (9, .getfield 61, 3, 1089, 11, 28, 0), (12, .bipush 17, 2, 0, 0, 0, 0), (14, .iload_n 1, 1, 0, 0, 0, 0), (15, .imul, 1, 0, 0, 0, 0), (16, .iload_n 2, 1, 0, 0, 0, 0), (17, .iadd, 1, 0, 0, 0, 0), (18, .aload_n 0, 1, 0, 0, 0, 0), (19, .getfield 7, 3, 1061, 11, 0, 0), (22, .bipush 23, 2, 0, 0, 0, 0), (24, .iload_n 2, 1, 0, 0, 0, 0), (25, .iadd, 1, 0, 0, 0, 0), (26, .laload, 1, 0, 0, 0, 0), (27, .lastore, 1, 0, 0, 0, 0), (28, .iinc 2 1, 3, 0, 0, 0, 0), (31, .goto (-29), 3, 0, 0, 0, 0), (34, .aload_n 0, 1, 0, 0, 0, 0), (35, .getfield 61, 3, 1089, 11, 28, 0), (38, .bipush 17, 2, 0, 0, 0, 0), (40, .iload_n 1, 1, 0, 0, 0, 0), (41, .imul, 1, 0, 0, 0, 0), (42, .bipush 16, 2, 0, 0, 0, 0), (44, .iadd, 1, 0, 0, 0, 0), (45, .aload_n 0, 1, 0, 0, 0, 0), (46, .getfield 99, 3, 1068, 11, 7, 0), (49, .iconst 1, 1, 0, 0, 0, 0), (50, .if_icmp .ne 12, 3, 0, 0, 0, 0), (53, .aload_n 0, 1, 0, 0, 0, 0), (54, .getfield 7, 3, 1061, 11, 0, 0), (57, .iconst 2, 1, 0, 0, 0, 0), (58, .laload, 1, 0, 0, 0, 0), (59, .goto 4, 3, 0, 0, 0, 0), (62, .lconst 0, 1, 0, 0, 0, 0), (63, .lastore, 1, 0, 0, 0, 0), (64, .return_, 1, 0, 0, 0, 0)]
set_option maxRecDepth 100000 in
set_option maxHeartbeats 4000000 in
theorem c_X11_lays (l : Launch) (G : vg_G) (hp : vg_Hp G) : vg_Ct l G vg_sh r_X11_lays := by
  refine vg_meth hp vg_sh_ok r_X11_lays k_X11_lays rfl (fun h => by cases h) o_X11_lays [] false (by decide +kernel) (by decide +kernel) ⟨_, _, rfl, rfl⟩ (fun _ h => absurd h List.not_mem_nil) (fun h => by cases h) 600 ?_
  intro as s0 hpre
  obtain ⟨r, a1, rfl, hr, i0, p0⟩ := hpre
  simp only [List.mem_cons, List.not_mem_nil, or_false] at hr
  rcases hr with rfl
  ·
    have z0 : (Int32.ofInt 0).toInt = 0 := by decide
    have z1 : (Int32.ofInt 1).toInt = 1 := by decide
    have z2 : (Int32.ofInt 2).toInt = 2 := by decide
    have z16 : (Int32.ofInt 16).toInt = 16 := by decide
    have z17 : (Int32.ofInt 17).toInt = 17 := by decide
    have z23 : (Int32.ofInt 23).toInt = 23 := by decide
    refine ⟨Nat.le_of_ble_eq_true rfl, [(2, [true, true, true], (fun L t => ∃ (x2 : Int32), L = [some (.ref 55), some (.int a1), some (.int x2)] ∧ (0 : Int) ≤ x2.toInt ∧ x2.toInt ≤ (16 : Int) ∧ Iv t ∧ Kp s0 t), (fun L _ => (0 + (16 - (vg_li L 2).toInt) * 1000000000000).toNat))], ?_, List.forall_mem_cons.mpr ⟨?_, fun _ h => absurd h List.not_mem_nil⟩⟩
    ·
      exact ⟨rfl, ⟨(Int32.ofInt 0), rfl, (by omega), (by omega), i0, Kx.rf⟩, trivial⟩
    ·
      intro L s4 hL
      obtain ⟨w1, rfl, b2, b3, i5, k6⟩ := hL
      refine And.intro (fun c7 => ?_) (fun c7 => ?_)
      · have c7 : (Int32.ofInt 16).toInt ≤ w1.toInt := c7
        intro v8 e9
        have b10 : v8.toInt = (17) * a1.toInt := vg_mulL e9 (by omega) (by omega) (by omega)
        intro v11 e12
        have b13 := vg_add e12 (by omega) (by omega)
        intro v14 e15
        have g16 : s4.1 55 7 = v14 := by rw [e15]
        refine And.intro (fun c17 => ?_) (fun c17 => ?_)
        · have c17 : ¬ v14.toInt = (Int32.ofInt 1).toInt := c17
          refine And.intro ⟨by omega, by omega⟩ ?_
          intro s18 e19
          have i20 : Iv s18 := Iv.u2 i5 e19
          have k21 : Kp s0 s18 := Kx.u2 k6 e19 (vg_kq_no ⟨rfl, rfl, rfl⟩).1
          show Iv s18 ∧ Kp s0 s18 ∧ (True)
          exact ⟨i20, k21, (trivial)⟩
        · have c17 : ¬ (¬ v14.toInt = (Int32.ofInt 1).toInt) := c17
          refine And.intro ⟨by omega, by omega⟩ ?_
          intro v22 e23
          refine And.intro ⟨by omega, by omega⟩ ?_
          intro s24 e25
          have i26 : Iv s24 := Iv.u2 i5 e25
          have k27 : Kp s0 s24 := Kx.u2 k6 e25 (vg_kq_no ⟨rfl, rfl, rfl⟩).1
          show Iv s24 ∧ Kp s0 s24 ∧ (True)
          exact ⟨i26, k27, (trivial)⟩
      · have c7 : ¬ ((Int32.ofInt 16).toInt ≤ w1.toInt) := c7
        intro v28 e29
        have b30 : v28.toInt = (17) * a1.toInt := vg_mulL e29 (by omega) (by omega) (by omega)
        intro v31 e32
        have b33 := vg_add e32 (by omega) (by omega)
        intro v34 e35
        have b36 := vg_add e35 (by omega) (by omega)
        refine And.intro ⟨by omega, by omega⟩ ?_
        intro v37 e38
        refine And.intro ⟨by omega, by omega⟩ ?_
        intro s39 e40
        have i41 : Iv s39 := Iv.u2 i5 e40
        have k42 : Kp s0 s39 := Kx.u2 k6 e40 (vg_kq_no ⟨rfl, rfl, rfl⟩).1
        intro v43 e44
        have b45 := vg_add e44 (by omega) (by omega)
        exact ⟨rfl, ⟨v43, rfl, (by omega), (by omega), i41, k42⟩, (by show (0 + (16 - v43.toInt) * 1000000000000).toNat < (0 + (16 - w1.toInt) * 1000000000000).toNat; omega)⟩
def o_X11_isLike : List vg_I := [(0, .iconst 0, 1, 0, 0, 0, 0), (1, .istore_n 3, 1, 0, 0, 0, 0), (2, .iload_n 3, 1, 0, 0, 0, 0), (3, .bipush 17, 2, 0, 0, 0, 0), (5, .if_icmp .ge 37, 3, 0, 0, 0, 0), (8, .aload_n 0, 1, 0, 0, 0, 0), (9, .getfield 61, 3, 1089, 11, 28, 0), (12, .bipush 17, 2, 0, 0, 0, 0), (14, .iload_n 1, 1, 0, 0, 0, 0), (15, .imul, 1, 0, 0, 0, 0), (16, .iload_n 3, 1, 0, 0, 0, 0), (17, .iadd, 1, 0, 0, 0, 0), (18, .laload, 1, 0, 0, 0, 0), (19, .aload_n 0, 1, 0, 0, 0, 0), (20, .getfield 61, 3, 1089, 11, 28, 0), (23, .bipush 17, 2, 0, 0, 0, 0), (25, .iload_n 2, 1, 0, 0, 0, 0), (26, .imul, 1, 0, 0, 0, 0), (27, .iload_n 3, 1, 0, 0, 0, 0), (28, .iadd, 1, 0, 0, 0, 0), (29, .laload, 1, 0, 0, 0, 0), (30, .lcmp, 1, 0, 0, 0, 0), (31, .ifCond .eq 5, 3, 0, 0, 0, 0), (34, .iconst 0, 1, 0, 0, 0, 0), (35, .ireturn, 1, 0, 0, 0, 1), (36, .iinc 3 1, 3, 0, 0, 0, 0), (39, .goto (-37), 3, 0, 0, 0, 0), (42, .iconst 1, 1, 0, 0, 0, 0), (43, .ireturn, 1, 0, 0, 0, 1)]
set_option maxRecDepth 100000 in
set_option maxHeartbeats 4000000 in
theorem c_X11_isLike (l : Launch) (G : vg_G) (hp : vg_Hp G) : vg_Ct l G vg_sh r_X11_isLike := by
  refine vg_meth hp vg_sh_ok r_X11_isLike k_X11_isLike rfl (fun h => by cases h) o_X11_isLike [] false (by decide +kernel) (by decide +kernel) ⟨_, _, rfl, rfl⟩ (fun _ h => absurd h List.not_mem_nil) (fun h => by cases h) 600 ?_
  intro as s0 hpre
  obtain ⟨r, a1, a2, rfl, hr, i0, p0⟩ := hpre
  simp only [List.mem_cons, List.not_mem_nil, or_false] at hr
  rcases hr with rfl
  ·
    have z0 : (Int32.ofInt 0).toInt = 0 := by decide
    have z1 : (Int32.ofInt 1).toInt = 1 := by decide
    have z17 : (Int32.ofInt 17).toInt = 17 := by decide
    refine ⟨Nat.le_of_ble_eq_true rfl, [(2, [true, true, true, true], (fun L t => ∃ (x3 : Int32), L = [some (.ref 55), some (.int a1), some (.int a2), some (.int x3)] ∧ (0 : Int) ≤ x3.toInt ∧ x3.toInt ≤ (17 : Int) ∧ t = s0), (fun L _ => (0 + (17 - (vg_li L 3).toInt) * 1000000000000).toNat))], ?_, List.forall_mem_cons.mpr ⟨?_, fun _ h => absurd h List.not_mem_nil⟩⟩
    ·
      exact ⟨rfl, ⟨(Int32.ofInt 0), rfl, (by omega), (by omega), rfl⟩, trivial⟩
    ·
      intro L s4 hL
      obtain ⟨w1, rfl, b2, b3, q7⟩ := hL
      have q7 := q7.symm
      subst q7
      refine And.intro (fun c8 => ?_) (fun c8 => ?_)
      · have c8 : (Int32.ofInt 17).toInt ≤ w1.toInt := c8
        refine And.intro (by first | exact Or.inl rfl | exact Or.inr rfl | exact vg_01 (by omega) (by omega)) ?_
        show s0 = s0 ∧ (0 ≤ (Int32.ofInt 1).toInt ∧ (Int32.ofInt 1).toInt ≤ 1)
        exact ⟨rfl, (by first | trivial | omega | assumption)⟩
      · have c8 : ¬ ((Int32.ofInt 17).toInt ≤ w1.toInt) := c8
        intro v9 e10
        have b11 : v9.toInt = (17) * a1.toInt := vg_mulL e10 (by omega) (by omega) (by omega)
        intro v12 e13
        have b14 := vg_add e13 (by omega) (by omega)
        refine And.intro ⟨by omega, by omega⟩ ?_
        intro v15 e16
        intro v17 e18
        have b19 : v17.toInt = (17) * a2.toInt := vg_mulL e18 (by omega) (by omega) (by omega)
        intro v20 e21
        have b22 := vg_add e21 (by omega) (by omega)
        refine And.intro ⟨by omega, by omega⟩ ?_
        intro v23 e24
        intro v25 e26
        refine And.intro (fun c27 => ?_) (fun c27 => ?_)
        · have c27 : v25.toInt = 0 := c27
          intro v28 e29
          have b30 := vg_add e29 (by omega) (by omega)
          exact ⟨rfl, ⟨v28, rfl, (by omega), (by omega), rfl⟩, (by show (0 + (17 - v28.toInt) * 1000000000000).toNat < (0 + (17 - w1.toInt) * 1000000000000).toNat; omega)⟩
        · have c27 : ¬ (v25.toInt = 0) := c27
          refine And.intro (by first | exact Or.inl rfl | exact Or.inr rfl | exact vg_01 (by omega) (by omega)) ?_
          show s0 = s0 ∧ (0 ≤ (Int32.ofInt 0).toInt ∧ (Int32.ofInt 0).toInt ≤ 1)
          exact ⟨rfl, (by first | trivial | omega | assumption)⟩
def o_X11_tones : List vg_I := [(0, .aload_n 0, 1, 0, 0, 0, 0), (1, .getfield 7, 3, 1061, 11, 0, 0), (4, .aload_n 0, 1, 0, 0, 0, 0), (5, .getfield 13, 3, 1062, 11, 1, 0), (8, .invokestatic 283, 3, 0, 1, 2, 1474), (11, .aload_n 0, 1, 0, 0, 0, 0), (12, .invokevirtual 84, 3, 1, 11, 0, 1193), (15, .aload_n 0, 1, 0, 0, 0, 0), (16, .iconst 0, 1, 0, 0, 0, 0), (17, .invokevirtual 287, 3, 2, 11, 1, 1477), (20, .aload_n 0, 1, 0, 0, 0, 0), (21, .iconst (-1), 1, 0, 0, 0, 0), (22, .putfield 290, 3, 1092, 11, 31, 0), (25, .iconst 0, 1, 0, 0, 0, 0), (26, .istore_n 3, 1, 0, 0, 0, 0), (27, .iload_n 3, 1, 0, 0, 0, 0), (28, .sipush 1000, 3, 0, 0, 0, 0), (31, .if_icmp .ge 94, 3, 0, 0, 0, 0), (34, .iload_n 2, 1, 0, 0, 0, 0), (35, .ifCond .ne 11, 3, 0, 0, 0, 0), (38, .aload_n 0, 1, 0, 0, 0, 0), (39, .getfield 290, 3, 1092, 11, 31, 0), (42, .iconst (-1), 1, 0, 0, 0, 0), (43, .if_icmp .ne 82, 3, 0, 0, 0, 0), (46, .aload_n 0, 1, 0, 0, 0, 0), (47, .getfield 64, 3, 1090, 11, 29, 0), (50, .iload_n 3, 1, 0, 0, 0, 0), (51, .aload_n 0, 1, 0, 0, 0, 0), (52, .iload_n 1, 1, 0, 0, 0, 0), (53, .iconst 0, 1, 0, 0, 0, 0), (54, .invokevirtual 213, 3, 3, 11, 2, 1293), (57, .iastore, 1, 0, 0, 0, 0), (58, .aload_n 0, 1, 0, 0, 0, 0), (59, .iload_n 3, 1, 0, 0, 0, 0), (60, .iconst 1, 1, 0, 0, 0, 0), (61, .iadd, 1, 0, 0, 0, 0), (62, .invokevirtual 287, 3, 2, 11, 1, 1477), (65, .iconst 0, 1, 0, 0, 0, 0), (66, .istore 4, 2, 0, 0, 0, 0), (68, .iload 4, 2, 0, 0, 0, 0), (70, .iload_n 3, 1, 0, 0, 0, 0), (71, .if_icmp .gt 48, 3, 0, 0, 0, 0), (74, .aload_n 0, 1, 0, 0, 0, 0), (75, .getfield 290, 3, 1092, 11, 31, 0), (78, .iconst (-1), 1, 0, 0, 0, 0), (79, .if_icmp .ne 40, 3, 0, 0, 0, 0), (82, .aload_n 0, 1, 0, 0, 0, 0), (83, .iload 4, 2, 0, 0, 0, 0), (85, .iload_n 3, 1, 0, 0, 0, 0), (86, .iconst 1, 1, 0, 0, 0, 0), (87, .iadd, 1, 0, 0, 0, 0), (88, .invokevirtual 293, 3, 4, 11, 2, 1481), (91, .ifCond .ne 6, 3, 0, 0, 0, 0), (94, .goto 19, 3, 0, 0, 0, 0), (97, .aload_n 0, 1, 0, 0, 0, 0), (98, .iload 4, 2, 0, 0, 0, 0), (100, .putfield 297, 3, 1091, 11, 30, 0), (103, .aload_n 0, 1, 0, 0, 0, 0), (104, .iload_n 3, 1, 0, 0, 0, 0), (105, .iconst 1, 1, 0, 0, 0, 0), (106, .iadd, 1, 0, 0, 0, 0), (107, .iload 4, 2, 0, 0, 0, 0), (109, .isub, 1, 0, 0, 0, 0), (110, .putfield 290, 3, 1092, 11, 31, 0), (113, .iinc 4 1, 3, 0, 0, 0, 0), (116, .goto (-48), 3, 0, 0, 0, 0), (119, .iinc 3 1, 3, 0, 0, 0, 0), (122, .goto (-95), 3, 0, 0, 0, 0), (125, .aload_n 0, 1, 0, 0, 0, 0), (126, .getfield 13, 3, 1062, 11, 1, 0), (129, .aload_n 0, 1, 0, 0, 0, 0), (130, .getfield 7, 3, 1061, 11, 0, 0), (133, .invokestatic 283, 3, 0, 1, 2, 1474), (136, .return_, 1, 0, 0, 0, 0)]
set_option maxRecDepth 100000 in
set_option maxHeartbeats 4000000 in
theorem c_X11_tones (l : Launch) (G : vg_G) (hp : vg_Hp G) : vg_Ct l G vg_sh r_X11_tones := by
  refine vg_meth hp vg_sh_ok r_X11_tones k_X11_tones rfl (fun h => by cases h) o_X11_tones [r_X11_copies, r_X11_beginsLoop, r_X11_lays, r_X11_loops, r_X11_isLike] false (by decide +kernel) (by decide +kernel) ⟨_, _, rfl, rfl⟩ (List.forall_mem_cons.mpr ⟨⟨c_X11_copies l G hp, Nat.le_of_ble_eq_true rfl, Nat.le_of_ble_eq_true rfl⟩, List.forall_mem_cons.mpr ⟨⟨c_X11_beginsLoop l G hp, Nat.le_of_ble_eq_true rfl, Nat.le_of_ble_eq_true rfl⟩, List.forall_mem_cons.mpr ⟨⟨c_X11_lays l G hp, Nat.le_of_ble_eq_true rfl, Nat.le_of_ble_eq_true rfl⟩, List.forall_mem_cons.mpr ⟨⟨c_X11_loops l G hp, Nat.le_of_ble_eq_true rfl, Nat.le_of_ble_eq_true rfl⟩, List.forall_mem_cons.mpr ⟨⟨c_X11_isLike l G hp, Nat.le_of_ble_eq_true rfl, Nat.le_of_ble_eq_true rfl⟩, fun _ h => absurd h List.not_mem_nil⟩⟩⟩⟩⟩) (fun h => by cases h) 600 ?_
  intro as s0 hpre
  obtain ⟨r, a1, a2, rfl, hr, i0⟩ := hpre
  simp only [List.mem_cons, List.not_mem_nil, or_false] at hr
  rcases hr with rfl
  ·
    have zm1 : (Int32.ofInt (-1)).toInt = -1 := by decide
    have z0 : (Int32.ofInt 0).toInt = 0 := by decide
    have z1 : (Int32.ofInt 1).toInt = 1 := by decide
    have z1000 : (Int32.ofInt 1000).toInt = 1000 := by decide
    refine ⟨Nat.le_of_ble_eq_true rfl, [(27, [true, true, true, true, false], (fun L t => ∃ (x3 : Int32), L = [some (.ref 55), some (.int a1), some (.int a2), some (.int x3), none] ∧ (0 : Int) ≤ x3.toInt ∧ x3.toInt ≤ (1000 : Int) ∧ (t.2 57 0 = s0.2 56 0) ∧ ((t.1 55 31).toInt = -1 ∨ (0 ≤ (t.1 55 30).toInt ∧ 1 ≤ (t.1 55 31).toInt ∧ (t.1 55 30).toInt + (t.1 55 31).toInt ≤ 1000)) ∧ Iv t ∧ Kt s0 t), (fun L _ => (0 + (1000 - (vg_li L 3).toInt) * 1000000000000).toNat)), (68, [true, true, true, true, true], (fun L t => ∃ (x3 : Int32) (x4 : Int32), L = [some (.ref 55), some (.int a1), some (.int a2), some (.int x3), some (.int x4)] ∧ (0 : Int) ≤ x3.toInt ∧ x3.toInt ≤ (999 : Int) ∧ (0 : Int) ≤ x4.toInt ∧ x4.toInt ≤ (1000 : Int) ∧ (t.2 57 0 = s0.2 56 0) ∧ ((t.1 55 31).toInt = -1 ∨ (0 ≤ (t.1 55 30).toInt ∧ 1 ≤ (t.1 55 31).toInt ∧ (t.1 55 30).toInt + (t.1 55 31).toInt ≤ 1000)) ∧ Iv t ∧ Kt s0 t), (fun L _ => (0 + (1000 - (vg_li L 3).toInt) * 1000000000000 - 1000000000000 + 0 + (1000 - (vg_li L 4).toInt) * 100000 + 1).toNat))], ?_, List.forall_mem_cons.mpr ⟨?_, List.forall_mem_cons.mpr ⟨?_, fun _ h => absurd h List.not_mem_nil⟩⟩⟩
    ·
      refine And.intro (Nat.le_of_ble_eq_true rfl) (And.intro ⟨56, 57, rfl, by decide, by decide, i0, by decide⟩ ?_)
      intro s2 h1
      have h1 : (s2.1 = s0.1 ∧ s2.2 57 0 = s0.2 56 0 ∧ ∀ k, k ≠ 57 → s2.2 k = s0.2 k) := h1
      have i3 : Iv s2 := Iv.of i0 (fun q _ => by rw [h1.1]) (by rw [h1.1])
      have k4 : Kt s0 s2 := by first | exact vg_cp_out1 Kx.rf h1.1 h1.2.2 (by decide) | exact vg_cp_outn Kx.rf h1.1
      have y5 : s2.2 57 0 = s0.2 56 0 := h1.2.1
      refine And.intro (Nat.le_of_ble_eq_true rfl) (And.intro ⟨55, rfl, by decide, i3⟩ ?_)
      intro s7 h6
      have h6 : Iv s7 ∧ Kp s2 s7 ∧ (True) := h6
      have i8 := h6.1
      have k9 : Kt s0 s7 := Kx.tr k4 (((h6.2.1).pt).pk)
      have y10 : s7.2 57 0 = s0.2 56 0 := by rw [h6.2.1.2 57 0 rfl]; exact y5
      refine And.intro (Nat.le_of_ble_eq_true rfl) (And.intro ⟨55, (Int32.ofInt 0), rfl, by decide, i8, by omega⟩ ?_)
      intro s12 h11
      have h11 : Iv s12 ∧ Kp s7 s12 ∧ (True) := h11
      have i13 := h11.1
      have k14 : Kt s0 s12 := Kx.tr k9 (((h11.2.1).pt).pk)
      have y15 : s12.2 57 0 = s0.2 56 0 := by rw [h11.2.1.2 57 0 rfl]; exact y10
      intro s16 e17
      have i18 : Iv s16 := Iv.u1 i13 e17 rfl
      have k19 : Kt s0 s16 := Kx.u1 k14 e17 rfl
      have y20 : s16.2 57 0 = s0.2 56 0 := by rw [e17]; exact y15
      obtain ⟨v21, e22⟩ : ∃ y, y = s16.1 55 31 := ⟨_, rfl⟩
      have w23 : (Int32.ofInt (-1)) = v21 := by rw [e22, e17]; exact vg_u1_self.symm
      subst w23
      have b24 := congrArg Int32.toInt e22
      have y25 : (s16.1 55 31).toInt = -1 ∨ (0 ≤ (s16.1 55 30).toInt ∧ 1 ≤ (s16.1 55 31).toInt ∧ (s16.1 55 30).toInt + (s16.1 55 31).toInt ≤ 1000) := by first | exact None | omega
      exact ⟨rfl, ⟨(Int32.ofInt 0), rfl, (by omega), (by omega), y20, y25, i18, k19⟩, trivial⟩
    ·
      intro L s31 hL
      obtain ⟨w26, rfl, b27, b28, y29, y30, i32, k33⟩ := hL
      refine And.intro (fun c34 => ?_) (fun c34 => ?_)
      · have c34 : (Int32.ofInt 1000).toInt ≤ w26.toInt := c34
        refine And.intro (Nat.le_of_ble_eq_true rfl) (And.intro ⟨57, 56, rfl, by decide, by decide, i32, by decide⟩ ?_)
        intro s36 h35
        have h35 : (s36.1 = s31.1 ∧ s36.2 56 0 = s31.2 57 0 ∧ ∀ k, k ≠ 56 → s36.2 k = s31.2 k) := h35
        have i37 : Iv s36 := Iv.of i32 (fun q _ => by rw [h35.1]) (by rw [h35.1])
        have k38 : Kt s0 s36 := vg_cp_in k33 h35.1 (h35.2.1.trans y29)
        have y39 : s36.2 57 0 = s0.2 56 0 := by rw [h35.2.2 57 (by decide)]; exact y29
        have y40 : (s36.1 55 31).toInt = -1 ∨ (0 ≤ (s36.1 55 30).toInt ∧ 1 ≤ (s36.1 55 31).toInt ∧ (s36.1 55 30).toInt + (s36.1 55 31).toInt ≤ 1000) := by rw [h35.1]; exact y30
        show Iv s36 ∧ Kt s0 s36 ∧ ((s36.1 55 31).toInt = -1 ∨ (0 ≤ (s36.1 55 30).toInt ∧ 1 ≤ (s36.1 55 31).toInt ∧ (s36.1 55 30).toInt + (s36.1 55 31).toInt ≤ 1000))
        exact ⟨i37, k38, (y40)⟩
      · have c34 : ¬ ((Int32.ofInt 1000).toInt ≤ w26.toInt) := c34
        refine And.intro (fun c41 => ?_) (fun c41 => ?_)
        · have c41 : ¬ a2.toInt = 0 := c41
          refine And.intro (Nat.le_of_ble_eq_true rfl) (And.intro ⟨55, a1, (Int32.ofInt 0), rfl, by decide, i32⟩ ?_)
          intro v42 s44 h43
          have h43 : Iv s44 ∧ Kp s31 s44 ∧ (True) := h43
          have i45 := h43.1
          have k46 : Kt s0 s44 := Kx.tr k33 (((h43.2.1).pt).pk)
          have y47 : s44.2 57 0 = s0.2 56 0 := by rw [h43.2.1.2 57 0 rfl]; exact y29
          have y48 : (s44.1 55 31).toInt = -1 ∨ (0 ≤ (s44.1 55 30).toInt ∧ 1 ≤ (s44.1 55 31).toInt ∧ (s44.1 55 30).toInt + (s44.1 55 31).toInt ≤ 1000) := by rw [h43.2.1.1 55 30 rfl, h43.2.1.1 55 31 rfl]; exact y30
          refine And.intro ⟨by omega, by omega⟩ ?_
          intro s49 e50
          have i51 : Iv s49 := Iv.a1 i45 e50 rfl
          have k52 : Kt s0 s49 := Kx.u1 k46 e50 rfl
          have y53 : s49.2 57 0 = s0.2 56 0 := by rw [e50]; exact y47
          have y54 : (s49.1 55 31).toInt = -1 ∨ (0 ≤ (s49.1 55 30).toInt ∧ 1 ≤ (s49.1 55 31).toInt ∧ (s49.1 55 30).toInt + (s49.1 55 31).toInt ≤ 1000) := by rw [e50, vg_u1_ne (a := 55) (k := 65) (by decide)]; exact y48
          intro v55 e56
          have b57 := vg_add e56 (by omega) (by omega)
          refine And.intro (Nat.le_of_ble_eq_true rfl) (And.intro ⟨55, v55, rfl, by decide, i51, by omega⟩ ?_)
          intro s59 h58
          have h58 : Iv s59 ∧ Kp s49 s59 ∧ (True) := h58
          have i60 := h58.1
          have k61 : Kt s0 s59 := Kx.tr k52 (((h58.2.1).pt).pk)
          have y62 : s59.2 57 0 = s0.2 56 0 := by rw [h58.2.1.2 57 0 rfl]; exact y53
          have y63 : (s59.1 55 31).toInt = -1 ∨ (0 ≤ (s59.1 55 30).toInt ∧ 1 ≤ (s59.1 55 31).toInt ∧ (s59.1 55 30).toInt + (s59.1 55 31).toInt ≤ 1000) := by rw [h58.2.1.1 55 30 rfl, h58.2.1.1 55 31 rfl]; exact y54
          exact ⟨rfl, ⟨w26, (Int32.ofInt 0), rfl, (by omega), (by omega), (by omega), (by omega), y62, y63, i60, k61⟩, (by show (0 + (1000 - w26.toInt) * 1000000000000 - 1000000000000 + 0 + (1000 - (Int32.ofInt 0).toInt) * 100000 + 1).toNat < (0 + (1000 - w26.toInt) * 1000000000000).toNat; omega)⟩
        · have c41 : ¬ (¬ a2.toInt = 0) := c41
          intro v64 e65
          have g66 : s31.1 55 31 = v64 := by rw [e65]
          have b67 : v64.toInt = (s31.1 55 31).toInt := congrArg Int32.toInt e65
          refine And.intro (fun c68 => ?_) (fun c68 => ?_)
          · have c68 : ¬ v64.toInt = (Int32.ofInt (-1)).toInt := c68
            refine And.intro (Nat.le_of_ble_eq_true rfl) (And.intro ⟨57, 56, rfl, by decide, by decide, i32, by decide⟩ ?_)
            intro s70 h69
            have h69 : (s70.1 = s31.1 ∧ s70.2 56 0 = s31.2 57 0 ∧ ∀ k, k ≠ 56 → s70.2 k = s31.2 k) := h69
            have i71 : Iv s70 := Iv.of i32 (fun q _ => by rw [h69.1]) (by rw [h69.1])
            have k72 : Kt s0 s70 := vg_cp_in k33 h69.1 (h69.2.1.trans y29)
            have y73 : s70.2 57 0 = s0.2 56 0 := by rw [h69.2.2 57 (by decide)]; exact y29
            have y74 : (s70.1 55 31).toInt = -1 ∨ (0 ≤ (s70.1 55 30).toInt ∧ 1 ≤ (s70.1 55 31).toInt ∧ (s70.1 55 30).toInt + (s70.1 55 31).toInt ≤ 1000) := by rw [h69.1]; exact y30
            show Iv s70 ∧ Kt s0 s70 ∧ ((s70.1 55 31).toInt = -1 ∨ (0 ≤ (s70.1 55 30).toInt ∧ 1 ≤ (s70.1 55 31).toInt ∧ (s70.1 55 30).toInt + (s70.1 55 31).toInt ≤ 1000))
            exact ⟨i71, k72, (y74)⟩
          · have c68 : ¬ (¬ v64.toInt = (Int32.ofInt (-1)).toInt) := c68
            refine And.intro (Nat.le_of_ble_eq_true rfl) (And.intro ⟨55, a1, (Int32.ofInt 0), rfl, by decide, i32⟩ ?_)
            intro v75 s77 h76
            have h76 : Iv s77 ∧ Kp s31 s77 ∧ (True) := h76
            have i78 := h76.1
            have k79 : Kt s0 s77 := Kx.tr k33 (((h76.2.1).pt).pk)
            have y80 : s77.2 57 0 = s0.2 56 0 := by rw [h76.2.1.2 57 0 rfl]; exact y29
            have y81 : (s77.1 55 31).toInt = -1 ∨ (0 ≤ (s77.1 55 30).toInt ∧ 1 ≤ (s77.1 55 31).toInt ∧ (s77.1 55 30).toInt + (s77.1 55 31).toInt ≤ 1000) := by rw [h76.2.1.1 55 30 rfl, h76.2.1.1 55 31 rfl]; exact y30
            refine And.intro ⟨by omega, by omega⟩ ?_
            intro s82 e83
            have i84 : Iv s82 := Iv.a1 i78 e83 rfl
            have k85 : Kt s0 s82 := Kx.u1 k79 e83 rfl
            have y86 : s82.2 57 0 = s0.2 56 0 := by rw [e83]; exact y80
            have y87 : (s82.1 55 31).toInt = -1 ∨ (0 ≤ (s82.1 55 30).toInt ∧ 1 ≤ (s82.1 55 31).toInt ∧ (s82.1 55 30).toInt + (s82.1 55 31).toInt ≤ 1000) := by rw [e83, vg_u1_ne (a := 55) (k := 65) (by decide)]; exact y81
            intro v88 e89
            have b90 := vg_add e89 (by omega) (by omega)
            refine And.intro (Nat.le_of_ble_eq_true rfl) (And.intro ⟨55, v88, rfl, by decide, i84, by omega⟩ ?_)
            intro s92 h91
            have h91 : Iv s92 ∧ Kp s82 s92 ∧ (True) := h91
            have i93 := h91.1
            have k94 : Kt s0 s92 := Kx.tr k85 (((h91.2.1).pt).pk)
            have y95 : s92.2 57 0 = s0.2 56 0 := by rw [h91.2.1.2 57 0 rfl]; exact y86
            have y96 : (s92.1 55 31).toInt = -1 ∨ (0 ≤ (s92.1 55 30).toInt ∧ 1 ≤ (s92.1 55 31).toInt ∧ (s92.1 55 30).toInt + (s92.1 55 31).toInt ≤ 1000) := by rw [h91.2.1.1 55 30 rfl, h91.2.1.1 55 31 rfl]; exact y87
            exact ⟨rfl, ⟨w26, (Int32.ofInt 0), rfl, (by omega), (by omega), (by omega), (by omega), y95, y96, i93, k94⟩, (by show (0 + (1000 - w26.toInt) * 1000000000000 - 1000000000000 + 0 + (1000 - (Int32.ofInt 0).toInt) * 100000 + 1).toNat < (0 + (1000 - w26.toInt) * 1000000000000).toNat; omega)⟩
    ·
      intro L s105 hL
      obtain ⟨w97, w100, rfl, b98, b99, b101, b102, y103, y104, i106, k107⟩ := hL
      refine And.intro (fun c108 => ?_) (fun c108 => ?_)
      · have c108 : w97.toInt < w100.toInt := c108
        intro v109 e110
        have b111 := vg_add e110 (by omega) (by omega)
        exact ⟨rfl, ⟨v109, rfl, (by omega), (by omega), y103, y104, i106, k107⟩, (by show (0 + (1000 - v109.toInt) * 1000000000000).toNat < (0 + (1000 - w97.toInt) * 1000000000000 - 1000000000000 + 0 + (1000 - w100.toInt) * 100000 + 1).toNat; omega)⟩
      · have c108 : ¬ (w97.toInt < w100.toInt) := c108
        intro v112 e113
        have g114 : s105.1 55 31 = v112 := by rw [e113]
        have b115 : v112.toInt = (s105.1 55 31).toInt := congrArg Int32.toInt e113
        refine And.intro (fun c116 => ?_) (fun c116 => ?_)
        · have c116 : ¬ v112.toInt = (Int32.ofInt (-1)).toInt := c116
          intro v117 e118
          have b119 := vg_add e118 (by omega) (by omega)
          exact ⟨rfl, ⟨v117, rfl, (by omega), (by omega), y103, y104, i106, k107⟩, (by show (0 + (1000 - v117.toInt) * 1000000000000).toNat < (0 + (1000 - w97.toInt) * 1000000000000 - 1000000000000 + 0 + (1000 - w100.toInt) * 100000 + 1).toNat; omega)⟩
        · have c116 : ¬ (¬ v112.toInt = (Int32.ofInt (-1)).toInt) := c116
          intro v120 e121
          have b122 := vg_add e121 (by omega) (by omega)
          refine And.intro (Nat.le_of_ble_eq_true rfl) (And.intro ⟨55, w100, v120, rfl, by decide, i106, by omega⟩ ?_)
          intro v123 s125 h124
          have h124 : s125 = s105 ∧ (0 ≤ v123.toInt ∧ v123.toInt ≤ 1) := h124
          have q128 := h124.1.symm
          subst q128
          have q129 := h124.2
          refine And.intro (fun c130 => ?_) (fun c130 => ?_)
          · have c130 : ¬ v123.toInt = 0 := c130
            intro s131 e132
            have i133 : Iv s131 := Iv.u1 i106 e132 rfl
            have k134 : Kt s0 s131 := Kx.u1 k107 e132 rfl
            have y135 : s131.2 57 0 = s0.2 56 0 := by rw [e132]; exact y103
            intro v136 e137
            have b138 := vg_add e137 (by omega) (by omega)
            intro v139 e140
            have b141 := vg_sub e140 (by omega) (by omega)
            intro s142 e143
            have i144 : Iv s142 := Iv.u1 i133 e143 rfl
            have k145 : Kt s0 s142 := Kx.u1 k134 e143 rfl
            have y146 : s142.2 57 0 = s0.2 56 0 := by rw [e143]; exact y135
            obtain ⟨v147, e148⟩ : ∃ y, y = s142.1 55 30 := ⟨_, rfl⟩
            have w149 : w100 = v147 := by rw [e148, e143, vg_u1_at (a := 55) (b := 30) (k := 55) (i := 31) (by decide), e132]; exact vg_u1_self.symm
            subst w149
            have b150 := congrArg Int32.toInt e148
            obtain ⟨v151, e152⟩ : ∃ y, y = s142.1 55 31 := ⟨_, rfl⟩
            have w153 : v139 = v151 := by rw [e152, e143]; exact vg_u1_self.symm
            subst w153
            have b154 := congrArg Int32.toInt e152
            have y155 : (s142.1 55 31).toInt = -1 ∨ (0 ≤ (s142.1 55 30).toInt ∧ 1 ≤ (s142.1 55 31).toInt ∧ (s142.1 55 30).toInt + (s142.1 55 31).toInt ≤ 1000) := by first | exact None | omega
            intro v156 e157
            have b158 := vg_add e157 (by omega) (by omega)
            exact ⟨rfl, ⟨w97, v156, rfl, (by omega), (by omega), (by omega), (by omega), y146, y155, i144, k145⟩, (by show (0 + (1000 - w97.toInt) * 1000000000000 - 1000000000000 + 0 + (1000 - v156.toInt) * 100000 + 1).toNat < (0 + (1000 - w97.toInt) * 1000000000000 - 1000000000000 + 0 + (1000 - w100.toInt) * 100000 + 1).toNat; omega)⟩
          · have c130 : ¬ (¬ v123.toInt = 0) := c130
            obtain ⟨v159, e160⟩ : ∃ y, y = s105.1 55 30 := ⟨_, rfl⟩
            have g161 : s105.1 55 30 = v159 := by rw [e160]
            have b162 := congrArg Int32.toInt e160
            obtain ⟨v163, e164⟩ : ∃ y, y = s105.1 55 31 := ⟨_, rfl⟩
            have w165 : v112 = v163 := by rw [e164, g114]
            subst w165
            have b166 := congrArg Int32.toInt e164
            have y167 : (s105.1 55 31).toInt = -1 ∨ (0 ≤ (s105.1 55 30).toInt ∧ 1 ≤ (s105.1 55 31).toInt ∧ (s105.1 55 30).toInt + (s105.1 55 31).toInt ≤ 1000) := by first | exact y104 | omega
            intro v168 e169
            have b170 := vg_add e169 (by omega) (by omega)
            exact ⟨rfl, ⟨w97, v168, rfl, (by omega), (by omega), (by omega), (by omega), y103, y167, i106, k107⟩, (by show (0 + (1000 - w97.toInt) * 1000000000000 - 1000000000000 + 0 + (1000 - v168.toInt) * 100000 + 1).toNat < (0 + (1000 - w97.toInt) * 1000000000000 - 1000000000000 + 0 + (1000 - w100.toInt) * 100000 + 1).toNat; omega)⟩
def o_X11_asks : List vg_I := [(0, .iconst 0, 1, 0, 0, 0, 0), (1, .istore_n 2, 1, 0, 0, 0, 0), (2, .iload_n 2, 1, 0, 0, 0, 0), (3, .aload_n 0, 1, 0, 0, 0, 0), (4, .getfield 252, 3, 1094, 11, 33, 0), (7, .if_icmp .ge 20, 3, 0, 0, 0, 0), (10, .aload_n 0, 1, 0, 0, 0, 0), (11, .getfield 67, 3, 1093, 11, 32, 0), (14, .iload_n 2, 1, 0, 0, 0, 0), (15, .iaload, 1, 0, 0, 0, 0), (16, .iload_n 1, 1, 0, 0, 0, 0), (17, .if_icmp .ne 4, 3, 0, 0, 0, 0), (20, .return_, 1, 0, 0, 0, 0), (21, .iinc 2 1, 3, 0, 0, 0, 0), (24, .goto (-22), 3, 0, 0, 0, 0), (27, .aload_n 0, 1, 0, 0, 0, 0), (28, .getfield 67, 3, 1093, 11, 32, 0), (31, .aload_n 0, 1, 0, 0, 0, 0), (32, .getfield 252, 3, 1094, 11, 33, 0), (35, .iload_n 1, 1, 0, 0, 0, 0), (36, .iastore, 1, 0, 0, 0, 0), (37, .aload_n 0, 1, 0, 0, 0, 0), (38, .dup, 1, 0, 0, 0, 0), (39, .getfield 252, 3, 1094, 11, 33, 0), (42, .iconst 1, 1, 0, 0, 0, 0), (43, .iadd, 1, 0, 0, 0, 0), (44, .putfield 252, 3, 1094, 11, 33, 0), (47, .aload_n 0, 1, 0, 0, 0, 0), (48, .getfield 252, 3, 1094, 11, 33, 0), (51, .bipush 12, 2, 0, 0, 0, 0), (53, .if_icmp .gt 4, 3, 0, 0, 0, 0), (56, .return_, 1, 0, 0, 0, 0), (57, .aload_n 0, 1, 0, 0, 0, 0), (58, .dup, 1, 0, 0, 0, 0), (59, .getfield 252, 3, 1094, 11, 33, 0), (62, .iconst 1, 1, 0, 0, 0, 0), (63, .isub, 1, 0, 0, 0, 0), (64, .putfield 252, 3, 1094, 11, 33, 0), (67, .iconst 0, 1, 0, 0, 0, 0), (68, .istore_n 2, 1, 0, 0, 0, 0), (69, .iload_n 2, 1, 0, 0, 0, 0), (70, .aload_n 0, 1, 0, 0, 0, 0), (71, .getfield 252, 3, 1094, 11, 33, 0), (74, .if_icmp .ge 23, 3, 0, 0, 0, 0), (77, .aload_n 0, 1, 0, 0, 0, 0), (78, .getfield 67, 3, 1093, 11, 32, 0), (81, .iload_n 2, 1, 0, 0, 0, 0), (82, .aload_n 0, 1, 0, 0, 0, 0), (83, .getfield 67, 3, 1093, 11, 32, 0), (86, .iload_n 2, 1, 0, 0, 0, 0), (87, .iconst 1, 1, 0, 0, 0, 0), (88, .iadd, 1, 0, 0, 0, 0), (89, .iaload, 1, 0, 0, 0, 0), (90, .iastore, 1, 0, 0, 0, 0), (91, .iinc 2 1, 3, 0, 0, 0, 0), (94, .goto (-25), 3, 0, 0, 0, 0), (97, .return_, 1, 0, 0, 0, 0)]
set_option maxRecDepth 100000 in
set_option maxHeartbeats 4000000 in
theorem c_X11_asks (l : Launch) (G : vg_G) (hp : vg_Hp G) : vg_Ct l G vg_sh r_X11_asks := by
  refine vg_meth hp vg_sh_ok r_X11_asks k_X11_asks rfl (fun h => by cases h) o_X11_asks [] false (by decide +kernel) (by decide +kernel) ⟨_, _, rfl, rfl⟩ (fun _ h => absurd h List.not_mem_nil) (fun h => by cases h) 600 ?_
  intro as s0 hpre
  obtain ⟨r, a1, rfl, hr, i0⟩ := hpre
  simp only [List.mem_cons, List.not_mem_nil, or_false] at hr
  rcases hr with rfl
  ·
    have z0 : (Int32.ofInt 0).toInt = 0 := by decide
    have z1 : (Int32.ofInt 1).toInt = 1 := by decide
    have z12 : (Int32.ofInt 12).toInt = 12 := by decide
    refine ⟨Nat.le_of_ble_eq_true rfl, [(2, [true, true, true], (fun L t => ∃ (x2 : Int32), L = [some (.ref 55), some (.int a1), some (.int x2)] ∧ (0 : Int) ≤ x2.toInt ∧ x2.toInt ≤ (12 : Int) ∧ (t.1 55 33 = s0.1 55 33 ∧ t.1 66 = s0.1 66 ∧ ∀ j : Nat, (j : Int) < x2.toInt → s0.1 66 j ≠ a1) ∧ Iv t ∧ K_X11_asks s0 t), (fun L _ => (10000000000000000 + (12 - (vg_li L 2).toInt) * 1000000000000).toNat)), (69, [true, false, true], (fun L t => ∃ (x2 : Int32), L = [some (.ref 55), none, some (.int x2)] ∧ (0 : Int) ≤ x2.toInt ∧ x2.toInt ≤ (12 : Int) ∧ (vg_asx s0 t a1 x2) ∧ Iv t ∧ K_X11_asks s0 t), (fun L _ => (0 + (12 - (vg_li L 2).toInt) * 1000000000000).toNat))], ?_, List.forall_mem_cons.mpr ⟨?_, List.forall_mem_cons.mpr ⟨?_, fun _ h => absurd h List.not_mem_nil⟩⟩⟩
    ·
      exact ⟨rfl, ⟨(Int32.ofInt 0), rfl, (by omega), (by omega), (by first | exact ⟨rfl, rfl, fun j hj => absurd hj (by omega)⟩ | exact ⟨None.1, None.2.1, vg_nf_step None.2.2 None None.2.1 None (by omega) (by omega)⟩), i0, Kx.rf⟩, trivial⟩
    ·
      intro L s5 hL
      obtain ⟨w1, rfl, b2, b3, x4, i6, k7⟩ := hL
      have y0 := congrArg Int32.toInt x4.1
      intro v8 e9
      have g10 : s5.1 55 33 = v8 := by rw [e9]
      have b11 : v8.toInt = (s5.1 55 33).toInt := congrArg Int32.toInt e9
      have b12 : (0 : Int) ≤ v8.toInt ∧ v8.toInt ≤ 12 := by rw [e9]; exact Iv_55_33 i6
      refine And.intro (fun c13 => ?_) (fun c13 => ?_)
      · have c13 : v8.toInt ≤ w1.toInt := c13
        intro v14 e15
        have w16 : v8 = v14 := by rw [e15, g10]
        subst w16
        refine And.intro ⟨by omega, by omega⟩ ?_
        intro s17 e18
        have i19 : Iv s17 := Iv.a1 i6 e18 rfl
        have k20 : K_X11_asks s0 s17 := Kx.u1 k7 e18 rfl
        intro v21 e22
        have w23 : v8 = v21 := by rw [e22, e18, vg_u1_ne (a := 55) (k := 66) (by decide), g10]
        subst w23
        intro v24 e25
        have b26 := vg_add e25 (by omega) (by omega)
        intro s27 e28
        have k30 : K_X11_asks s0 s27 := Kx.u1 k20 e28 rfl
        intro v31 e32
        have w33 : v24 = v31 := by rw [e32, e28]; exact vg_u1_self.symm
        subst w33
        refine And.intro (fun c34 => ?_) (fun c34 => ?_)
        · have c34 : (Int32.ofInt 12).toInt < v24.toInt := c34
          intro v35 e36
          have w37 : v24 = v35 := by rw [e36, e28]; exact vg_u1_self.symm
          subst w37
          intro v38 e39
          have b40 := vg_sub e39 (by omega) (by omega)
          intro s41 e42
          have k44 : K_X11_asks s0 s41 := Kx.u1 k30 e42 rfl
          have i45 : Iv s41 := vg_ivc2 i19 e28 e42 (by omega) (by omega)
          exact ⟨rfl, ⟨(Int32.ofInt 0), rfl, (by omega), (by omega), (by first | exact vg_asx0 e18 e28 e42 x4.2.1 x4.2.2 (by omega) (by omega) (by omega) (by omega) | exact vg_asx1 x4 None e42 (by omega) (by omega) (by omega)), i45, k44⟩, (by show (0 + (12 - (Int32.ofInt 0).toInt) * 1000000000000).toNat < (10000000000000000 + (12 - w1.toInt) * 1000000000000).toNat; omega)⟩
        · have c34 : ¬ ((Int32.ofInt 12).toInt < v24.toInt) := c34
          have i46 : Iv s27 := Iv.c1 (lo := 0) (hi := 12) i19 e28 rfl (by omega) (by omega)
          show Iv s27 ∧ K_X11_asks s0 s27 ∧ (vg_adk (s0.1 55 33).toInt (s0.1 66) a1 (s27.1 55 33).toInt (s27.1 66))
          exact ⟨i46, k30, (by first | exact vg_adk_in None x4.2.1 c34 (by omega) (by omega) y0 | exact vg_adk_out (by decide) e18 e28 x4.2.1 x4.2.2 (by omega) (by omega) (by omega) (by omega) | exact vg_ask_full x4 (by omega))⟩
      · have c13 : ¬ (v8.toInt ≤ w1.toInt) := c13
        refine And.intro ⟨by omega, by omega⟩ ?_
        intro v47 e48
        refine And.intro (fun c49 => ?_) (fun c49 => ?_)
        · have c49 : ¬ v47.toInt = a1.toInt := c49
          intro v50 e51
          have b52 := vg_add e51 (by omega) (by omega)
          exact ⟨rfl, ⟨v50, rfl, (by omega), (by omega), (by first | exact ⟨rfl, rfl, fun j hj => absurd hj (by omega)⟩ | exact ⟨x4.1, x4.2.1, vg_nf_step x4.2.2 e48 x4.2.1 c49 (by omega) (by omega)⟩), i6, k7⟩, (by show (10000000000000000 + (12 - v50.toInt) * 1000000000000).toNat < (10000000000000000 + (12 - w1.toInt) * 1000000000000).toNat; omega)⟩
        · have c49 : ¬ (¬ v47.toInt = a1.toInt) := c49
          show Iv s5 ∧ K_X11_asks s0 s5 ∧ (vg_adk (s0.1 55 33).toInt (s0.1 66) a1 (s5.1 55 33).toInt (s5.1 66))
          exact ⟨i6, k7, (by first | exact vg_adk_in e48 x4.2.1 c49 (by omega) (by omega) y0 | exact vg_adk_out (by decide)  x4.2.1 x4.2.2 (by omega) (by omega) (by omega) (by omega) | exact vg_ask_full x4 (by omega))⟩
    ·
      intro L s57 hL
      obtain ⟨w53, rfl, b54, b55, x56, i58, k59⟩ := hL
      have y0 := x56.1
      intro v60 e61
      have g62 : s57.1 55 33 = v60 := by rw [e61]
      have b63 : v60.toInt = (s57.1 55 33).toInt := congrArg Int32.toInt e61
      have b64 : (0 : Int) ≤ v60.toInt ∧ v60.toInt ≤ 12 := by rw [e61]; exact Iv_55_33 i58
      refine And.intro (fun c65 => ?_) (fun c65 => ?_)
      · have c65 : v60.toInt ≤ w53.toInt := c65
        show Iv s57 ∧ K_X11_asks s0 s57 ∧ (vg_adk (s0.1 55 33).toInt (s0.1 66) a1 (s57.1 55 33).toInt (s57.1 66))
        exact ⟨i58, k59, (by first | exact vg_adk_in None x56.2.1 c65 (by omega) (by omega) y0 | exact vg_adk_out (by decide)  x56.2.1 x56.2.2 (by omega) (by omega) (by omega) (by omega) | exact vg_ask_full x56 (by omega))⟩
      · have c65 : ¬ (v60.toInt ≤ w53.toInt) := c65
        intro v66 e67
        have b68 := vg_add e67 (by omega) (by omega)
        refine And.intro ⟨by omega, by omega⟩ ?_
        intro v69 e70
        refine And.intro ⟨by omega, by omega⟩ ?_
        intro s71 e72
        have i73 : Iv s71 := Iv.a1 i58 e72 rfl
        have k74 : K_X11_asks s0 s71 := Kx.u1 k59 e72 rfl
        intro v75 e76
        have b77 := vg_add e76 (by omega) (by omega)
        exact ⟨rfl, ⟨v75, rfl, (by omega), (by omega), (by first | exact vg_asx0 e72 x56.2.1 x56.2.2 (by omega) (by omega) (by omega) (by omega) | exact vg_asx1 x56 e70 e72 (by omega) (by omega) (by omega)), i73, k74⟩, (by show (0 + (12 - v75.toInt) * 1000000000000).toNat < (0 + (12 - w53.toInt) * 1000000000000).toNat; omega)⟩
def o_X11_inPattern : List vg_I := [(0, .aload_n 0, 1, 0, 0, 0, 0), (1, .getfield 64, 3, 1090, 11, 29, 0), (4, .aload_n 0, 1, 0, 0, 0, 0), (5, .getfield 297, 3, 1091, 11, 30, 0), (8, .iload_n 1, 1, 0, 0, 0, 0), (9, .aload_n 0, 1, 0, 0, 0, 0), (10, .getfield 290, 3, 1092, 11, 31, 0), (13, .irem, 1, 0, 0, 0, 0), (14, .iadd, 1, 0, 0, 0, 0), (15, .iaload, 1, 0, 0, 0, 0), (16, .ireturn, 1, 0, 0, 0, 0)]
set_option maxRecDepth 100000 in
set_option maxHeartbeats 4000000 in
theorem c_X11_inPattern (l : Launch) (G : vg_G) (hp : vg_Hp G) : vg_Ct l G vg_sh r_X11_inPattern := by
  refine vg_meth hp vg_sh_ok r_X11_inPattern k_X11_inPattern rfl (fun h => by cases h) o_X11_inPattern [] false (by decide +kernel) (by decide +kernel) ⟨_, _, rfl, rfl⟩ (fun _ h => absurd h List.not_mem_nil) (fun h => by cases h) 600 ?_
  intro as s0 hpre
  obtain ⟨r, a1, rfl, hr, i0, p0⟩ := hpre
  have ra1 := vg_rng a1
  simp only [List.mem_cons, List.not_mem_nil, or_false] at hr
  rcases hr with rfl
  ·
    refine ⟨Nat.le_of_ble_eq_true rfl, [], ?_, fun _ h => absurd h List.not_mem_nil⟩
    ·
      intro v1 e2
      have g3 : s0.1 55 30 = v1 := by rw [e2]
      have b4 : v1.toInt = (s0.1 55 30).toInt := congrArg Int32.toInt e2
      intro v5 e6
      have g7 : s0.1 55 31 = v5 := by rw [e6]
      have b8 : v5.toInt = (s0.1 55 31).toInt := congrArg Int32.toInt e6
      refine And.intro (by omega) ?_
      intro v9 e10
      have b11 := (vg_rem e10 (by omega) (by omega)).2
      intro v12 e13
      have b14 := vg_add e13 (by omega) (by omega)
      refine And.intro ⟨by omega, by omega⟩ ?_
      intro v15 e16
      show s0 = s0 ∧ (True)
      exact ⟨rfl, (trivial)⟩
def o_X11_ofPattern : List vg_I := [(0, .iconst 0, 1, 0, 0, 0, 0), (1, .istore_n 2, 1, 0, 0, 0, 0), (2, .iconst 0, 1, 0, 0, 0, 0), (3, .istore_n 3, 1, 0, 0, 0, 0), (4, .iconst 0, 1, 0, 0, 0, 0), (5, .istore 4, 2, 0, 0, 0, 0), (7, .iconst 0, 1, 0, 0, 0, 0), (8, .istore 5, 2, 0, 0, 0, 0), (10, .iconst 0, 1, 0, 0, 0, 0), (11, .istore 6, 2, 0, 0, 0, 0), (13, .iload 6, 2, 0, 0, 0, 0), (15, .aload_n 0, 1, 0, 0, 0, 0), (16, .getfield 290, 3, 1092, 11, 31, 0), (19, .if_icmp .ge 149, 3, 0, 0, 0, 0), (22, .iload_n 2, 1, 0, 0, 0, 0), (23, .aload_n 0, 1, 0, 0, 0, 0), (24, .iload 6, 2, 0, 0, 0, 0), (26, .invokevirtual 300, 3, 0, 11, 1, 1489), (29, .iadd, 1, 0, 0, 0, 0), (30, .istore_n 2, 1, 0, 0, 0, 0), (31, .iload 4, 2, 0, 0, 0, 0), (33, .aload_n 0, 1, 0, 0, 0, 0), (34, .iload 6, 2, 0, 0, 0, 0), (36, .invokevirtual 300, 3, 0, 11, 1, 1489), (39, .aload_n 0, 1, 0, 0, 0, 0), (40, .iload 6, 2, 0, 0, 0, 0), (42, .iconst 1, 1, 0, 0, 0, 0), (43, .iadd, 1, 0, 0, 0, 0), (44, .invokevirtual 300, 3, 0, 11, 1, 1489), (47, .if_icmp .eq 7, 3, 0, 0, 0, 0), (50, .iconst 1, 1, 0, 0, 0, 0), (51, .goto 4, 3, 0, 0, 0, 0), (54, .iconst 0, 1, 0, 0, 0, 0), (55, .iadd, 1, 0, 0, 0, 0), (56, .istore 4, 2, 0, 0, 0, 0), (58, .iconst 1, 1, 0, 0, 0, 0), (59, .istore 7, 2, 0, 0, 0, 0), (61, .iconst 0, 1, 0, 0, 0, 0), (62, .istore 8, 2, 0, 0, 0, 0), (64, .iload 8, 2, 0, 0, 0, 0), (66, .iload 6, 2, 0, 0, 0, 0), (68, .if_icmp .ge 36, 3, 0, 0, 0, 0), (71, .iload 7, 2, 0, 0, 0, 0), (73, .ifCond .eq 22, 3, 0, 0, 0, 0), (76, .aload_n 0, 1, 0, 0, 0, 0), (77, .iload 8, 2, 0, 0, 0, 0), (79, .invokevirtual 300, 3, 0, 11, 1, 1489), (82, .aload_n 0, 1, 0, 0, 0, 0), (83, .iload 6, 2, 0, 0, 0, 0), (85, .invokevirtual 300, 3, 0, 11, 1, 1489), (88, .if_icmp .eq 7, 3, 0, 0, 0, 0), (91, .iconst 1, 1, 0, 0, 0, 0), (92, .goto 4, 3, 0, 0, 0, 0), (95, .iconst 0, 1, 0, 0, 0, 0), (96, .istore 7, 2, 0, 0, 0, 0), (98, .iinc 8 1, 3, 0, 0, 0, 0), (101, .goto (-37), 3, 0, 0, 0, 0), (104, .iload_n 3, 1, 0, 0, 0, 0), (105, .iload 7, 2, 0, 0, 0, 0), (107, .ifCond .eq 7, 3, 0, 0, 0, 0), (110, .iconst 1, 1, 0, 0, 0, 0), (111, .goto 4, 3, 0, 0, 0, 0), (114, .iconst 0, 1, 0, 0, 0, 0), (115, .iadd, 1, 0, 0, 0, 0), (116, .istore_n 3, 1, 0, 0, 0, 0), (117, .iconst 1, 1, 0, 0, 0, 0), (118, .istore 8, 2, 0, 0, 0, 0), (120, .iload 8, 2, 0, 0, 0, 0), (122, .aload_n 0, 1, 0, 0, 0, 0), (123, .getfield 290, 3, 1092, 11, 31, 0), (126, .if_icmp .ge 27, 3, 0, 0, 0, 0), (129, .aload_n 0, 1, 0, 0, 0, 0), (130, .iload 6, 2, 0, 0, 0, 0), (132, .iload 8, 2, 0, 0, 0, 0), (134, .iadd, 1, 0, 0, 0, 0), (135, .invokevirtual 300, 3, 0, 11, 1, 1489), (138, .aload_n 0, 1, 0, 0, 0, 0), (139, .iload 6, 2, 0, 0, 0, 0), (141, .invokevirtual 300, 3, 0, 11, 1, 1489), (144, .if_icmp .ne 9, 3, 0, 0, 0, 0), (147, .iinc 8 1, 3, 0, 0, 0, 0), (150, .goto (-30), 3, 0, 0, 0, 0), (153, .iload 5, 2, 0, 0, 0, 0), (155, .iload 8, 2, 0, 0, 0, 0), (157, .invokestatic 90, 3, 1, 1, 2, 1201), (160, .istore 5, 2, 0, 0, 0, 0), (162, .iinc 6 1, 3, 0, 0, 0, 0), (165, .goto (-152), 3, 0, 0, 0, 0), (168, .iload_n 1, 1, 0, 0, 0, 0), (169, .iconst 2, 1, 0, 0, 0, 0), (170, .if_icmp .ne 7, 3, 0, 0, 0, 0), (173, .iload_n 2, 1, 0, 0, 0, 0), (174, .goto 24, 3, 0, 0, 0, 0), (177, .iload_n 1, 1, 0, 0, 0, 0), (178, .iconst 3, 1, 0, 0, 0, 0), (179, .if_icmp .ne 7, 3, 0, 0, 0, 0), (182, .iload_n 3, 1, 0, 0, 0, 0), (183, .goto 15, 3, 0, 0, 0, 0), (186, .iload_n 1, 1, 0, 0, 0, 0), (187, .iconst 4, 1, 0, 0, 0, 0), (188, .if_icmp .ne 8, 3, 0, 0, 0, 0), (191, .iload 4, 2, 0, 0, 0, 0), (193, .goto 5, 3, 0, 0, 0, 0), (196, .iload 5, 2, 0, 0, 0, 0), (198, .ireturn, 1, 0, 0, 0, 0)]
set_option maxRecDepth 100000 in
set_option maxHeartbeats 4000000 in
theorem c_X11_ofPattern (l : Launch) (G : vg_G) (hp : vg_Hp G) : vg_Ct l G vg_sh r_X11_ofPattern := by
  refine vg_meth hp vg_sh_ok r_X11_ofPattern k_X11_ofPattern rfl (fun h => by cases h) o_X11_ofPattern [r_X11_inPattern, r_J9_max_7cf53] false (by decide +kernel) (by decide +kernel) ⟨_, _, rfl, rfl⟩ (List.forall_mem_cons.mpr ⟨⟨c_X11_inPattern l G hp, Nat.le_of_ble_eq_true rfl, Nat.le_of_ble_eq_true rfl⟩, List.forall_mem_cons.mpr ⟨⟨c_J9_max_7cf53 l G hp, Nat.le_of_ble_eq_true rfl, Nat.le_of_ble_eq_true rfl⟩, fun _ h => absurd h List.not_mem_nil⟩⟩) (fun h => by cases h) 600 ?_
  intro as s0 hpre
  obtain ⟨r, a1, rfl, hr, i0, p0⟩ := hpre
  simp only [List.mem_cons, List.not_mem_nil, or_false] at hr
  rcases hr with rfl
  ·
    have z0 : (Int32.ofInt 0).toInt = 0 := by decide
    have z1 : (Int32.ofInt 1).toInt = 1 := by decide
    have z2 : (Int32.ofInt 2).toInt = 2 := by decide
    have z3 : (Int32.ofInt 3).toInt = 3 := by decide
    have z4 : (Int32.ofInt 4).toInt = 4 := by decide
    refine ⟨Nat.le_of_ble_eq_true rfl, [(13, [true, true, true, true, true, true, true, false, false], (fun L t => ∃ (x2 : Int32) (x3 : Int32) (x4 : Int32) (x5 : Int32) (x6 : Int32), L = [some (.ref 55), some (.int a1), some (.int x2), some (.int x3), some (.int x4), some (.int x5), some (.int x6), none, none] ∧ (0 : Int) ≤ x6.toInt ∧ x6.toInt ≤ (1000 : Int) ∧ t = s0), (fun L _ => (0 + (1000 - (vg_li L 6).toInt) * 1000000000000).toNat)), (64, [true, true, true, true, true, true, true, true, true], (fun L t => ∃ (x2 : Int32) (x3 : Int32) (x4 : Int32) (x5 : Int32) (x6 : Int32) (x7 : Int32) (x8 : Int32), L = [some (.ref 55), some (.int a1), some (.int x2), some (.int x3), some (.int x4), some (.int x5), some (.int x6), some (.int x7), some (.int x8)] ∧ (0 : Int) ≤ x6.toInt ∧ x6.toInt ≤ (999 : Int) ∧ (0 : Int) ≤ x8.toInt ∧ x8.toInt ≤ (999 : Int) ∧ t = s0), (fun L _ => (0 + (1000 - (vg_li L 6).toInt) * 1000000000000 - 1000000000000 + 10000000000 + (999 - (vg_li L 8).toInt) * 100000 + 1).toNat)), (120, [true, true, true, true, true, true, true, false, true], (fun L t => ∃ (x2 : Int32) (x3 : Int32) (x4 : Int32) (x5 : Int32) (x6 : Int32) (x8 : Int32), L = [some (.ref 55), some (.int a1), some (.int x2), some (.int x3), some (.int x4), some (.int x5), some (.int x6), none, some (.int x8)] ∧ (0 : Int) ≤ x6.toInt ∧ x6.toInt ≤ (999 : Int) ∧ (1 : Int) ≤ x8.toInt ∧ x8.toInt ≤ (1000 : Int) ∧ t = s0), (fun L _ => (0 + (1000 - (vg_li L 6).toInt) * 1000000000000 - 1000000000000 + 0 + (1000 - (vg_li L 8).toInt) * 100000 + 1).toNat))], ?_, List.forall_mem_cons.mpr ⟨?_, List.forall_mem_cons.mpr ⟨?_, List.forall_mem_cons.mpr ⟨?_, fun _ h => absurd h List.not_mem_nil⟩⟩⟩⟩
    ·
      exact ⟨rfl, ⟨(Int32.ofInt 0), (Int32.ofInt 0), (Int32.ofInt 0), (Int32.ofInt 0), (Int32.ofInt 0), rfl, (by omega), (by omega), rfl⟩, trivial⟩
    ·
      intro L s8 hL
      obtain ⟨w1, w2, w3, w4, w5, rfl, b6, b7, q11⟩ := hL
      have q11 := q11.symm
      subst q11
      intro v12 e13
      have g14 : s0.1 55 31 = v12 := by rw [e13]
      have b15 : v12.toInt = (s0.1 55 31).toInt := congrArg Int32.toInt e13
      refine And.intro (fun c16 => ?_) (fun c16 => ?_)
      · have c16 : v12.toInt ≤ w5.toInt := c16
        refine And.intro (fun c17 => ?_) (fun c17 => ?_)
        · have c17 : ¬ a1.toInt = (Int32.ofInt 2).toInt := c17
          refine And.intro (fun c18 => ?_) (fun c18 => ?_)
          · have c18 : ¬ a1.toInt = (Int32.ofInt 3).toInt := c18
            refine And.intro (fun c19 => ?_) (fun c19 => ?_)
            · have c19 : ¬ a1.toInt = (Int32.ofInt 4).toInt := c19
              show s0 = s0 ∧ (True)
              exact ⟨rfl, (trivial)⟩
            · have c19 : ¬ (¬ a1.toInt = (Int32.ofInt 4).toInt) := c19
              show s0 = s0 ∧ (True)
              exact ⟨rfl, (trivial)⟩
          · have c18 : ¬ (¬ a1.toInt = (Int32.ofInt 3).toInt) := c18
            show s0 = s0 ∧ (True)
            exact ⟨rfl, (trivial)⟩
        · have c17 : ¬ (¬ a1.toInt = (Int32.ofInt 2).toInt) := c17
          show s0 = s0 ∧ (True)
          exact ⟨rfl, (trivial)⟩
      · have c16 : ¬ (v12.toInt ≤ w5.toInt) := c16
        refine And.intro (Nat.le_of_ble_eq_true rfl) (And.intro ⟨55, w5, rfl, by decide, i0, by omega⟩ ?_)
        intro v20 s22 h21
        have h21 : s22 = s0 ∧ (True) := h21
        have q25 := h21.1.symm
        subst q25
        intro v26 e27
        refine And.intro (Nat.le_of_ble_eq_true rfl) (And.intro ⟨55, w5, rfl, by decide, i0, by omega⟩ ?_)
        intro v28 s30 h29
        have h29 : s30 = s0 ∧ (True) := h29
        have q33 := h29.1.symm
        subst q33
        intro v34 e35
        have b36 := vg_add e35 (by omega) (by omega)
        refine And.intro (Nat.le_of_ble_eq_true rfl) (And.intro ⟨55, v34, rfl, by decide, i0, by omega⟩ ?_)
        intro v37 s39 h38
        have h38 : s39 = s0 ∧ (True) := h38
        have q42 := h38.1.symm
        subst q42
        refine And.intro (fun c43 => ?_) (fun c43 => ?_)
        · have c43 : v28.toInt = v37.toInt := c43
          intro v44 e45
          exact ⟨rfl, ⟨v26, w2, v44, w4, w5, (Int32.ofInt 1), (Int32.ofInt 0), rfl, (by omega), (by omega), (by omega), (by omega), rfl⟩, (by show (0 + (1000 - w5.toInt) * 1000000000000 - 1000000000000 + 10000000000 + (999 - (Int32.ofInt 0).toInt) * 100000 + 1).toNat < (0 + (1000 - w5.toInt) * 1000000000000).toNat; omega)⟩
        · have c43 : ¬ (v28.toInt = v37.toInt) := c43
          intro v46 e47
          exact ⟨rfl, ⟨v26, w2, v46, w4, w5, (Int32.ofInt 1), (Int32.ofInt 0), rfl, (by omega), (by omega), (by omega), (by omega), rfl⟩, (by show (0 + (1000 - w5.toInt) * 1000000000000 - 1000000000000 + 10000000000 + (999 - (Int32.ofInt 0).toInt) * 100000 + 1).toNat < (0 + (1000 - w5.toInt) * 1000000000000).toNat; omega)⟩
    ·
      intro L s59 hL
      obtain ⟨w48, w49, w50, w51, w52, w55, w56, rfl, b53, b54, b57, b58, q62⟩ := hL
      have q62 := q62.symm
      subst q62
      refine And.intro (fun c63 => ?_) (fun c63 => ?_)
      · have c63 : w52.toInt ≤ w56.toInt := c63
        refine And.intro (fun c64 => ?_) (fun c64 => ?_)
        · have c64 : w55.toInt = 0 := c64
          intro v65 e66
          exact ⟨rfl, ⟨w48, v65, w50, w51, w52, (Int32.ofInt 1), rfl, (by omega), (by omega), (by omega), (by omega), rfl⟩, (by show (0 + (1000 - w52.toInt) * 1000000000000 - 1000000000000 + 0 + (1000 - (Int32.ofInt 1).toInt) * 100000 + 1).toNat < (0 + (1000 - w52.toInt) * 1000000000000 - 1000000000000 + 10000000000 + (999 - w56.toInt) * 100000 + 1).toNat; omega)⟩
        · have c64 : ¬ (w55.toInt = 0) := c64
          intro v67 e68
          exact ⟨rfl, ⟨w48, v67, w50, w51, w52, (Int32.ofInt 1), rfl, (by omega), (by omega), (by omega), (by omega), rfl⟩, (by show (0 + (1000 - w52.toInt) * 1000000000000 - 1000000000000 + 0 + (1000 - (Int32.ofInt 1).toInt) * 100000 + 1).toNat < (0 + (1000 - w52.toInt) * 1000000000000 - 1000000000000 + 10000000000 + (999 - w56.toInt) * 100000 + 1).toNat; omega)⟩
      · have c63 : ¬ (w52.toInt ≤ w56.toInt) := c63
        refine And.intro (fun c69 => ?_) (fun c69 => ?_)
        · have c69 : w55.toInt = 0 := c69
          intro v70 e71
          have b72 := vg_add e71 (by omega) (by omega)
          exact ⟨rfl, ⟨w48, w49, w50, w51, w52, (Int32.ofInt 0), v70, rfl, (by omega), (by omega), (by omega), (by omega), rfl⟩, (by show (0 + (1000 - w52.toInt) * 1000000000000 - 1000000000000 + 10000000000 + (999 - v70.toInt) * 100000 + 1).toNat < (0 + (1000 - w52.toInt) * 1000000000000 - 1000000000000 + 10000000000 + (999 - w56.toInt) * 100000 + 1).toNat; omega)⟩
        · have c69 : ¬ (w55.toInt = 0) := c69
          refine And.intro (Nat.le_of_ble_eq_true rfl) (And.intro ⟨55, w56, rfl, by decide, i0, by omega⟩ ?_)
          intro v73 s75 h74
          have h74 : s75 = s0 ∧ (True) := h74
          have q78 := h74.1.symm
          subst q78
          refine And.intro (Nat.le_of_ble_eq_true rfl) (And.intro ⟨55, w52, rfl, by decide, i0, by omega⟩ ?_)
          intro v79 s81 h80
          have h80 : s81 = s0 ∧ (True) := h80
          have q84 := h80.1.symm
          subst q84
          refine And.intro (fun c85 => ?_) (fun c85 => ?_)
          · have c85 : v73.toInt = v79.toInt := c85
            intro v86 e87
            have b88 := vg_add e87 (by omega) (by omega)
            exact ⟨rfl, ⟨w48, w49, w50, w51, w52, (Int32.ofInt 0), v86, rfl, (by omega), (by omega), (by omega), (by omega), rfl⟩, (by show (0 + (1000 - w52.toInt) * 1000000000000 - 1000000000000 + 10000000000 + (999 - v86.toInt) * 100000 + 1).toNat < (0 + (1000 - w52.toInt) * 1000000000000 - 1000000000000 + 10000000000 + (999 - w56.toInt) * 100000 + 1).toNat; omega)⟩
          · have c85 : ¬ (v73.toInt = v79.toInt) := c85
            intro v89 e90
            have b91 := vg_add e90 (by omega) (by omega)
            exact ⟨rfl, ⟨w48, w49, w50, w51, w52, (Int32.ofInt 1), v89, rfl, (by omega), (by omega), (by omega), (by omega), rfl⟩, (by show (0 + (1000 - w52.toInt) * 1000000000000 - 1000000000000 + 10000000000 + (999 - v89.toInt) * 100000 + 1).toNat < (0 + (1000 - w52.toInt) * 1000000000000 - 1000000000000 + 10000000000 + (999 - w56.toInt) * 100000 + 1).toNat; omega)⟩
    ·
      intro L s102 hL
      obtain ⟨w92, w93, w94, w95, w96, w99, rfl, b97, b98, b100, b101, q105⟩ := hL
      have q105 := q105.symm
      subst q105
      intro v106 e107
      have g108 : s0.1 55 31 = v106 := by rw [e107]
      have b109 : v106.toInt = (s0.1 55 31).toInt := congrArg Int32.toInt e107
      refine And.intro (fun c110 => ?_) (fun c110 => ?_)
      · have c110 : v106.toInt ≤ w99.toInt := c110
        refine And.intro (Nat.le_of_ble_eq_true rfl) (And.intro ⟨w95, w99, rfl, trivial⟩ ?_)
        intro v111 s113 h112
        have h112 : s113 = s0 ∧ (w95.toInt ≤ v111.toInt ∧ w99.toInt ≤ v111.toInt ∧ (v111.toInt = w95.toInt ∨ v111.toInt = w99.toInt)) := h112
        have q116 := h112.1.symm
        subst q116
        have q117 := h112.2
        intro v118 e119
        have b120 := vg_add e119 (by omega) (by omega)
        exact ⟨rfl, ⟨w92, w93, w94, v111, v118, rfl, (by omega), (by omega), rfl⟩, (by show (0 + (1000 - v118.toInt) * 1000000000000).toNat < (0 + (1000 - w96.toInt) * 1000000000000 - 1000000000000 + 0 + (1000 - w99.toInt) * 100000 + 1).toNat; omega)⟩
      · have c110 : ¬ (v106.toInt ≤ w99.toInt) := c110
        intro v121 e122
        have b123 := vg_add e122 (by omega) (by omega)
        refine And.intro (Nat.le_of_ble_eq_true rfl) (And.intro ⟨55, v121, rfl, by decide, i0, by omega⟩ ?_)
        intro v124 s126 h125
        have h125 : s126 = s0 ∧ (True) := h125
        have q129 := h125.1.symm
        subst q129
        refine And.intro (Nat.le_of_ble_eq_true rfl) (And.intro ⟨55, w96, rfl, by decide, i0, by omega⟩ ?_)
        intro v130 s132 h131
        have h131 : s132 = s0 ∧ (True) := h131
        have q135 := h131.1.symm
        subst q135
        refine And.intro (fun c136 => ?_) (fun c136 => ?_)
        · have c136 : ¬ v124.toInt = v130.toInt := c136
          refine And.intro (Nat.le_of_ble_eq_true rfl) (And.intro ⟨w95, w99, rfl, trivial⟩ ?_)
          intro v137 s139 h138
          have h138 : s139 = s0 ∧ (w95.toInt ≤ v137.toInt ∧ w99.toInt ≤ v137.toInt ∧ (v137.toInt = w95.toInt ∨ v137.toInt = w99.toInt)) := h138
          have q142 := h138.1.symm
          subst q142
          have q143 := h138.2
          intro v144 e145
          have b146 := vg_add e145 (by omega) (by omega)
          exact ⟨rfl, ⟨w92, w93, w94, v137, v144, rfl, (by omega), (by omega), rfl⟩, (by show (0 + (1000 - v144.toInt) * 1000000000000).toNat < (0 + (1000 - w96.toInt) * 1000000000000 - 1000000000000 + 0 + (1000 - w99.toInt) * 100000 + 1).toNat; omega)⟩
        · have c136 : ¬ (¬ v124.toInt = v130.toInt) := c136
          intro v147 e148
          have b149 := vg_add e148 (by omega) (by omega)
          exact ⟨rfl, ⟨w92, w93, w94, w95, w96, v147, rfl, (by omega), (by omega), (by omega), (by omega), rfl⟩, (by show (0 + (1000 - w96.toInt) * 1000000000000 - 1000000000000 + 0 + (1000 - v147.toInt) * 100000 + 1).toNat < (0 + (1000 - w96.toInt) * 1000000000000 - 1000000000000 + 0 + (1000 - w99.toInt) * 100000 + 1).toNat; omega)⟩
def o_X11_tone : List vg_I := [(0, .iload_n 1, 1, 0, 0, 0, 0), (1, .invokestatic 238, 3, 0, 1, 1, 1178), (4, .ifCond .eq 12, 3, 0, 0, 0, 0), (7, .iload_n 2, 1, 0, 0, 0, 0), (8, .iconst 0, 1, 0, 0, 0, 0), (9, .iconst 5, 1, 0, 0, 0, 0), (10, .invokestatic 76, 3, 1, 1, 3, 1175), (13, .ifCond .ne 9, 3, 0, 0, 0, 0), (16, .aload_n 0, 1, 0, 0, 0, 0), (17, .iconst 1, 1, 0, 0, 0, 0), (18, .invokevirtual 242, 3, 2, 11, 1, 1181), (21, .ireturn, 1, 0, 0, 0, 0), (22, .aload_n 0, 1, 0, 0, 0, 0), (23, .iload_n 1, 1, 0, 0, 0, 0), (24, .invokevirtual 303, 3, 3, 11, 1, 1466), (27, .aload_n 0, 1, 0, 0, 0, 0), (28, .iload_n 1, 1, 0, 0, 0, 0), (29, .iconst 0, 1, 0, 0, 0, 0), (30, .invokevirtual 306, 3, 4, 11, 2, 1470), (33, .aload_n 0, 1, 0, 0, 0, 0), (34, .getfield 290, 3, 1092, 11, 31, 0), (37, .iconst (-1), 1, 0, 0, 0, 0), (38, .if_icmp .ne 9, 3, 0, 0, 0, 0), (41, .aload_n 0, 1, 0, 0, 0, 0), (42, .iconst 5, 1, 0, 0, 0, 0), (43, .invokevirtual 242, 3, 2, 11, 1, 1181), (46, .ireturn, 1, 0, 0, 0, 0), (47, .aload_n 0, 1, 0, 0, 0, 0), (48, .iload_n 2, 1, 0, 0, 0, 0), (49, .ifCond .ne 10, 3, 0, 0, 0, 0), (52, .aload_n 0, 1, 0, 0, 0, 0), (53, .getfield 297, 3, 1091, 11, 30, 0), (56, .goto 20, 3, 0, 0, 0, 0), (59, .iload_n 2, 1, 0, 0, 0, 0), (60, .iconst 1, 1, 0, 0, 0, 0), (61, .if_icmp .ne 10, 3, 0, 0, 0, 0), (64, .aload_n 0, 1, 0, 0, 0, 0), (65, .getfield 290, 3, 1092, 11, 31, 0), (68, .goto 8, 3, 0, 0, 0, 0), (71, .aload_n 0, 1, 0, 0, 0, 0), (72, .iload_n 2, 1, 0, 0, 0, 0), (73, .invokevirtual 310, 3, 5, 11, 1, 1485), (76, .invokevirtual 249, 3, 6, 11, 1, 1206), (79, .ireturn, 1, 0, 0, 0, 0)]
set_option maxRecDepth 100000 in
set_option maxHeartbeats 4000000 in
theorem c_X11_tone (l : Launch) (G : vg_G) (hp : vg_Hp G) : vg_Ct l G vg_sh r_X11_tone := by
  refine vg_meth hp vg_sh_ok r_X11_tone k_X11_tone rfl (fun h => by cases h) o_X11_tone [r_X11_isFar, r_X11_isFrom, r_X11_refuse, r_X11_asks, r_X11_tones, r_X11_ofPattern, r_X11_gives] false (by decide +kernel) (by decide +kernel) ⟨_, _, rfl, rfl⟩ (List.forall_mem_cons.mpr ⟨⟨c_X11_isFar l G hp, Nat.le_of_ble_eq_true rfl, Nat.le_of_ble_eq_true rfl⟩, List.forall_mem_cons.mpr ⟨⟨c_X11_isFrom l G hp, Nat.le_of_ble_eq_true rfl, Nat.le_of_ble_eq_true rfl⟩, List.forall_mem_cons.mpr ⟨⟨c_X11_refuse l G hp, Nat.le_of_ble_eq_true rfl, Nat.le_of_ble_eq_true rfl⟩, List.forall_mem_cons.mpr ⟨⟨c_X11_asks l G hp, Nat.le_of_ble_eq_true rfl, Nat.le_of_ble_eq_true rfl⟩, List.forall_mem_cons.mpr ⟨⟨c_X11_tones l G hp, Nat.le_of_ble_eq_true rfl, Nat.le_of_ble_eq_true rfl⟩, List.forall_mem_cons.mpr ⟨⟨c_X11_ofPattern l G hp, Nat.le_of_ble_eq_true rfl, Nat.le_of_ble_eq_true rfl⟩, List.forall_mem_cons.mpr ⟨⟨c_X11_gives l G hp, Nat.le_of_ble_eq_true rfl, Nat.le_of_ble_eq_true rfl⟩, fun _ h => absurd h List.not_mem_nil⟩⟩⟩⟩⟩⟩⟩) (fun h => by cases h) 600 ?_
  intro as s0 hpre
  obtain ⟨r, a1, a2, rfl, hr, i0⟩ := hpre
  simp only [List.mem_cons, List.not_mem_nil, or_false] at hr
  rcases hr with rfl
  ·
    have zm1 : (Int32.ofInt (-1)).toInt = -1 := by decide
    have z0 : (Int32.ofInt 0).toInt = 0 := by decide
    have z1 : (Int32.ofInt 1).toInt = 1 := by decide
    have z5 : (Int32.ofInt 5).toInt = 5 := by decide
    refine ⟨Nat.le_of_ble_eq_true rfl, [], ?_, fun _ h => absurd h List.not_mem_nil⟩
    ·
      refine And.intro (Nat.le_of_ble_eq_true rfl) (And.intro ⟨a1, rfl, trivial⟩ ?_)
      intro v1 s3 h2
      have h2 : s3 = s0 ∧ ((v1.toInt = 1 ∧ -30000 ≤ a1.toInt ∧ a1.toInt ≤ 30000) ∨ (v1.toInt = 0 ∧ (a1.toInt < -30000 ∨ 30000 < a1.toInt))) := h2
      have q6 := h2.1.symm
      subst q6
      have q7 := h2.2
      refine And.intro (fun c8 => ?_) (fun c8 => ?_)
      · have c8 : v1.toInt = 0 := c8
        refine And.intro (Nat.le_of_ble_eq_true rfl) (And.intro ⟨55, (Int32.ofInt 1), rfl, by decide, i0⟩ ?_)
        intro v9 s11 h10
        have h10 : Iv s11 ∧ Kp s0 s11 ∧ (v9.toInt = -1) := h10
        have i12 := h10.1
        have k13 : K_X11_tone s0 s11 := Kx.tr Kx.rf (((h10.2.1).pt).px)
        have q14 := h10.2.2
        show Iv s11 ∧ K_X11_tone s0 s11 ∧ (((-30000 ≤ a1.toInt ∧ a1.toInt ≤ 30000 ∧ 0 ≤ a2.toInt ∧ a2.toInt ≤ 5) ∧ vg_adk (s0.1 55 33).toInt (s0.1 66) a1 (s11.1 55 33).toInt (s11.1 66)) ∨ (¬ (-30000 ≤ a1.toInt ∧ a1.toInt ≤ 30000 ∧ 0 ≤ a2.toInt ∧ a2.toInt ≤ 5) ∧ (s11.1 55 33).toInt = (s0.1 55 33).toInt ∧ ∀ j : Nat, s11.1 66 j = s0.1 66 j))
        exact ⟨i12, k13, (by first | exact Or.inl ⟨by omega, None⟩ | exact Or.inr ⟨by omega, congrArg Int32.toInt (h10.2.1.1 55 33 rfl), fun j => h10.2.1.1 66 j rfl⟩)⟩
      · have c8 : ¬ (v1.toInt = 0) := c8
        refine And.intro (Nat.le_of_ble_eq_true rfl) (And.intro ⟨a2, (Int32.ofInt 0), (Int32.ofInt 5), rfl, trivial⟩ ?_)
        intro v15 s17 h16
        have h16 : s17 = s0 ∧ ((v15.toInt = 1 ∧ (Int32.ofInt 0).toInt ≤ a2.toInt ∧ a2.toInt ≤ (Int32.ofInt 5).toInt) ∨ (v15.toInt = 0 ∧ (a2.toInt < (Int32.ofInt 0).toInt ∨ (Int32.ofInt 5).toInt < a2.toInt))) := h16
        have q20 := h16.1.symm
        subst q20
        have q21 := h16.2
        refine And.intro (fun c22 => ?_) (fun c22 => ?_)
        · have c22 : ¬ v15.toInt = 0 := c22
          refine And.intro (Nat.le_of_ble_eq_true rfl) (And.intro ⟨55, a1, rfl, by decide, i0⟩ ?_)
          intro s24 h23
          have h23 : Iv s24 ∧ K_X11_asks s0 s24 ∧ (vg_adk (s0.1 55 33).toInt (s0.1 66) a1 (s24.1 55 33).toInt (s24.1 66)) := h23
          have i25 := h23.1
          have k26 : K_X11_tone s0 s24 := Kx.tr Kx.rf (((h23.2.1).pt).xx (by decide))
          have q27 := h23.2.2
          have y28 : vg_adk (s0.1 55 33).toInt (s0.1 66) a1 (s24.1 55 33).toInt (s24.1 66) := q27
          refine And.intro (Nat.le_of_ble_eq_true rfl) (And.intro ⟨55, a1, (Int32.ofInt 0), rfl, by decide, i25⟩ ?_)
          intro s30 h29
          have h29 : Iv s30 ∧ Kt s24 s30 ∧ ((s30.1 55 31).toInt = -1 ∨ (0 ≤ (s30.1 55 30).toInt ∧ 1 ≤ (s30.1 55 31).toInt ∧ (s30.1 55 30).toInt + (s30.1 55 31).toInt ≤ 1000)) := h29
          have i31 := h29.1
          have k32 : K_X11_tone s0 s30 := Kx.tr k26 ((h29.2.1).tx)
          have q33 := h29.2.2
          have y34 : vg_adk (s0.1 55 33).toInt (s0.1 66) a1 (s30.1 55 33).toInt (s30.1 66) := by rw [h29.2.1.1 55 33 rfl, show s30.1 66 = s24.1 66 from funext (fun j => h29.2.1.1 66 j rfl)]; exact y28
          intro v35 e36
          have g37 : s30.1 55 31 = v35 := by rw [e36]
          have b38 : v35.toInt = (s30.1 55 31).toInt := congrArg Int32.toInt e36
          refine And.intro (fun c39 => ?_) (fun c39 => ?_)
          · have c39 : ¬ v35.toInt = (Int32.ofInt (-1)).toInt := c39
            refine And.intro (fun c40 => ?_) (fun c40 => ?_)
            · have c40 : ¬ a2.toInt = 0 := c40
              refine And.intro (fun c41 => ?_) (fun c41 => ?_)
              · have c41 : ¬ a2.toInt = (Int32.ofInt 1).toInt := c41
                refine And.intro (Nat.le_of_ble_eq_true rfl) (And.intro ⟨55, a2, rfl, by decide, i31, by omega⟩ ?_)
                intro v42 s44 h43
                have h43 : s44 = s30 ∧ (True) := h43
                have q47 := h43.1.symm
                subst q47
                refine And.intro (Nat.le_of_ble_eq_true rfl) (And.intro ⟨55, v42, rfl, by decide, i31⟩ ?_)
                intro v48 s50 h49
                have h49 : Iv s50 ∧ Kp s30 s50 ∧ (v48 = v42 ∧ v48.toInt = v42.toInt) := h49
                have i51 := h49.1
                have k52 : K_X11_tone s0 s50 := Kx.tr k32 (((h49.2.1).pt).px)
                have q53 := h49.2.2
                have y54 : vg_adk (s0.1 55 33).toInt (s0.1 66) a1 (s50.1 55 33).toInt (s50.1 66) := by rw [h49.2.1.1 55 33 rfl, show s50.1 66 = s30.1 66 from funext (fun j => h49.2.1.1 66 j rfl)]; exact y34
                show Iv s50 ∧ K_X11_tone s0 s50 ∧ (((-30000 ≤ a1.toInt ∧ a1.toInt ≤ 30000 ∧ 0 ≤ a2.toInt ∧ a2.toInt ≤ 5) ∧ vg_adk (s0.1 55 33).toInt (s0.1 66) a1 (s50.1 55 33).toInt (s50.1 66)) ∨ (¬ (-30000 ≤ a1.toInt ∧ a1.toInt ≤ 30000 ∧ 0 ≤ a2.toInt ∧ a2.toInt ≤ 5) ∧ (s50.1 55 33).toInt = (s0.1 55 33).toInt ∧ ∀ j : Nat, s50.1 66 j = s0.1 66 j))
                exact ⟨i51, k52, (by first | exact Or.inl ⟨by omega, y54⟩ | exact Or.inr ⟨by omega, congrArg Int32.toInt (h49.2.1.1 55 33 rfl), fun j => h49.2.1.1 66 j rfl⟩)⟩
              · have c41 : ¬ (¬ a2.toInt = (Int32.ofInt 1).toInt) := c41
                intro v55 e56
                have w57 : v35 = v55 := by rw [e56, g37]
                subst w57
                refine And.intro (Nat.le_of_ble_eq_true rfl) (And.intro ⟨55, v35, rfl, by decide, i31⟩ ?_)
                intro v58 s60 h59
                have h59 : Iv s60 ∧ Kp s30 s60 ∧ (v58 = v35 ∧ v58.toInt = v35.toInt) := h59
                have i61 := h59.1
                have k62 : K_X11_tone s0 s60 := Kx.tr k32 (((h59.2.1).pt).px)
                have q63 := h59.2.2
                have y64 : vg_adk (s0.1 55 33).toInt (s0.1 66) a1 (s60.1 55 33).toInt (s60.1 66) := by rw [h59.2.1.1 55 33 rfl, show s60.1 66 = s30.1 66 from funext (fun j => h59.2.1.1 66 j rfl)]; exact y34
                show Iv s60 ∧ K_X11_tone s0 s60 ∧ (((-30000 ≤ a1.toInt ∧ a1.toInt ≤ 30000 ∧ 0 ≤ a2.toInt ∧ a2.toInt ≤ 5) ∧ vg_adk (s0.1 55 33).toInt (s0.1 66) a1 (s60.1 55 33).toInt (s60.1 66)) ∨ (¬ (-30000 ≤ a1.toInt ∧ a1.toInt ≤ 30000 ∧ 0 ≤ a2.toInt ∧ a2.toInt ≤ 5) ∧ (s60.1 55 33).toInt = (s0.1 55 33).toInt ∧ ∀ j : Nat, s60.1 66 j = s0.1 66 j))
                exact ⟨i61, k62, (by first | exact Or.inl ⟨by omega, y64⟩ | exact Or.inr ⟨by omega, congrArg Int32.toInt (h59.2.1.1 55 33 rfl), fun j => h59.2.1.1 66 j rfl⟩)⟩
            · have c40 : ¬ (¬ a2.toInt = 0) := c40
              intro v65 e66
              have g67 : s30.1 55 30 = v65 := by rw [e66]
              have b68 : v65.toInt = (s30.1 55 30).toInt := congrArg Int32.toInt e66
              refine And.intro (Nat.le_of_ble_eq_true rfl) (And.intro ⟨55, v65, rfl, by decide, i31⟩ ?_)
              intro v69 s71 h70
              have h70 : Iv s71 ∧ Kp s30 s71 ∧ (v69 = v65 ∧ v69.toInt = v65.toInt) := h70
              have i72 := h70.1
              have k73 : K_X11_tone s0 s71 := Kx.tr k32 (((h70.2.1).pt).px)
              have q74 := h70.2.2
              have y75 : vg_adk (s0.1 55 33).toInt (s0.1 66) a1 (s71.1 55 33).toInt (s71.1 66) := by rw [h70.2.1.1 55 33 rfl, show s71.1 66 = s30.1 66 from funext (fun j => h70.2.1.1 66 j rfl)]; exact y34
              show Iv s71 ∧ K_X11_tone s0 s71 ∧ (((-30000 ≤ a1.toInt ∧ a1.toInt ≤ 30000 ∧ 0 ≤ a2.toInt ∧ a2.toInt ≤ 5) ∧ vg_adk (s0.1 55 33).toInt (s0.1 66) a1 (s71.1 55 33).toInt (s71.1 66)) ∨ (¬ (-30000 ≤ a1.toInt ∧ a1.toInt ≤ 30000 ∧ 0 ≤ a2.toInt ∧ a2.toInt ≤ 5) ∧ (s71.1 55 33).toInt = (s0.1 55 33).toInt ∧ ∀ j : Nat, s71.1 66 j = s0.1 66 j))
              exact ⟨i72, k73, (by first | exact Or.inl ⟨by omega, y75⟩ | exact Or.inr ⟨by omega, congrArg Int32.toInt (h70.2.1.1 55 33 rfl), fun j => h70.2.1.1 66 j rfl⟩)⟩
          · have c39 : ¬ (¬ v35.toInt = (Int32.ofInt (-1)).toInt) := c39
            refine And.intro (Nat.le_of_ble_eq_true rfl) (And.intro ⟨55, (Int32.ofInt 5), rfl, by decide, i31⟩ ?_)
            intro v76 s78 h77
            have h77 : Iv s78 ∧ Kp s30 s78 ∧ (v76.toInt = -1) := h77
            have i79 := h77.1
            have k80 : K_X11_tone s0 s78 := Kx.tr k32 (((h77.2.1).pt).px)
            have q81 := h77.2.2
            have y82 : vg_adk (s0.1 55 33).toInt (s0.1 66) a1 (s78.1 55 33).toInt (s78.1 66) := by rw [h77.2.1.1 55 33 rfl, show s78.1 66 = s30.1 66 from funext (fun j => h77.2.1.1 66 j rfl)]; exact y34
            show Iv s78 ∧ K_X11_tone s0 s78 ∧ (((-30000 ≤ a1.toInt ∧ a1.toInt ≤ 30000 ∧ 0 ≤ a2.toInt ∧ a2.toInt ≤ 5) ∧ vg_adk (s0.1 55 33).toInt (s0.1 66) a1 (s78.1 55 33).toInt (s78.1 66)) ∨ (¬ (-30000 ≤ a1.toInt ∧ a1.toInt ≤ 30000 ∧ 0 ≤ a2.toInt ∧ a2.toInt ≤ 5) ∧ (s78.1 55 33).toInt = (s0.1 55 33).toInt ∧ ∀ j : Nat, s78.1 66 j = s0.1 66 j))
            exact ⟨i79, k80, (by first | exact Or.inl ⟨by omega, y82⟩ | exact Or.inr ⟨by omega, congrArg Int32.toInt (h77.2.1.1 55 33 rfl), fun j => h77.2.1.1 66 j rfl⟩)⟩
        · have c22 : ¬ (¬ v15.toInt = 0) := c22
          refine And.intro (Nat.le_of_ble_eq_true rfl) (And.intro ⟨55, (Int32.ofInt 1), rfl, by decide, i0⟩ ?_)
          intro v83 s85 h84
          have h84 : Iv s85 ∧ Kp s0 s85 ∧ (v83.toInt = -1) := h84
          have i86 := h84.1
          have k87 : K_X11_tone s0 s85 := Kx.tr Kx.rf (((h84.2.1).pt).px)
          have q88 := h84.2.2
          show Iv s85 ∧ K_X11_tone s0 s85 ∧ (((-30000 ≤ a1.toInt ∧ a1.toInt ≤ 30000 ∧ 0 ≤ a2.toInt ∧ a2.toInt ≤ 5) ∧ vg_adk (s0.1 55 33).toInt (s0.1 66) a1 (s85.1 55 33).toInt (s85.1 66)) ∨ (¬ (-30000 ≤ a1.toInt ∧ a1.toInt ≤ 30000 ∧ 0 ≤ a2.toInt ∧ a2.toInt ≤ 5) ∧ (s85.1 55 33).toInt = (s0.1 55 33).toInt ∧ ∀ j : Nat, s85.1 66 j = s0.1 66 j))
          exact ⟨i86, k87, (by first | exact Or.inl ⟨by omega, None⟩ | exact Or.inr ⟨by omega, congrArg Int32.toInt (h84.2.1.1 55 33 rfl), fun j => h84.2.1.1 66 j rfl⟩)⟩
def o_X11_out : List vg_I := [(0, .iload_n 1, 1, 0, 0, 0, 0), (1, .invokestatic 238, 3, 0, 1, 1, 1178), (4, .ifCond .eq 14, 3, 0, 0, 0, 0), (7, .iload_n 2, 1, 0, 0, 0, 0), (8, .iconst 0, 1, 0, 0, 0, 0), (9, .sipush 999, 3, 0, 0, 0, 0), (12, .invokestatic 76, 3, 1, 1, 3, 1175), (15, .ifCond .ne 9, 3, 0, 0, 0, 0), (18, .aload_n 0, 1, 0, 0, 0, 0), (19, .iconst 1, 1, 0, 0, 0, 0), (20, .invokevirtual 242, 3, 2, 11, 1, 1181), (23, .ireturn, 1, 0, 0, 0, 0), (24, .aload_n 0, 1, 0, 0, 0, 0), (25, .iload_n 1, 1, 0, 0, 0, 0), (26, .iconst 1, 1, 0, 0, 0, 0), (27, .invokevirtual 306, 3, 3, 11, 2, 1470), (30, .aload_n 0, 1, 0, 0, 0, 0), (31, .aload_n 0, 1, 0, 0, 0, 0), (32, .getfield 64, 3, 1090, 11, 29, 0), (35, .iload_n 2, 1, 0, 0, 0, 0), (36, .iaload, 1, 0, 0, 0, 0), (37, .invokevirtual 249, 3, 4, 11, 1, 1206), (40, .ireturn, 1, 0, 0, 0, 0)]
set_option maxRecDepth 100000 in
set_option maxHeartbeats 4000000 in
theorem c_X11_out (l : Launch) (G : vg_G) (hp : vg_Hp G) : vg_Ct l G vg_sh r_X11_out := by
  refine vg_meth hp vg_sh_ok r_X11_out k_X11_out rfl (fun h => by cases h) o_X11_out [r_X11_isFar, r_X11_isFrom, r_X11_refuse, r_X11_tones, r_X11_gives] false (by decide +kernel) (by decide +kernel) ⟨_, _, rfl, rfl⟩ (List.forall_mem_cons.mpr ⟨⟨c_X11_isFar l G hp, Nat.le_of_ble_eq_true rfl, Nat.le_of_ble_eq_true rfl⟩, List.forall_mem_cons.mpr ⟨⟨c_X11_isFrom l G hp, Nat.le_of_ble_eq_true rfl, Nat.le_of_ble_eq_true rfl⟩, List.forall_mem_cons.mpr ⟨⟨c_X11_refuse l G hp, Nat.le_of_ble_eq_true rfl, Nat.le_of_ble_eq_true rfl⟩, List.forall_mem_cons.mpr ⟨⟨c_X11_tones l G hp, Nat.le_of_ble_eq_true rfl, Nat.le_of_ble_eq_true rfl⟩, List.forall_mem_cons.mpr ⟨⟨c_X11_gives l G hp, Nat.le_of_ble_eq_true rfl, Nat.le_of_ble_eq_true rfl⟩, fun _ h => absurd h List.not_mem_nil⟩⟩⟩⟩⟩) (fun h => by cases h) 600 ?_
  intro as s0 hpre
  obtain ⟨r, a1, a2, rfl, hr, i0⟩ := hpre
  simp only [List.mem_cons, List.not_mem_nil, or_false] at hr
  rcases hr with rfl
  ·
    have z0 : (Int32.ofInt 0).toInt = 0 := by decide
    have z1 : (Int32.ofInt 1).toInt = 1 := by decide
    have z999 : (Int32.ofInt 999).toInt = 999 := by decide
    refine ⟨Nat.le_of_ble_eq_true rfl, [], ?_, fun _ h => absurd h List.not_mem_nil⟩
    ·
      refine And.intro (Nat.le_of_ble_eq_true rfl) (And.intro ⟨a1, rfl, trivial⟩ ?_)
      intro v1 s3 h2
      have h2 : s3 = s0 ∧ ((v1.toInt = 1 ∧ -30000 ≤ a1.toInt ∧ a1.toInt ≤ 30000) ∨ (v1.toInt = 0 ∧ (a1.toInt < -30000 ∨ 30000 < a1.toInt))) := h2
      have q6 := h2.1.symm
      subst q6
      have q7 := h2.2
      refine And.intro (fun c8 => ?_) (fun c8 => ?_)
      · have c8 : v1.toInt = 0 := c8
        refine And.intro (Nat.le_of_ble_eq_true rfl) (And.intro ⟨55, (Int32.ofInt 1), rfl, by decide, i0⟩ ?_)
        intro v9 s11 h10
        have h10 : Iv s11 ∧ Kp s0 s11 ∧ (v9.toInt = -1) := h10
        have i12 := h10.1
        have k13 : Kt s0 s11 := Kx.tr Kx.rf (((h10.2.1).pt).pk)
        have q14 := h10.2.2
        show Iv s11 ∧ Kt s0 s11 ∧ (True)
        exact ⟨i12, k13, (trivial)⟩
      · have c8 : ¬ (v1.toInt = 0) := c8
        refine And.intro (Nat.le_of_ble_eq_true rfl) (And.intro ⟨a2, (Int32.ofInt 0), (Int32.ofInt 999), rfl, trivial⟩ ?_)
        intro v15 s17 h16
        have h16 : s17 = s0 ∧ ((v15.toInt = 1 ∧ (Int32.ofInt 0).toInt ≤ a2.toInt ∧ a2.toInt ≤ (Int32.ofInt 999).toInt) ∨ (v15.toInt = 0 ∧ (a2.toInt < (Int32.ofInt 0).toInt ∨ (Int32.ofInt 999).toInt < a2.toInt))) := h16
        have q20 := h16.1.symm
        subst q20
        have q21 := h16.2
        refine And.intro (fun c22 => ?_) (fun c22 => ?_)
        · have c22 : ¬ v15.toInt = 0 := c22
          refine And.intro (Nat.le_of_ble_eq_true rfl) (And.intro ⟨55, a1, (Int32.ofInt 1), rfl, by decide, i0⟩ ?_)
          intro s24 h23
          have h23 : Iv s24 ∧ Kt s0 s24 ∧ ((s24.1 55 31).toInt = -1 ∨ (0 ≤ (s24.1 55 30).toInt ∧ 1 ≤ (s24.1 55 31).toInt ∧ (s24.1 55 30).toInt + (s24.1 55 31).toInt ≤ 1000)) := h23
          have i25 := h23.1
          have k26 : Kt s0 s24 := Kx.tr Kx.rf (h23.2.1)
          have q27 := h23.2.2
          refine And.intro ⟨by omega, by omega⟩ ?_
          intro v28 e29
          refine And.intro (Nat.le_of_ble_eq_true rfl) (And.intro ⟨55, v28, rfl, by decide, i25⟩ ?_)
          intro v30 s32 h31
          have h31 : Iv s32 ∧ Kp s24 s32 ∧ (v30 = v28 ∧ v30.toInt = v28.toInt) := h31
          have i33 := h31.1
          have k34 : Kt s0 s32 := Kx.tr k26 (((h31.2.1).pt).pk)
          have q35 := h31.2.2
          show Iv s32 ∧ Kt s0 s32 ∧ (True)
          exact ⟨i33, k34, (trivial)⟩
        · have c22 : ¬ (¬ v15.toInt = 0) := c22
          refine And.intro (Nat.le_of_ble_eq_true rfl) (And.intro ⟨55, (Int32.ofInt 1), rfl, by decide, i0⟩ ?_)
          intro v36 s38 h37
          have h37 : Iv s38 ∧ Kp s0 s38 ∧ (v36.toInt = -1) := h37
          have i39 := h37.1
          have k40 : Kt s0 s38 := Kx.tr Kx.rf (((h37.2.1).pt).pk)
          have q41 := h37.2.2
          show Iv s38 ∧ Kt s0 s38 ∧ (True)
          exact ⟨i39, k40, (trivial)⟩
def o_X11_idle : List vg_I := [(0, .iload_n 1, 1, 0, 0, 0, 0), (1, .invokestatic 238, 3, 0, 1, 1, 1178), (4, .ifCond .eq 45, 3, 0, 0, 0, 0), (7, .iload_n 2, 1, 0, 0, 0, 0), (8, .iconst 1, 1, 0, 0, 0, 0), (9, .bipush 60, 2, 0, 0, 0, 0), (11, .invokestatic 76, 3, 1, 1, 3, 1175), (14, .ifCond .eq 35, 3, 0, 0, 0, 0), (17, .iload_n 1, 1, 0, 0, 0, 0), (18, .iload_n 2, 1, 0, 0, 0, 0), (19, .iadd, 1, 0, 0, 0, 0), (20, .iconst 1, 1, 0, 0, 0, 0), (21, .isub, 1, 0, 0, 0, 0), (22, .sipush 30000, 3, 0, 0, 0, 0), (25, .if_icmp .gt 24, 3, 0, 0, 0, 0), (28, .iload_n 3, 1, 0, 0, 0, 0), (29, .iconst 1, 1, 0, 0, 0, 0), (30, .sipush 1000, 3, 0, 0, 0, 0), (33, .invokestatic 76, 3, 1, 1, 3, 1175), (36, .ifCond .eq 13, 3, 0, 0, 0, 0), (39, .iload 4, 2, 0, 0, 0, 0), (41, .iconst 0, 1, 0, 0, 0, 0), (42, .iconst 1, 1, 0, 0, 0, 0), (43, .invokestatic 76, 3, 1, 1, 3, 1175), (46, .ifCond .ne 9, 3, 0, 0, 0, 0), (49, .aload_n 0, 1, 0, 0, 0, 0), (50, .iconst 1, 1, 0, 0, 0, 0), (51, .invokevirtual 242, 3, 2, 11, 1, 1181), (54, .ireturn, 1, 0, 0, 0, 0), (55, .iconst 0, 1, 0, 0, 0, 0), (56, .istore 5, 2, 0, 0, 0, 0), (58, .iconst 0, 1, 0, 0, 0, 0), (59, .istore 6, 2, 0, 0, 0, 0), (61, .iconst (-1), 1, 0, 0, 0, 0), (62, .istore 7, 2, 0, 0, 0, 0), (64, .iload_n 1, 1, 0, 0, 0, 0), (65, .istore 8, 2, 0, 0, 0, 0), (67, .iload 8, 2, 0, 0, 0, 0), (69, .iload_n 1, 1, 0, 0, 0, 0), (70, .iload_n 2, 1, 0, 0, 0, 0), (71, .iadd, 1, 0, 0, 0, 0), (72, .if_icmp .ge 86, 3, 0, 0, 0, 0), (75, .aload_n 0, 1, 0, 0, 0, 0), (76, .iload 8, 2, 0, 0, 0, 0), (78, .iconst 0, 1, 0, 0, 0, 0), (79, .invokevirtual 306, 3, 3, 11, 2, 1470), (82, .aload_n 0, 1, 0, 0, 0, 0), (83, .getfield 290, 3, 1092, 11, 31, 0), (86, .iconst (-1), 1, 0, 0, 0, 0), (87, .if_icmp .eq 65, 3, 0, 0, 0, 0), (90, .aload_n 0, 1, 0, 0, 0, 0), (91, .getfield 290, 3, 1092, 11, 31, 0), (94, .iload_n 3, 1, 0, 0, 0, 0), (95, .if_icmp .le 6, 3, 0, 0, 0, 0), (98, .goto 54, 3, 0, 0, 0, 0), (101, .iinc 5 1, 3, 0, 0, 0, 0), (104, .iload 7, 2, 0, 0, 0, 0), (106, .iconst (-1), 1, 0, 0, 0, 0), (107, .if_icmp .eq 12, 3, 0, 0, 0, 0), (110, .aload_n 0, 1, 0, 0, 0, 0), (111, .getfield 290, 3, 1092, 11, 31, 0), (114, .iload 7, 2, 0, 0, 0, 0), (116, .if_icmp .ge 8, 3, 0, 0, 0, 0), (119, .iload 8, 2, 0, 0, 0, 0), (121, .goto 5, 3, 0, 0, 0, 0), (124, .iload 6, 2, 0, 0, 0, 0), (126, .istore 6, 2, 0, 0, 0, 0), (128, .iload 7, 2, 0, 0, 0, 0), (130, .iconst (-1), 1, 0, 0, 0, 0), (131, .if_icmp .ne 10, 3, 0, 0, 0, 0), (134, .aload_n 0, 1, 0, 0, 0, 0), (135, .getfield 290, 3, 1092, 11, 31, 0), (138, .goto 12, 3, 0, 0, 0, 0), (141, .iload 7, 2, 0, 0, 0, 0), (143, .aload_n 0, 1, 0, 0, 0, 0), (144, .getfield 290, 3, 1092, 11, 31, 0), (147, .invokestatic 113, 3, 4, 1, 2, 1280), (150, .istore 7, 2, 0, 0, 0, 0), (152, .iinc 8 1, 3, 0, 0, 0, 0), (155, .goto (-88), 3, 0, 0, 0, 0), (158, .iload 4, 2, 0, 0, 0, 0), (160, .ifCond .ne 12, 3, 0, 0, 0, 0), (163, .aload_n 0, 1, 0, 0, 0, 0), (164, .iload 5, 2, 0, 0, 0, 0), (166, .invokevirtual 249, 3, 5, 11, 1, 1206), (169, .goto 23, 3, 0, 0, 0, 0), (172, .iload 7, 2, 0, 0, 0, 0), (174, .iconst (-1), 1, 0, 0, 0, 0), (175, .if_icmp .ne 11, 3, 0, 0, 0, 0), (178, .aload_n 0, 1, 0, 0, 0, 0), (179, .iconst 5, 1, 0, 0, 0, 0), (180, .invokevirtual 242, 3, 2, 11, 1, 1181), (183, .goto 9, 3, 0, 0, 0, 0), (186, .aload_n 0, 1, 0, 0, 0, 0), (187, .iload 6, 2, 0, 0, 0, 0), (189, .invokevirtual 249, 3, 5, 11, 1, 1206), (192, .ireturn, 1, 0, 0, 0, 0)]
set_option maxRecDepth 100000 in
set_option maxHeartbeats 4000000 in
theorem c_X11_idle (l : Launch) (G : vg_G) (hp : vg_Hp G) : vg_Ct l G vg_sh r_X11_idle := by
  refine vg_meth hp vg_sh_ok r_X11_idle k_X11_idle rfl (fun h => by cases h) o_X11_idle [r_X11_isFar, r_X11_isFrom, r_X11_refuse, r_X11_tones, r_J9_min_7cf53, r_X11_gives] false (by decide +kernel) (by decide +kernel) ⟨_, _, rfl, rfl⟩ (List.forall_mem_cons.mpr ⟨⟨c_X11_isFar l G hp, Nat.le_of_ble_eq_true rfl, Nat.le_of_ble_eq_true rfl⟩, List.forall_mem_cons.mpr ⟨⟨c_X11_isFrom l G hp, Nat.le_of_ble_eq_true rfl, Nat.le_of_ble_eq_true rfl⟩, List.forall_mem_cons.mpr ⟨⟨c_X11_refuse l G hp, Nat.le_of_ble_eq_true rfl, Nat.le_of_ble_eq_true rfl⟩, List.forall_mem_cons.mpr ⟨⟨c_X11_tones l G hp, Nat.le_of_ble_eq_true rfl, Nat.le_of_ble_eq_true rfl⟩, List.forall_mem_cons.mpr ⟨⟨c_J9_min_7cf53 l G hp, Nat.le_of_ble_eq_true rfl, Nat.le_of_ble_eq_true rfl⟩, List.forall_mem_cons.mpr ⟨⟨c_X11_gives l G hp, Nat.le_of_ble_eq_true rfl, Nat.le_of_ble_eq_true rfl⟩, fun _ h => absurd h List.not_mem_nil⟩⟩⟩⟩⟩⟩) (fun h => by cases h) 600 ?_
  intro as s0 hpre
  obtain ⟨r, a1, a2, a3, a4, rfl, hr, i0⟩ := hpre
  simp only [List.mem_cons, List.not_mem_nil, or_false] at hr
  rcases hr with rfl
  ·
    have zm1 : (Int32.ofInt (-1)).toInt = -1 := by decide
    have z0 : (Int32.ofInt 0).toInt = 0 := by decide
    have z1 : (Int32.ofInt 1).toInt = 1 := by decide
    have z5 : (Int32.ofInt 5).toInt = 5 := by decide
    have z60 : (Int32.ofInt 60).toInt = 60 := by decide
    have z1000 : (Int32.ofInt 1000).toInt = 1000 := by decide
    have z30000 : (Int32.ofInt 30000).toInt = 30000 := by decide
    refine ⟨Nat.le_of_ble_eq_true rfl, [(67, [true, true, true, true, true, true, true, true, true], (fun L t => ∃ (x5 : Int32) (x6 : Int32) (x7 : Int32) (x8 : Int32), L = [some (.ref 55), some (.int a1), some (.int a2), some (.int a3), some (.int a4), some (.int x5), some (.int x6), some (.int x7), some (.int x8)] ∧ (-30000 : Int) ≤ x8.toInt ∧ x8.toInt ≤ (30060 : Int) ∧ (-30000 : Int) ≤ a1.toInt ∧ a1.toInt ≤ (30000 : Int) ∧ (1 : Int) ≤ a2.toInt ∧ a2.toInt ≤ (60 : Int) ∧ (1 : Int) ≤ a3.toInt ∧ a3.toInt ≤ (1000 : Int) ∧ (0 : Int) ≤ a4.toInt ∧ a4.toInt ≤ (1 : Int) ∧ Iv t ∧ Kt s0 t), (fun L _ => (0 + (30060 - (vg_li L 8).toInt) * 1000000000000).toNat))], ?_, List.forall_mem_cons.mpr ⟨?_, fun _ h => absurd h List.not_mem_nil⟩⟩
    ·
      refine And.intro (Nat.le_of_ble_eq_true rfl) (And.intro ⟨a1, rfl, trivial⟩ ?_)
      intro v1 s3 h2
      have h2 : s3 = s0 ∧ ((v1.toInt = 1 ∧ -30000 ≤ a1.toInt ∧ a1.toInt ≤ 30000) ∨ (v1.toInt = 0 ∧ (a1.toInt < -30000 ∨ 30000 < a1.toInt))) := h2
      have q6 := h2.1.symm
      subst q6
      have q7 := h2.2
      refine And.intro (fun c8 => ?_) (fun c8 => ?_)
      · have c8 : v1.toInt = 0 := c8
        refine And.intro (Nat.le_of_ble_eq_true rfl) (And.intro ⟨55, (Int32.ofInt 1), rfl, by decide, i0⟩ ?_)
        intro v9 s11 h10
        have h10 : Iv s11 ∧ Kp s0 s11 ∧ (v9.toInt = -1) := h10
        have i12 := h10.1
        have k13 : Kt s0 s11 := Kx.tr Kx.rf (((h10.2.1).pt).pk)
        have q14 := h10.2.2
        show Iv s11 ∧ Kt s0 s11 ∧ (True)
        exact ⟨i12, k13, (trivial)⟩
      · have c8 : ¬ (v1.toInt = 0) := c8
        refine And.intro (Nat.le_of_ble_eq_true rfl) (And.intro ⟨a2, (Int32.ofInt 1), (Int32.ofInt 60), rfl, trivial⟩ ?_)
        intro v15 s17 h16
        have h16 : s17 = s0 ∧ ((v15.toInt = 1 ∧ (Int32.ofInt 1).toInt ≤ a2.toInt ∧ a2.toInt ≤ (Int32.ofInt 60).toInt) ∨ (v15.toInt = 0 ∧ (a2.toInt < (Int32.ofInt 1).toInt ∨ (Int32.ofInt 60).toInt < a2.toInt))) := h16
        have q20 := h16.1.symm
        subst q20
        have q21 := h16.2
        refine And.intro (fun c22 => ?_) (fun c22 => ?_)
        · have c22 : v15.toInt = 0 := c22
          refine And.intro (Nat.le_of_ble_eq_true rfl) (And.intro ⟨55, (Int32.ofInt 1), rfl, by decide, i0⟩ ?_)
          intro v23 s25 h24
          have h24 : Iv s25 ∧ Kp s0 s25 ∧ (v23.toInt = -1) := h24
          have i26 := h24.1
          have k27 : Kt s0 s25 := Kx.tr Kx.rf (((h24.2.1).pt).pk)
          have q28 := h24.2.2
          show Iv s25 ∧ Kt s0 s25 ∧ (True)
          exact ⟨i26, k27, (trivial)⟩
        · have c22 : ¬ (v15.toInt = 0) := c22
          intro v29 e30
          have b31 := vg_add e30 (by omega) (by omega)
          intro v32 e33
          have b34 := vg_sub e33 (by omega) (by omega)
          refine And.intro (fun c35 => ?_) (fun c35 => ?_)
          · have c35 : (Int32.ofInt 30000).toInt < v32.toInt := c35
            refine And.intro (Nat.le_of_ble_eq_true rfl) (And.intro ⟨55, (Int32.ofInt 1), rfl, by decide, i0⟩ ?_)
            intro v36 s38 h37
            have h37 : Iv s38 ∧ Kp s0 s38 ∧ (v36.toInt = -1) := h37
            have i39 := h37.1
            have k40 : Kt s0 s38 := Kx.tr Kx.rf (((h37.2.1).pt).pk)
            have q41 := h37.2.2
            show Iv s38 ∧ Kt s0 s38 ∧ (True)
            exact ⟨i39, k40, (trivial)⟩
          · have c35 : ¬ ((Int32.ofInt 30000).toInt < v32.toInt) := c35
            refine And.intro (Nat.le_of_ble_eq_true rfl) (And.intro ⟨a3, (Int32.ofInt 1), (Int32.ofInt 1000), rfl, trivial⟩ ?_)
            intro v42 s44 h43
            have h43 : s44 = s0 ∧ ((v42.toInt = 1 ∧ (Int32.ofInt 1).toInt ≤ a3.toInt ∧ a3.toInt ≤ (Int32.ofInt 1000).toInt) ∨ (v42.toInt = 0 ∧ (a3.toInt < (Int32.ofInt 1).toInt ∨ (Int32.ofInt 1000).toInt < a3.toInt))) := h43
            have q47 := h43.1.symm
            subst q47
            have q48 := h43.2
            refine And.intro (fun c49 => ?_) (fun c49 => ?_)
            · have c49 : v42.toInt = 0 := c49
              refine And.intro (Nat.le_of_ble_eq_true rfl) (And.intro ⟨55, (Int32.ofInt 1), rfl, by decide, i0⟩ ?_)
              intro v50 s52 h51
              have h51 : Iv s52 ∧ Kp s0 s52 ∧ (v50.toInt = -1) := h51
              have i53 := h51.1
              have k54 : Kt s0 s52 := Kx.tr Kx.rf (((h51.2.1).pt).pk)
              have q55 := h51.2.2
              show Iv s52 ∧ Kt s0 s52 ∧ (True)
              exact ⟨i53, k54, (trivial)⟩
            · have c49 : ¬ (v42.toInt = 0) := c49
              refine And.intro (Nat.le_of_ble_eq_true rfl) (And.intro ⟨a4, (Int32.ofInt 0), (Int32.ofInt 1), rfl, trivial⟩ ?_)
              intro v56 s58 h57
              have h57 : s58 = s0 ∧ ((v56.toInt = 1 ∧ (Int32.ofInt 0).toInt ≤ a4.toInt ∧ a4.toInt ≤ (Int32.ofInt 1).toInt) ∨ (v56.toInt = 0 ∧ (a4.toInt < (Int32.ofInt 0).toInt ∨ (Int32.ofInt 1).toInt < a4.toInt))) := h57
              have q61 := h57.1.symm
              subst q61
              have q62 := h57.2
              refine And.intro (fun c63 => ?_) (fun c63 => ?_)
              · have c63 : ¬ v56.toInt = 0 := c63
                exact ⟨rfl, ⟨(Int32.ofInt 0), (Int32.ofInt 0), (Int32.ofInt (-1)), a1, rfl, (by omega), (by omega), (by omega), (by omega), (by omega), (by omega), (by omega), (by omega), (by omega), (by omega), i0, Kx.rf⟩, trivial⟩
              · have c63 : ¬ (¬ v56.toInt = 0) := c63
                refine And.intro (Nat.le_of_ble_eq_true rfl) (And.intro ⟨55, (Int32.ofInt 1), rfl, by decide, i0⟩ ?_)
                intro v64 s66 h65
                have h65 : Iv s66 ∧ Kp s0 s66 ∧ (v64.toInt = -1) := h65
                have i67 := h65.1
                have k68 : Kt s0 s66 := Kx.tr Kx.rf (((h65.2.1).pt).pk)
                have q69 := h65.2.2
                show Iv s66 ∧ Kt s0 s66 ∧ (True)
                exact ⟨i67, k68, (trivial)⟩
    ·
      intro L s84 hL
      obtain ⟨w70, w71, w72, w73, rfl, b74, b75, b76, b77, b78, b79, b80, b81, b82, b83, i85, k86⟩ := hL
      intro v87 e88
      have b89 := vg_add e88 (by omega) (by omega)
      refine And.intro (fun c90 => ?_) (fun c90 => ?_)
      · have c90 : v87.toInt ≤ w73.toInt := c90
        refine And.intro (fun c91 => ?_) (fun c91 => ?_)
        · have c91 : ¬ a4.toInt = 0 := c91
          refine And.intro (fun c92 => ?_) (fun c92 => ?_)
          · have c92 : ¬ w72.toInt = (Int32.ofInt (-1)).toInt := c92
            refine And.intro (Nat.le_of_ble_eq_true rfl) (And.intro ⟨55, w71, rfl, by decide, i85⟩ ?_)
            intro v93 s95 h94
            have h94 : Iv s95 ∧ Kp s84 s95 ∧ (v93 = w71 ∧ v93.toInt = w71.toInt) := h94
            have i96 := h94.1
            have k97 : Kt s0 s95 := Kx.tr k86 (((h94.2.1).pt).pk)
            have q98 := h94.2.2
            show Iv s95 ∧ Kt s0 s95 ∧ (True)
            exact ⟨i96, k97, (trivial)⟩
          · have c92 : ¬ (¬ w72.toInt = (Int32.ofInt (-1)).toInt) := c92
            refine And.intro (Nat.le_of_ble_eq_true rfl) (And.intro ⟨55, (Int32.ofInt 5), rfl, by decide, i85⟩ ?_)
            intro v99 s101 h100
            have h100 : Iv s101 ∧ Kp s84 s101 ∧ (v99.toInt = -1) := h100
            have i102 := h100.1
            have k103 : Kt s0 s101 := Kx.tr k86 (((h100.2.1).pt).pk)
            have q104 := h100.2.2
            show Iv s101 ∧ Kt s0 s101 ∧ (True)
            exact ⟨i102, k103, (trivial)⟩
        · have c91 : ¬ (¬ a4.toInt = 0) := c91
          refine And.intro (Nat.le_of_ble_eq_true rfl) (And.intro ⟨55, w70, rfl, by decide, i85⟩ ?_)
          intro v105 s107 h106
          have h106 : Iv s107 ∧ Kp s84 s107 ∧ (v105 = w70 ∧ v105.toInt = w70.toInt) := h106
          have i108 := h106.1
          have k109 : Kt s0 s107 := Kx.tr k86 (((h106.2.1).pt).pk)
          have q110 := h106.2.2
          show Iv s107 ∧ Kt s0 s107 ∧ (True)
          exact ⟨i108, k109, (trivial)⟩
      · have c90 : ¬ (v87.toInt ≤ w73.toInt) := c90
        refine And.intro (Nat.le_of_ble_eq_true rfl) (And.intro ⟨55, w73, (Int32.ofInt 0), rfl, by decide, i85⟩ ?_)
        intro s112 h111
        have h111 : Iv s112 ∧ Kt s84 s112 ∧ ((s112.1 55 31).toInt = -1 ∨ (0 ≤ (s112.1 55 30).toInt ∧ 1 ≤ (s112.1 55 31).toInt ∧ (s112.1 55 30).toInt + (s112.1 55 31).toInt ≤ 1000)) := h111
        have i113 := h111.1
        have k114 : Kt s0 s112 := Kx.tr k86 (h111.2.1)
        have q115 := h111.2.2
        intro v116 e117
        have g118 : s112.1 55 31 = v116 := by rw [e117]
        have b119 : v116.toInt = (s112.1 55 31).toInt := congrArg Int32.toInt e117
        refine And.intro (fun c120 => ?_) (fun c120 => ?_)
        · have c120 : v116.toInt = (Int32.ofInt (-1)).toInt := c120
          intro v121 e122
          have b123 := vg_add e122 (by omega) (by omega)
          exact ⟨rfl, ⟨w70, w71, w72, v121, rfl, (by omega), (by omega), (by omega), (by omega), (by omega), (by omega), (by omega), (by omega), (by omega), (by omega), i113, k114⟩, (by show (0 + (30060 - v121.toInt) * 1000000000000).toNat < (0 + (30060 - w73.toInt) * 1000000000000).toNat; omega)⟩
        · have c120 : ¬ (v116.toInt = (Int32.ofInt (-1)).toInt) := c120
          intro v124 e125
          have w126 : v116 = v124 := by rw [e125, g118]
          subst w126
          refine And.intro (fun c127 => ?_) (fun c127 => ?_)
          · have c127 : v116.toInt ≤ a3.toInt := c127
            intro v128 e129
            refine And.intro (fun c130 => ?_) (fun c130 => ?_)
            · have c130 : w72.toInt = (Int32.ofInt (-1)).toInt := c130
              refine And.intro (fun c131 => ?_) (fun c131 => ?_)
              · have c131 : ¬ w72.toInt = (Int32.ofInt (-1)).toInt := c131
                exfalso
                omega
              · have c131 : ¬ (¬ w72.toInt = (Int32.ofInt (-1)).toInt) := c131
                intro v132 e133
                have w134 : v116 = v132 := by rw [e133, g118]
                subst w134
                intro v135 e136
                have b137 := vg_add e136 (by omega) (by omega)
                exact ⟨rfl, ⟨v128, w73, v116, v135, rfl, (by omega), (by omega), (by omega), (by omega), (by omega), (by omega), (by omega), (by omega), (by omega), (by omega), i113, k114⟩, (by show (0 + (30060 - v135.toInt) * 1000000000000).toNat < (0 + (30060 - w73.toInt) * 1000000000000).toNat; omega)⟩
            · have c130 : ¬ (w72.toInt = (Int32.ofInt (-1)).toInt) := c130
              intro v138 e139
              have w140 : v116 = v138 := by rw [e139, g118]
              subst w140
              refine And.intro (fun c141 => ?_) (fun c141 => ?_)
              · have c141 : w72.toInt ≤ v116.toInt := c141
                refine And.intro (fun c142 => ?_) (fun c142 => ?_)
                · have c142 : ¬ w72.toInt = (Int32.ofInt (-1)).toInt := c142
                  intro v143 e144
                  have w145 : v116 = v143 := by rw [e144, g118]
                  subst w145
                  refine And.intro (Nat.le_of_ble_eq_true rfl) (And.intro ⟨w72, v116, rfl, trivial⟩ ?_)
                  intro v146 s148 h147
                  have h147 : s148 = s112 ∧ (v146.toInt ≤ w72.toInt ∧ v146.toInt ≤ v116.toInt ∧ (v146.toInt = w72.toInt ∨ v146.toInt = v116.toInt)) := h147
                  have q151 := h147.1.symm
                  subst q151
                  have q152 := h147.2
                  intro v153 e154
                  have b155 := vg_add e154 (by omega) (by omega)
                  exact ⟨rfl, ⟨v128, w71, v146, v153, rfl, (by omega), (by omega), (by omega), (by omega), (by omega), (by omega), (by omega), (by omega), (by omega), (by omega), i113, k114⟩, (by show (0 + (30060 - v153.toInt) * 1000000000000).toNat < (0 + (30060 - w73.toInt) * 1000000000000).toNat; omega)⟩
                · have c142 : ¬ (¬ w72.toInt = (Int32.ofInt (-1)).toInt) := c142
                  intro v156 e157
                  have w158 : v116 = v156 := by rw [e157, g118]
                  subst w158
                  intro v159 e160
                  have b161 := vg_add e160 (by omega) (by omega)
                  exact ⟨rfl, ⟨v128, w71, v116, v159, rfl, (by omega), (by omega), (by omega), (by omega), (by omega), (by omega), (by omega), (by omega), (by omega), (by omega), i113, k114⟩, (by show (0 + (30060 - v159.toInt) * 1000000000000).toNat < (0 + (30060 - w73.toInt) * 1000000000000).toNat; omega)⟩
              · have c141 : ¬ (w72.toInt ≤ v116.toInt) := c141
                refine And.intro (fun c162 => ?_) (fun c162 => ?_)
                · have c162 : ¬ w72.toInt = (Int32.ofInt (-1)).toInt := c162
                  intro v163 e164
                  have w165 : v116 = v163 := by rw [e164, g118]
                  subst w165
                  refine And.intro (Nat.le_of_ble_eq_true rfl) (And.intro ⟨w72, v116, rfl, trivial⟩ ?_)
                  intro v166 s168 h167
                  have h167 : s168 = s112 ∧ (v166.toInt ≤ w72.toInt ∧ v166.toInt ≤ v116.toInt ∧ (v166.toInt = w72.toInt ∨ v166.toInt = v116.toInt)) := h167
                  have q171 := h167.1.symm
                  subst q171
                  have q172 := h167.2
                  intro v173 e174
                  have b175 := vg_add e174 (by omega) (by omega)
                  exact ⟨rfl, ⟨v128, w73, v166, v173, rfl, (by omega), (by omega), (by omega), (by omega), (by omega), (by omega), (by omega), (by omega), (by omega), (by omega), i113, k114⟩, (by show (0 + (30060 - v173.toInt) * 1000000000000).toNat < (0 + (30060 - w73.toInt) * 1000000000000).toNat; omega)⟩
                · have c162 : ¬ (¬ w72.toInt = (Int32.ofInt (-1)).toInt) := c162
                  intro v176 e177
                  have w178 : v116 = v176 := by rw [e177, g118]
                  subst w178
                  intro v179 e180
                  have b181 := vg_add e180 (by omega) (by omega)
                  exact ⟨rfl, ⟨v128, w73, v116, v179, rfl, (by omega), (by omega), (by omega), (by omega), (by omega), (by omega), (by omega), (by omega), (by omega), (by omega), i113, k114⟩, (by show (0 + (30060 - v179.toInt) * 1000000000000).toNat < (0 + (30060 - w73.toInt) * 1000000000000).toNat; omega)⟩
          · have c127 : ¬ (v116.toInt ≤ a3.toInt) := c127
            intro v182 e183
            have b184 := vg_add e183 (by omega) (by omega)
            exact ⟨rfl, ⟨w70, w71, w72, v182, rfl, (by omega), (by omega), (by omega), (by omega), (by omega), (by omega), (by omega), (by omega), (by omega), (by omega), i113, k114⟩, (by show (0 + (30060 - v182.toInt) * 1000000000000).toNat < (0 + (30060 - w73.toInt) * 1000000000000).toNat; omega)⟩
def o_X11_ahead : List vg_I := [(0, .iload_n 1, 1, 0, 0, 0, 0), (1, .iconst 1, 1, 0, 0, 0, 0), (2, .sipush 200, 3, 0, 0, 0, 0), (5, .invokestatic 76, 3, 0, 1, 3, 1175), (8, .ifCond .eq 21, 3, 0, 0, 0, 0), (11, .iload_n 2, 1, 0, 0, 0, 0), (12, .iconst 0, 1, 0, 0, 0, 0), (13, .iconst 2, 1, 0, 0, 0, 0), (14, .invokestatic 76, 3, 0, 1, 3, 1175), (17, .ifCond .eq 12, 3, 0, 0, 0, 0), (20, .iload_n 3, 1, 0, 0, 0, 0), (21, .iconst 0, 1, 0, 0, 0, 0), (22, .iconst 2, 1, 0, 0, 0, 0), (23, .invokestatic 76, 3, 0, 1, 3, 1175), (26, .ifCond .ne 10, 3, 0, 0, 0, 0), (29, .aload_n 0, 1, 0, 0, 0, 0), (30, .iconst 1, 1, 0, 0, 0, 0), (31, .invokevirtual 242, 3, 1, 11, 1, 1181), (34, .i2l, 1, 0, 0, 0, 0), (35, .lreturn, 1, 0, 0, 0, 0), (36, .aload_n 0, 1, 0, 0, 0, 0), (37, .getfield 164, 3, 1076, 11, 15, 0), (40, .istore 4, 2, 0, 0, 0, 0), (42, .aload_n 0, 1, 0, 0, 0, 0), (43, .getfield 7, 3, 1061, 11, 0, 0), (46, .aload_n 0, 1, 0, 0, 0, 0), (47, .getfield 70, 3, 1095, 11, 34, 0), (50, .invokestatic 283, 3, 2, 1, 2, 1474), (53, .aload_n 0, 1, 0, 0, 0, 0), (54, .iload_n 2, 1, 0, 0, 0, 0), (55, .putfield 164, 3, 1076, 11, 15, 0), (58, .aload_n 0, 1, 0, 0, 0, 0), (59, .invokevirtual 87, 3, 3, 11, 0, 1197), (62, .lconst 0, 1, 0, 0, 0, 0), (63, .lstore 5, 2, 0, 0, 0, 0), (65, .iconst 0, 1, 0, 0, 0, 0), (66, .istore 7, 2, 0, 0, 0, 0), (68, .iload 7, 2, 0, 0, 0, 0), (70, .iload_n 1, 1, 0, 0, 0, 0), (71, .if_icmp .ge 30, 3, 0, 0, 0, 0), (74, .aload_n 0, 1, 0, 0, 0, 0), (75, .invokevirtual 264, 3, 4, 11, 0, 1272), (78, .lload 5, 2, 0, 0, 0, 0), (80, .aload_n 0, 1, 0, 0, 0, 0), (81, .getfield 7, 3, 1061, 11, 0, 0), (84, .bipush 11, 2, 0, 0, 0, 0), (86, .laload, 1, 0, 0, 0, 0), (87, .invokestatic 216, 3, 5, 1, 1, 1326), (90, .invokestatic 176, 3, 6, 1, 2, 1327), (93, .lstore 5, 2, 0, 0, 0, 0), (95, .iinc 7 1, 3, 0, 0, 0, 0), (98, .goto (-30), 3, 0, 0, 0, 0), (101, .iload_n 3, 1, 0, 0, 0, 0), (102, .ifCond .ne 11, 3, 0, 0, 0, 0), (105, .aload_n 0, 1, 0, 0, 0, 0), (106, .invokevirtual 273, 3, 7, 11, 0, 1417), (109, .i2l, 1, 0, 0, 0, 0), (110, .goto 20, 3, 0, 0, 0, 0), (113, .iload_n 3, 1, 0, 0, 0, 0), (114, .iconst 1, 1, 0, 0, 0, 0), (115, .if_icmp .ne 13, 3, 0, 0, 0, 0), (118, .aload_n 0, 1, 0, 0, 0, 0), (119, .getfield 7, 3, 1061, 11, 0, 0), (122, .bipush 11, 2, 0, 0, 0, 0), (124, .laload, 1, 0, 0, 0, 0), (125, .goto 5, 3, 0, 0, 0, 0), (128, .lload 5, 2, 0, 0, 0, 0), (130, .lstore 7, 2, 0, 0, 0, 0), (132, .aload_n 0, 1, 0, 0, 0, 0), (133, .iload 4, 2, 0, 0, 0, 0), (135, .putfield 164, 3, 1076, 11, 15, 0), (138, .aload_n 0, 1, 0, 0, 0, 0), (139, .getfield 70, 3, 1095, 11, 34, 0), (142, .aload_n 0, 1, 0, 0, 0, 0), (143, .getfield 7, 3, 1061, 11, 0, 0), (146, .invokestatic 283, 3, 2, 1, 2, 1474), (149, .aload_n 0, 1, 0, 0, 0, 0), (150, .lload 7, 2, 0, 0, 0, 0), (152, .invokevirtual 270, 3, 8, 11, 1, 1393), (155, .lreturn, 1, 0, 0, 0, 0)]
set_option maxRecDepth 100000 in
set_option maxHeartbeats 4000000 in
theorem c_X11_ahead (l : Launch) (G : vg_G) (hp : vg_Hp G) : vg_Ct l G vg_sh r_X11_ahead := by
  refine vg_meth hp vg_sh_ok r_X11_ahead k_X11_ahead rfl (fun h => by cases h) o_X11_ahead [r_X11_isFrom, r_X11_refuse, r_X11_copies, r_X11_beginsElements, r_X11_goes, r_J9_abs_067f4, r_J9_max_f86c9, r_X11_spreadNow, r_X11_givesLong] false (by decide +kernel) (by decide +kernel) ⟨_, _, rfl, rfl⟩ (List.forall_mem_cons.mpr ⟨⟨c_X11_isFrom l G hp, Nat.le_of_ble_eq_true rfl, Nat.le_of_ble_eq_true rfl⟩, List.forall_mem_cons.mpr ⟨⟨c_X11_refuse l G hp, Nat.le_of_ble_eq_true rfl, Nat.le_of_ble_eq_true rfl⟩, List.forall_mem_cons.mpr ⟨⟨c_X11_copies l G hp, Nat.le_of_ble_eq_true rfl, Nat.le_of_ble_eq_true rfl⟩, List.forall_mem_cons.mpr ⟨⟨c_X11_beginsElements l G hp, Nat.le_of_ble_eq_true rfl, Nat.le_of_ble_eq_true rfl⟩, List.forall_mem_cons.mpr ⟨⟨c_X11_goes l G hp, Nat.le_of_ble_eq_true rfl, Nat.le_of_ble_eq_true rfl⟩, List.forall_mem_cons.mpr ⟨⟨c_J9_abs_067f4 l G hp, Nat.le_of_ble_eq_true rfl, Nat.le_of_ble_eq_true rfl⟩, List.forall_mem_cons.mpr ⟨⟨c_J9_max_f86c9 l G hp, Nat.le_of_ble_eq_true rfl, Nat.le_of_ble_eq_true rfl⟩, List.forall_mem_cons.mpr ⟨⟨c_X11_spreadNow l G hp, Nat.le_of_ble_eq_true rfl, Nat.le_of_ble_eq_true rfl⟩, List.forall_mem_cons.mpr ⟨⟨c_X11_givesLong l G hp, Nat.le_of_ble_eq_true rfl, Nat.le_of_ble_eq_true rfl⟩, fun _ h => absurd h List.not_mem_nil⟩⟩⟩⟩⟩⟩⟩⟩⟩) (fun h => by cases h) 600 ?_
  intro as s0 hpre
  obtain ⟨r, a1, a2, a3, rfl, hr, i0, p0⟩ := hpre
  simp only [List.mem_cons, List.not_mem_nil, or_false] at hr
  rcases hr with rfl
  ·
    have z0 : (Int32.ofInt 0).toInt = 0 := by decide
    have z1 : (Int32.ofInt 1).toInt = 1 := by decide
    have z2 : (Int32.ofInt 2).toInt = 2 := by decide
    have z11 : (Int32.ofInt 11).toInt = 11 := by decide
    have z200 : (Int32.ofInt 200).toInt = 200 := by decide
    refine ⟨Nat.le_of_ble_eq_true rfl, [(68, [true, true, false, true, true, true, false, true, false], (fun L t => ∃ (x4 : Int32) (x5 : Int64) (x7 : Int32), L = [some (.ref 55), some (.int a1), none, some (.int a3), some (.int x4), some (.long x5), none, some (.int x7), none] ∧ (0 : Int) ≤ x7.toInt ∧ x7.toInt ≤ (200 : Int) ∧ (1 : Int) ≤ a1.toInt ∧ a1.toInt ≤ (200 : Int) ∧ (0 : Int) ≤ a3.toInt ∧ a3.toInt ≤ (2 : Int) ∧ ((t.2 56 0).toInt = (s0.2 56 0).toInt + x7.toInt ∧ x4.toInt = (s0.1 55 15).toInt) ∧ (t.2 67 0 = s0.2 56 0) ∧ Iv t ∧ K_X11_aheadm s0 t), (fun L _ => (0 + (200 - (vg_li L 7).toInt) * 1000000000000).toNat))], ?_, List.forall_mem_cons.mpr ⟨?_, fun _ h => absurd h List.not_mem_nil⟩⟩
    ·
      refine And.intro (Nat.le_of_ble_eq_true rfl) (And.intro ⟨a1, (Int32.ofInt 1), (Int32.ofInt 200), rfl, trivial⟩ ?_)
      intro v1 s3 h2
      have h2 : s3 = s0 ∧ ((v1.toInt = 1 ∧ (Int32.ofInt 1).toInt ≤ a1.toInt ∧ a1.toInt ≤ (Int32.ofInt 200).toInt) ∨ (v1.toInt = 0 ∧ (a1.toInt < (Int32.ofInt 1).toInt ∨ (Int32.ofInt 200).toInt < a1.toInt))) := h2
      have q6 := h2.1.symm
      subst q6
      have q7 := h2.2
      refine And.intro (fun c8 => ?_) (fun c8 => ?_)
      · have c8 : v1.toInt = 0 := c8
        refine And.intro (Nat.le_of_ble_eq_true rfl) (And.intro ⟨55, (Int32.ofInt 1), rfl, by decide, i0⟩ ?_)
        intro v9 s11 h10
        have h10 : Iv s11 ∧ Kp s0 s11 ∧ (v9.toInt = -1) := h10
        have i12 := h10.1
        have k13 : K_X11_ahead s0 s11 := Kx.tr Kx.rf (((h10.2.1).pt).px)
        have q14 := h10.2.2
        intro v15 e16
        show Iv s11 ∧ K_X11_ahead s0 s11 ∧ ((s11.1 55 15).toInt = (s0.1 55 15).toInt)
        exact ⟨i12, k13, (by first | exact congrArg Int32.toInt (h10.2.1.1 55 15 rfl) | (rw [none]; omega))⟩
      · have c8 : ¬ (v1.toInt = 0) := c8
        refine And.intro (Nat.le_of_ble_eq_true rfl) (And.intro ⟨a2, (Int32.ofInt 0), (Int32.ofInt 2), rfl, trivial⟩ ?_)
        intro v17 s19 h18
        have h18 : s19 = s0 ∧ ((v17.toInt = 1 ∧ (Int32.ofInt 0).toInt ≤ a2.toInt ∧ a2.toInt ≤ (Int32.ofInt 2).toInt) ∨ (v17.toInt = 0 ∧ (a2.toInt < (Int32.ofInt 0).toInt ∨ (Int32.ofInt 2).toInt < a2.toInt))) := h18
        have q22 := h18.1.symm
        subst q22
        have q23 := h18.2
        refine And.intro (fun c24 => ?_) (fun c24 => ?_)
        · have c24 : v17.toInt = 0 := c24
          refine And.intro (Nat.le_of_ble_eq_true rfl) (And.intro ⟨55, (Int32.ofInt 1), rfl, by decide, i0⟩ ?_)
          intro v25 s27 h26
          have h26 : Iv s27 ∧ Kp s0 s27 ∧ (v25.toInt = -1) := h26
          have i28 := h26.1
          have k29 : K_X11_ahead s0 s27 := Kx.tr Kx.rf (((h26.2.1).pt).px)
          have q30 := h26.2.2
          intro v31 e32
          show Iv s27 ∧ K_X11_ahead s0 s27 ∧ ((s27.1 55 15).toInt = (s0.1 55 15).toInt)
          exact ⟨i28, k29, (by first | exact congrArg Int32.toInt (h26.2.1.1 55 15 rfl) | (rw [none]; omega))⟩
        · have c24 : ¬ (v17.toInt = 0) := c24
          refine And.intro (Nat.le_of_ble_eq_true rfl) (And.intro ⟨a3, (Int32.ofInt 0), (Int32.ofInt 2), rfl, trivial⟩ ?_)
          intro v33 s35 h34
          have h34 : s35 = s0 ∧ ((v33.toInt = 1 ∧ (Int32.ofInt 0).toInt ≤ a3.toInt ∧ a3.toInt ≤ (Int32.ofInt 2).toInt) ∨ (v33.toInt = 0 ∧ (a3.toInt < (Int32.ofInt 0).toInt ∨ (Int32.ofInt 2).toInt < a3.toInt))) := h34
          have q38 := h34.1.symm
          subst q38
          have q39 := h34.2
          refine And.intro (fun c40 => ?_) (fun c40 => ?_)
          · have c40 : ¬ v33.toInt = 0 := c40
            intro v41 e42
            have g43 : s0.1 55 15 = v41 := by rw [e42]
            have g44 : s0.1 55 15 = v41 := e42.symm
            have b45 : v41.toInt = (s0.1 55 15).toInt := congrArg Int32.toInt e42
            refine And.intro (Nat.le_of_ble_eq_true rfl) (And.intro ⟨56, 67, rfl, by decide, by decide, i0, by decide⟩ ?_)
            intro s47 h46
            have h46 : (s47.1 = s0.1 ∧ s47.2 67 0 = s0.2 56 0 ∧ ∀ k, k ≠ 67 → s47.2 k = s0.2 k) := h46
            have i48 : Iv s47 := Iv.of i0 (fun q _ => by rw [h46.1]) (by rw [h46.1])
            have k49 : K_X11_ahead s0 s47 := by first | exact vg_cp_out1 Kx.rf h46.1 h46.2.2 (by decide) | exact vg_cp_outn Kx.rf h46.1
            have g50 : s47.1 55 15 = v41 := by rw [h46.1]; exact g44
            have y51 : s47.2 67 0 = s0.2 56 0 := h46.2.1
            have y52 : (s47.2 56 0).toInt = (s0.2 56 0).toInt := by rw [h46.2.2 56 (by decide)]
            intro s53 e54
            have i55 : Iv s53 := Iv.u1 i48 e54 rfl
            have k56 : K_X11_ahead s0 s53 := Kx.u1 k49 e54 rfl
            have y57 : s53.2 67 0 = s0.2 56 0 := by rw [e54]; exact y51
            have y58 : (s53.2 56 0).toInt = (s0.2 56 0).toInt := by rw [e54]; exact y52
            have g59 : s53.1 55 15 = a2 := by rw [e54]; exact vg_u1_self
            refine And.intro (Nat.le_of_ble_eq_true rfl) (And.intro ⟨55, rfl, by decide, i55⟩ ?_)
            intro s61 h60
            have h60 : Iv s61 ∧ Kp s53 s61 ∧ (True) := h60
            have i62 := h60.1
            have k63 : K_X11_ahead s0 s61 := Kx.tr k56 (((h60.2.1).pt).px)
            have y64 : s61.2 67 0 = s0.2 56 0 := by rw [h60.2.1.2 67 0 rfl]; exact y57
            have y65 : (s61.2 56 0).toInt = (s0.2 56 0).toInt := by rw [h60.2.1.2 56 0 rfl]; exact y58
            have g66 : s61.1 55 15 = a2 := by rw [h60.2.1.1 55 15 rfl]; exact g59
            exact ⟨rfl, ⟨v41, (Int64.ofNat 0), (Int32.ofInt 0), rfl, (by omega), (by omega), (by omega), (by omega), (by omega), (by omega), (by omega), y64, i62, (((k63).qn).xx (by decide))⟩, trivial⟩
          · have c40 : ¬ (¬ v33.toInt = 0) := c40
            refine And.intro (Nat.le_of_ble_eq_true rfl) (And.intro ⟨55, (Int32.ofInt 1), rfl, by decide, i0⟩ ?_)
            intro v67 s69 h68
            have h68 : Iv s69 ∧ Kp s0 s69 ∧ (v67.toInt = -1) := h68
            have i70 := h68.1
            have k71 : K_X11_ahead s0 s69 := Kx.tr Kx.rf (((h68.2.1).pt).px)
            have q72 := h68.2.2
            intro v73 e74
            show Iv s69 ∧ K_X11_ahead s0 s69 ∧ ((s69.1 55 15).toInt = (s0.1 55 15).toInt)
            exact ⟨i70, k71, (by first | exact congrArg Int32.toInt (h68.2.1.1 55 15 rfl) | (rw [none]; omega))⟩
    ·
      intro L s86 hL
      obtain ⟨w75, w76, w77, rfl, b78, b79, b80, b81, b82, b83, x84, y85, i87, k88⟩ := hL
      refine And.intro (fun c89 => ?_) (fun c89 => ?_)
      · have c89 : a1.toInt ≤ w77.toInt := c89
        refine And.intro (fun c90 => ?_) (fun c90 => ?_)
        · have c90 : ¬ a3.toInt = 0 := c90
          refine And.intro (fun c91 => ?_) (fun c91 => ?_)
          · have c91 : ¬ a3.toInt = (Int32.ofInt 1).toInt := c91
            intro s92 e93
            have i94 : Iv s92 := Iv.u1 i87 e93 rfl
            have k95 : K_X11_aheadm s0 s92 := Kx.u1 k88 e93 rfl
            have y96 : s92.2 67 0 = s0.2 56 0 := by rw [e93]; exact y85
            have g97 : s92.1 55 15 = w75 := by rw [e93]; exact vg_u1_self
            refine And.intro (Nat.le_of_ble_eq_true rfl) (And.intro ⟨67, 56, rfl, by decide, by decide, i94, by decide⟩ ?_)
            intro s99 h98
            have h98 : (s99.1 = s92.1 ∧ s99.2 56 0 = s92.2 67 0 ∧ ∀ k, k ≠ 56 → s99.2 k = s92.2 k) := h98
            have i100 : Iv s99 := Iv.of i94 (fun q _ => by rw [h98.1]) (by rw [h98.1])
            have k101 : K_X11_ahead s0 s99 := vg_cp_in k95 h98.1 (h98.2.1.trans y96)
            have y102 : s99.2 67 0 = s0.2 56 0 := by rw [h98.2.2 67 (by decide)]; exact y96
            have g103 : s99.1 55 15 = w75 := by rw [h98.1]; exact g97
            refine And.intro (Nat.le_of_ble_eq_true rfl) (And.intro ⟨55, w76, rfl, by decide, i100⟩ ?_)
            intro v104 s106 h105
            have h105 : Iv s106 ∧ Kp s99 s106 ∧ (v104 = w76) := h105
            have i107 := h105.1
            have k108 : K_X11_ahead s0 s106 := Kx.tr k101 (((h105.2.1).pt).px)
            have q109 := h105.2.2
            have y110 : s106.2 67 0 = s0.2 56 0 := by rw [h105.2.1.2 67 0 rfl]; exact y102
            have g111 : s106.1 55 15 = w75 := by rw [h105.2.1.1 55 15 rfl]; exact g103
            show Iv s106 ∧ K_X11_ahead s0 s106 ∧ ((s106.1 55 15).toInt = (s0.1 55 15).toInt)
            exact ⟨i107, k108, (by first | exact congrArg Int32.toInt (h105.2.1.1 55 15 rfl) | (rw [g111]; omega))⟩
          · have c91 : ¬ (¬ a3.toInt = (Int32.ofInt 1).toInt) := c91
            refine And.intro ⟨by omega, by omega⟩ ?_
            intro v112 e113
            intro s114 e115
            have i116 : Iv s114 := Iv.u1 i87 e115 rfl
            have k117 : K_X11_aheadm s0 s114 := Kx.u1 k88 e115 rfl
            have y118 : s114.2 67 0 = s0.2 56 0 := by rw [e115]; exact y85
            have g119 : s114.1 55 15 = w75 := by rw [e115]; exact vg_u1_self
            refine And.intro (Nat.le_of_ble_eq_true rfl) (And.intro ⟨67, 56, rfl, by decide, by decide, i116, by decide⟩ ?_)
            intro s121 h120
            have h120 : (s121.1 = s114.1 ∧ s121.2 56 0 = s114.2 67 0 ∧ ∀ k, k ≠ 56 → s121.2 k = s114.2 k) := h120
            have i122 : Iv s121 := Iv.of i116 (fun q _ => by rw [h120.1]) (by rw [h120.1])
            have k123 : K_X11_ahead s0 s121 := vg_cp_in k117 h120.1 (h120.2.1.trans y118)
            have y124 : s121.2 67 0 = s0.2 56 0 := by rw [h120.2.2 67 (by decide)]; exact y118
            have g125 : s121.1 55 15 = w75 := by rw [h120.1]; exact g119
            refine And.intro (Nat.le_of_ble_eq_true rfl) (And.intro ⟨55, v112, rfl, by decide, i122⟩ ?_)
            intro v126 s128 h127
            have h127 : Iv s128 ∧ Kp s121 s128 ∧ (v126 = v112) := h127
            have i129 := h127.1
            have k130 : K_X11_ahead s0 s128 := Kx.tr k123 (((h127.2.1).pt).px)
            have q131 := h127.2.2
            have y132 : s128.2 67 0 = s0.2 56 0 := by rw [h127.2.1.2 67 0 rfl]; exact y124
            have g133 : s128.1 55 15 = w75 := by rw [h127.2.1.1 55 15 rfl]; exact g125
            show Iv s128 ∧ K_X11_ahead s0 s128 ∧ ((s128.1 55 15).toInt = (s0.1 55 15).toInt)
            exact ⟨i129, k130, (by first | exact congrArg Int32.toInt (h127.2.1.1 55 15 rfl) | (rw [g133]; omega))⟩
        · have c90 : ¬ (¬ a3.toInt = 0) := c90
          refine And.intro (Nat.le_of_ble_eq_true rfl) (And.intro ⟨55, rfl, by decide, i87⟩ ?_)
          intro v134 s136 h135
          have h135 : s136 = s86 ∧ (True) := h135
          have q139 := h135.1.symm
          subst q139
          intro v140 e141
          intro s142 e143
          have i144 : Iv s142 := Iv.u1 i87 e143 rfl
          have k145 : K_X11_aheadm s0 s142 := Kx.u1 k88 e143 rfl
          have y146 : s142.2 67 0 = s0.2 56 0 := by rw [e143]; exact y85
          have g147 : s142.1 55 15 = w75 := by rw [e143]; exact vg_u1_self
          refine And.intro (Nat.le_of_ble_eq_true rfl) (And.intro ⟨67, 56, rfl, by decide, by decide, i144, by decide⟩ ?_)
          intro s149 h148
          have h148 : (s149.1 = s142.1 ∧ s149.2 56 0 = s142.2 67 0 ∧ ∀ k, k ≠ 56 → s149.2 k = s142.2 k) := h148
          have i150 : Iv s149 := Iv.of i144 (fun q _ => by rw [h148.1]) (by rw [h148.1])
          have k151 : K_X11_ahead s0 s149 := vg_cp_in k145 h148.1 (h148.2.1.trans y146)
          have y152 : s149.2 67 0 = s0.2 56 0 := by rw [h148.2.2 67 (by decide)]; exact y146
          have g153 : s149.1 55 15 = w75 := by rw [h148.1]; exact g147
          refine And.intro (Nat.le_of_ble_eq_true rfl) (And.intro ⟨55, v140, rfl, by decide, i150⟩ ?_)
          intro v154 s156 h155
          have h155 : Iv s156 ∧ Kp s149 s156 ∧ (v154 = v140) := h155
          have i157 := h155.1
          have k158 : K_X11_ahead s0 s156 := Kx.tr k151 (((h155.2.1).pt).px)
          have q159 := h155.2.2
          have y160 : s156.2 67 0 = s0.2 56 0 := by rw [h155.2.1.2 67 0 rfl]; exact y152
          have g161 : s156.1 55 15 = w75 := by rw [h155.2.1.1 55 15 rfl]; exact g153
          show Iv s156 ∧ K_X11_ahead s0 s156 ∧ ((s156.1 55 15).toInt = (s0.1 55 15).toInt)
          exact ⟨i157, k158, (by first | exact congrArg Int32.toInt (h155.2.1.1 55 15 rfl) | (rw [g161]; omega))⟩
      · have c89 : ¬ (a1.toInt ≤ w77.toInt) := c89
        refine And.intro (Nat.le_of_ble_eq_true rfl) (And.intro ⟨55, rfl, by decide, i87, by omega⟩ ?_)
        intro s163 h162
        have h162 : Iv s163 ∧ Kg s86 s163 ∧ ((s163.2 56 0).toInt = (s86.2 56 0).toInt + 1) := h162
        have i164 := h162.1
        have k165 : K_X11_aheadm s0 s163 := Kx.tr k88 (((h162.2.1).qn).px)
        have q166 := h162.2.2
        have y167 : s163.2 67 0 = s0.2 56 0 := by rw [h162.2.1.2 67 0 rfl]; exact y85
        refine And.intro ⟨by omega, by omega⟩ ?_
        intro v168 e169
        refine And.intro (Nat.le_of_ble_eq_true rfl) (And.intro ⟨v168, rfl, trivial⟩ ?_)
        intro v170 s172 h171
        have h171 : s172 = s163 ∧ (True) := h171
        have q175 := h171.1.symm
        subst q175
        refine And.intro (Nat.le_of_ble_eq_true rfl) (And.intro ⟨w76, v170, rfl, trivial⟩ ?_)
        intro v176 s178 h177
        have h177 : s178 = s163 ∧ (True) := h177
        have q181 := h177.1.symm
        subst q181
        intro v182 e183
        have b184 := vg_add e183 (by omega) (by omega)
        exact ⟨rfl, ⟨w75, v176, v182, rfl, (by omega), (by omega), (by omega), (by omega), (by omega), (by omega), (by omega), y167, i164, k165⟩, (by show (0 + (200 - v182.toInt) * 1000000000000).toNat < (0 + (200 - w77.toInt) * 1000000000000).toNat; omega)⟩
def o_X11_strained : List vg_I := [(0, .aload_n 0, 1, 0, 0, 0, 0), (1, .getfield 30, 3, 1072, 11, 11, 0), (4, .istore_n 3, 1, 0, 0, 0, 0), (5, .aload_n 0, 1, 0, 0, 0, 0), (6, .getfield 7, 3, 1061, 11, 0, 0), (9, .aload_n 0, 1, 0, 0, 0, 0), (10, .getfield 70, 3, 1095, 11, 34, 0), (13, .invokestatic 283, 3, 0, 1, 2, 1474), (16, .aload_n 0, 1, 0, 0, 0, 0), (17, .iload_n 2, 1, 0, 0, 0, 0), (18, .putfield 30, 3, 1072, 11, 11, 0), (21, .aload_n 0, 1, 0, 0, 0, 0), (22, .getfield 7, 3, 1061, 11, 0, 0), (25, .iconst 4, 1, 0, 0, 0, 0), (26, .laload, 1, 0, 0, 0, 0), (27, .lstore 4, 2, 0, 0, 0, 0), (29, .iconst 0, 1, 0, 0, 0, 0), (30, .istore 6, 2, 0, 0, 0, 0), (32, .iload 6, 2, 0, 0, 0, 0), (34, .iload_n 1, 1, 0, 0, 0, 0), (35, .if_icmp .ge 13, 3, 0, 0, 0, 0), (38, .aload_n 0, 1, 0, 0, 0, 0), (39, .invokevirtual 264, 3, 1, 11, 0, 1272), (42, .iinc 6 1, 3, 0, 0, 0, 0), (45, .goto (-13), 3, 0, 0, 0, 0), (48, .aload_n 0, 1, 0, 0, 0, 0), (49, .getfield 7, 3, 1061, 11, 0, 0), (52, .iconst 4, 1, 0, 0, 0, 0), (53, .laload, 1, 0, 0, 0, 0), (54, .lload 4, 2, 0, 0, 0, 0), (56, .lsub, 1, 0, 0, 0, 0), (57, .l2i, 1, 0, 0, 0, 0), (58, .istore 6, 2, 0, 0, 0, 0), (60, .aload_n 0, 1, 0, 0, 0, 0), (61, .iload_n 3, 1, 0, 0, 0, 0), (62, .putfield 30, 3, 1072, 11, 11, 0), (65, .aload_n 0, 1, 0, 0, 0, 0), (66, .getfield 70, 3, 1095, 11, 34, 0), (69, .aload_n 0, 1, 0, 0, 0, 0), (70, .getfield 7, 3, 1061, 11, 0, 0), (73, .invokestatic 283, 3, 0, 1, 2, 1474), (76, .iload 6, 2, 0, 0, 0, 0), (78, .ireturn, 1, 0, 0, 0, 0)]
set_option maxRecDepth 100000 in
set_option maxHeartbeats 4000000 in
theorem c_X11_strained (l : Launch) (G : vg_G) (hp : vg_Hp G) : vg_Ct l G vg_sh r_X11_strained := by
  refine vg_meth hp vg_sh_ok r_X11_strained k_X11_strained rfl (fun h => by cases h) o_X11_strained [r_X11_copies, r_X11_goes] false (by decide +kernel) (by decide +kernel) ⟨_, _, rfl, rfl⟩ (List.forall_mem_cons.mpr ⟨⟨c_X11_copies l G hp, Nat.le_of_ble_eq_true rfl, Nat.le_of_ble_eq_true rfl⟩, List.forall_mem_cons.mpr ⟨⟨c_X11_goes l G hp, Nat.le_of_ble_eq_true rfl, Nat.le_of_ble_eq_true rfl⟩, fun _ h => absurd h List.not_mem_nil⟩⟩) (fun h => by cases h) 600 ?_
  intro as s0 hpre
  obtain ⟨r, a1, a2, rfl, hr, i0, p0⟩ := hpre
  simp only [List.mem_cons, List.not_mem_nil, or_false] at hr
  rcases hr with rfl
  ·
    have z0 : (Int32.ofInt 0).toInt = 0 := by decide
    have z1 : (Int32.ofInt 1).toInt = 1 := by decide
    have z4 : (Int32.ofInt 4).toInt = 4 := by decide
    refine ⟨Nat.le_of_ble_eq_true rfl, [(32, [true, true, false, true, true, false, true], (fun L t => ∃ (x3 : Int32) (x4 : Int64) (x6 : Int32), L = [some (.ref 55), some (.int a1), none, some (.int x3), some (.long x4), none, some (.int x6)] ∧ (0 : Int) ≤ x6.toInt ∧ x6.toInt ≤ (400 : Int) ∧ ((t.2 56 0).toInt = (s0.2 56 0).toInt + x6.toInt) ∧ (t.2 67 0 = s0.2 56 0) ∧ Iv t ∧ Kn s0 t), (fun L _ => (0 + (400 - (vg_li L 6).toInt) * 1000000000000).toNat))], ?_, List.forall_mem_cons.mpr ⟨?_, fun _ h => absurd h List.not_mem_nil⟩⟩
    ·
      intro v1 e2
      have g3 : s0.1 55 11 = v1 := by rw [e2]
      refine And.intro (Nat.le_of_ble_eq_true rfl) (And.intro ⟨56, 67, rfl, by decide, by decide, i0, by decide⟩ ?_)
      intro s5 h4
      have h4 : (s5.1 = s0.1 ∧ s5.2 67 0 = s0.2 56 0 ∧ ∀ k, k ≠ 67 → s5.2 k = s0.2 k) := h4
      have i6 : Iv s5 := Iv.of i0 (fun q _ => by rw [h4.1]) (by rw [h4.1])
      have k7 : Kt s0 s5 := by first | exact vg_cp_out1 Kx.rf h4.1 h4.2.2 (by decide) | exact vg_cp_outn Kx.rf h4.1
      have y8 : s5.2 67 0 = s0.2 56 0 := h4.2.1
      have y9 : (s5.2 56 0).toInt = (s0.2 56 0).toInt := by rw [h4.2.2 56 (by decide)]
      intro s10 e11
      have i12 : Iv s10 := Iv.u1 i6 e11 rfl
      have k13 : Kt s0 s10 := Kx.u1 k7 e11 rfl
      have y14 : s10.2 67 0 = s0.2 56 0 := by rw [e11]; exact y8
      have y15 : (s10.2 56 0).toInt = (s0.2 56 0).toInt := by rw [e11]; exact y9
      refine And.intro ⟨by omega, by omega⟩ ?_
      intro v16 e17
      exact ⟨rfl, ⟨v1, v16, (Int32.ofInt 0), rfl, (by omega), (by omega), (by omega), y14, i12, ((k13).qn)⟩, trivial⟩
    ·
      intro L s25 hL
      obtain ⟨w18, w19, w20, rfl, b21, b22, x23, y24, i26, k27⟩ := hL
      refine And.intro (fun c28 => ?_) (fun c28 => ?_)
      · have c28 : a1.toInt ≤ w20.toInt := c28
        refine And.intro ⟨by omega, by omega⟩ ?_
        intro v29 e30
        intro v31 e32
        intro v33 e34
        intro s35 e36
        have i37 : Iv s35 := Iv.u1 i26 e36 rfl
        have k38 : Kn s0 s35 := Kx.u1 k27 e36 rfl
        have y39 : s35.2 67 0 = s0.2 56 0 := by rw [e36]; exact y24
        refine And.intro (Nat.le_of_ble_eq_true rfl) (And.intro ⟨67, 56, rfl, by decide, by decide, i37, by decide⟩ ?_)
        intro s41 h40
        have h40 : (s41.1 = s35.1 ∧ s41.2 56 0 = s35.2 67 0 ∧ ∀ k, k ≠ 56 → s41.2 k = s35.2 k) := h40
        have i42 : Iv s41 := Iv.of i37 (fun q _ => by rw [h40.1]) (by rw [h40.1])
        have k43 : Kt s0 s41 := vg_cp_in k38 h40.1 (h40.2.1.trans y39)
        have y44 : s41.2 67 0 = s0.2 56 0 := by rw [h40.2.2 67 (by decide)]; exact y39
        show Iv s41 ∧ Kt s0 s41 ∧ (True)
        exact ⟨i42, k43, (trivial)⟩
      · have c28 : ¬ (a1.toInt ≤ w20.toInt) := c28
        refine And.intro (Nat.le_of_ble_eq_true rfl) (And.intro ⟨55, rfl, by decide, i26, by omega⟩ ?_)
        intro s46 h45
        have h45 : Iv s46 ∧ Kg s25 s46 ∧ ((s46.2 56 0).toInt = (s25.2 56 0).toInt + 1) := h45
        have i47 := h45.1
        have k48 : Kn s0 s46 := Kx.tr k27 (((h45.2.1).qn).pk)
        have q49 := h45.2.2
        have y50 : s46.2 67 0 = s0.2 56 0 := by rw [h45.2.1.2 67 0 rfl]; exact y24
        intro v51 e52
        have b53 := vg_add e52 (by omega) (by omega)
        exact ⟨rfl, ⟨w18, w19, v51, rfl, (by omega), (by omega), (by omega), y50, i47, k48⟩, (by show (0 + (400 - v51.toInt) * 1000000000000).toNat < (0 + (400 - w20.toInt) * 1000000000000).toNat; omega)⟩
def o_X11_strain : List vg_I := [(0, .iload_n 1, 1, 0, 0, 0, 0), (1, .iconst 1, 1, 0, 0, 0, 0), (2, .sipush 200, 3, 0, 0, 0, 0), (5, .invokestatic 76, 3, 0, 1, 3, 1175), (8, .ifCond .eq 13, 3, 0, 0, 0, 0), (11, .iload_n 2, 1, 0, 0, 0, 0), (12, .iconst 1, 1, 0, 0, 0, 0), (13, .ldc 29, 2, 1060, 0, 0, 60000), (15, .invokestatic 76, 3, 0, 1, 3, 1175), (18, .ifCond .ne 9, 3, 0, 0, 0, 0), (21, .aload_n 0, 1, 0, 0, 0, 0), (22, .iconst 1, 1, 0, 0, 0, 0), (23, .invokevirtual 242, 3, 1, 11, 1, 1181), (26, .ireturn, 1, 0, 0, 0, 0), (27, .aload_n 0, 1, 0, 0, 0, 0), (28, .aload_n 0, 1, 0, 0, 0, 0), (29, .iload_n 1, 1, 0, 0, 0, 0), (30, .iload_n 2, 1, 0, 0, 0, 0), (31, .invokevirtual 313, 3, 2, 11, 2, 1517), (34, .invokevirtual 249, 3, 3, 11, 1, 1206), (37, .ireturn, 1, 0, 0, 0, 0)]
set_option maxRecDepth 100000 in
set_option maxHeartbeats 4000000 in
theorem c_X11_strain (l : Launch) (G : vg_G) (hp : vg_Hp G) : vg_Ct l G vg_sh r_X11_strain := by
  refine vg_meth hp vg_sh_ok r_X11_strain k_X11_strain rfl (fun h => by cases h) o_X11_strain [r_X11_isFrom, r_X11_refuse, r_X11_strained, r_X11_gives] false (by decide +kernel) (by decide +kernel) ⟨_, _, rfl, rfl⟩ (List.forall_mem_cons.mpr ⟨⟨c_X11_isFrom l G hp, Nat.le_of_ble_eq_true rfl, Nat.le_of_ble_eq_true rfl⟩, List.forall_mem_cons.mpr ⟨⟨c_X11_refuse l G hp, Nat.le_of_ble_eq_true rfl, Nat.le_of_ble_eq_true rfl⟩, List.forall_mem_cons.mpr ⟨⟨c_X11_strained l G hp, Nat.le_of_ble_eq_true rfl, Nat.le_of_ble_eq_true rfl⟩, List.forall_mem_cons.mpr ⟨⟨c_X11_gives l G hp, Nat.le_of_ble_eq_true rfl, Nat.le_of_ble_eq_true rfl⟩, fun _ h => absurd h List.not_mem_nil⟩⟩⟩⟩) (fun h => by cases h) 600 ?_
  intro as s0 hpre
  obtain ⟨r, a1, a2, rfl, hr, i0, p0⟩ := hpre
  simp only [List.mem_cons, List.not_mem_nil, or_false] at hr
  rcases hr with rfl
  ·
    have z1 : (Int32.ofInt 1).toInt = 1 := by decide
    have z200 : (Int32.ofInt 200).toInt = 200 := by decide
    have z60000 : (Int32.ofInt 60000).toInt = 60000 := by decide
    refine ⟨Nat.le_of_ble_eq_true rfl, [], ?_, fun _ h => absurd h List.not_mem_nil⟩
    ·
      refine And.intro (Nat.le_of_ble_eq_true rfl) (And.intro ⟨a1, (Int32.ofInt 1), (Int32.ofInt 200), rfl, trivial⟩ ?_)
      intro v1 s3 h2
      have h2 : s3 = s0 ∧ ((v1.toInt = 1 ∧ (Int32.ofInt 1).toInt ≤ a1.toInt ∧ a1.toInt ≤ (Int32.ofInt 200).toInt) ∨ (v1.toInt = 0 ∧ (a1.toInt < (Int32.ofInt 1).toInt ∨ (Int32.ofInt 200).toInt < a1.toInt))) := h2
      have q6 := h2.1.symm
      subst q6
      have q7 := h2.2
      refine And.intro (fun c8 => ?_) (fun c8 => ?_)
      · have c8 : v1.toInt = 0 := c8
        refine And.intro (Nat.le_of_ble_eq_true rfl) (And.intro ⟨55, (Int32.ofInt 1), rfl, by decide, i0⟩ ?_)
        intro v9 s11 h10
        have h10 : Iv s11 ∧ Kp s0 s11 ∧ (v9.toInt = -1) := h10
        have i12 := h10.1
        have k13 : Kt s0 s11 := Kx.tr Kx.rf (((h10.2.1).pt).pk)
        have q14 := h10.2.2
        show Iv s11 ∧ Kt s0 s11 ∧ (True)
        exact ⟨i12, k13, (trivial)⟩
      · have c8 : ¬ (v1.toInt = 0) := c8
        refine And.intro (Nat.le_of_ble_eq_true rfl) (And.intro ⟨a2, (Int32.ofInt 1), (Int32.ofInt 60000), rfl, trivial⟩ ?_)
        intro v15 s17 h16
        have h16 : s17 = s0 ∧ ((v15.toInt = 1 ∧ (Int32.ofInt 1).toInt ≤ a2.toInt ∧ a2.toInt ≤ (Int32.ofInt 60000).toInt) ∨ (v15.toInt = 0 ∧ (a2.toInt < (Int32.ofInt 1).toInt ∨ (Int32.ofInt 60000).toInt < a2.toInt))) := h16
        have q20 := h16.1.symm
        subst q20
        have q21 := h16.2
        refine And.intro (fun c22 => ?_) (fun c22 => ?_)
        · have c22 : ¬ v15.toInt = 0 := c22
          refine And.intro (Nat.le_of_ble_eq_true rfl) (And.intro ⟨55, a1, a2, rfl, by decide, i0, by omega⟩ ?_)
          intro v23 s25 h24
          have h24 : Iv s25 ∧ Kt s0 s25 ∧ (True) := h24
          have i26 := h24.1
          have k27 : Kt s0 s25 := Kx.tr Kx.rf (h24.2.1)
          refine And.intro (Nat.le_of_ble_eq_true rfl) (And.intro ⟨55, v23, rfl, by decide, i26⟩ ?_)
          intro v28 s30 h29
          have h29 : Iv s30 ∧ Kp s25 s30 ∧ (v28 = v23 ∧ v28.toInt = v23.toInt) := h29
          have i31 := h29.1
          have k32 : Kt s0 s30 := Kx.tr k27 (((h29.2.1).pt).pk)
          have q33 := h29.2.2
          show Iv s30 ∧ Kt s0 s30 ∧ (True)
          exact ⟨i31, k32, (trivial)⟩
        · have c22 : ¬ (¬ v15.toInt = 0) := c22
          refine And.intro (Nat.le_of_ble_eq_true rfl) (And.intro ⟨55, (Int32.ofInt 1), rfl, by decide, i0⟩ ?_)
          intro v34 s36 h35
          have h35 : Iv s36 ∧ Kp s0 s36 ∧ (v34.toInt = -1) := h35
          have i37 := h35.1
          have k38 : Kt s0 s36 := Kx.tr Kx.rf (((h35.2.1).pt).pk)
          have q39 := h35.2.2
          show Iv s36 ∧ Kt s0 s36 ∧ (True)
          exact ⟨i37, k38, (trivial)⟩
def o_X11_calmed : List vg_I := [(0, .iload_n 1, 1, 0, 0, 0, 0), (1, .iconst 1, 1, 0, 0, 0, 0), (2, .bipush 60, 2, 0, 0, 0, 0), (4, .invokestatic 76, 3, 0, 1, 3, 1175), (7, .ifCond .eq 14, 3, 0, 0, 0, 0), (10, .iload_n 2, 1, 0, 0, 0, 0), (11, .iconst 1, 1, 0, 0, 0, 0), (12, .sipush 400, 3, 0, 0, 0, 0), (15, .invokestatic 76, 3, 0, 1, 3, 1175), (18, .ifCond .ne 9, 3, 0, 0, 0, 0), (21, .aload_n 0, 1, 0, 0, 0, 0), (22, .iconst 1, 1, 0, 0, 0, 0), (23, .invokevirtual 242, 3, 1, 11, 1, 1181), (26, .ireturn, 1, 0, 0, 0, 0), (27, .iconst 1, 1, 0, 0, 0, 0), (28, .istore_n 3, 1, 0, 0, 0, 0), (29, .iload_n 3, 1, 0, 0, 0, 0), (30, .iload_n 2, 1, 0, 0, 0, 0), (31, .if_icmp .gt 24, 3, 0, 0, 0, 0), (34, .aload_n 0, 1, 0, 0, 0, 0), (35, .iload_n 1, 1, 0, 0, 0, 0), (36, .iload_n 3, 1, 0, 0, 0, 0), (37, .invokevirtual 313, 3, 2, 11, 2, 1517), (40, .ifCond .ne 9, 3, 0, 0, 0, 0), (43, .aload_n 0, 1, 0, 0, 0, 0), (44, .iload_n 3, 1, 0, 0, 0, 0), (45, .invokevirtual 249, 3, 3, 11, 1, 1206), (48, .ireturn, 1, 0, 0, 0, 0), (49, .iinc 3 1, 3, 0, 0, 0, 0), (52, .goto (-23), 3, 0, 0, 0, 0), (55, .aload_n 0, 1, 0, 0, 0, 0), (56, .iconst 5, 1, 0, 0, 0, 0), (57, .invokevirtual 242, 3, 1, 11, 1, 1181), (60, .ireturn, 1, 0, 0, 0, 0)]
set_option maxRecDepth 100000 in
set_option maxHeartbeats 4000000 in
theorem c_X11_calmed (l : Launch) (G : vg_G) (hp : vg_Hp G) : vg_Ct l G vg_sh r_X11_calmed := by
  refine vg_meth hp vg_sh_ok r_X11_calmed k_X11_calmed rfl (fun h => by cases h) o_X11_calmed [r_X11_isFrom, r_X11_refuse, r_X11_strained, r_X11_gives] false (by decide +kernel) (by decide +kernel) ⟨_, _, rfl, rfl⟩ (List.forall_mem_cons.mpr ⟨⟨c_X11_isFrom l G hp, Nat.le_of_ble_eq_true rfl, Nat.le_of_ble_eq_true rfl⟩, List.forall_mem_cons.mpr ⟨⟨c_X11_refuse l G hp, Nat.le_of_ble_eq_true rfl, Nat.le_of_ble_eq_true rfl⟩, List.forall_mem_cons.mpr ⟨⟨c_X11_strained l G hp, Nat.le_of_ble_eq_true rfl, Nat.le_of_ble_eq_true rfl⟩, List.forall_mem_cons.mpr ⟨⟨c_X11_gives l G hp, Nat.le_of_ble_eq_true rfl, Nat.le_of_ble_eq_true rfl⟩, fun _ h => absurd h List.not_mem_nil⟩⟩⟩⟩) (fun h => by cases h) 600 ?_
  intro as s0 hpre
  obtain ⟨r, a1, a2, rfl, hr, i0, p0⟩ := hpre
  simp only [List.mem_cons, List.not_mem_nil, or_false] at hr
  rcases hr with rfl
  ·
    have z1 : (Int32.ofInt 1).toInt = 1 := by decide
    have z5 : (Int32.ofInt 5).toInt = 5 := by decide
    have z60 : (Int32.ofInt 60).toInt = 60 := by decide
    have z400 : (Int32.ofInt 400).toInt = 400 := by decide
    refine ⟨Nat.le_of_ble_eq_true rfl, [(29, [true, true, true, true], (fun L t => ∃ (x3 : Int32), L = [some (.ref 55), some (.int a1), some (.int a2), some (.int x3)] ∧ (1 : Int) ≤ x3.toInt ∧ x3.toInt ≤ (401 : Int) ∧ (1 : Int) ≤ a1.toInt ∧ a1.toInt ≤ (60 : Int) ∧ (1 : Int) ≤ a2.toInt ∧ a2.toInt ≤ (400 : Int) ∧ Iv t ∧ Kt s0 t), (fun L _ => (0 + (401 - (vg_li L 3).toInt) * 1000000000000).toNat))], ?_, List.forall_mem_cons.mpr ⟨?_, fun _ h => absurd h List.not_mem_nil⟩⟩
    ·
      refine And.intro (Nat.le_of_ble_eq_true rfl) (And.intro ⟨a1, (Int32.ofInt 1), (Int32.ofInt 60), rfl, trivial⟩ ?_)
      intro v1 s3 h2
      have h2 : s3 = s0 ∧ ((v1.toInt = 1 ∧ (Int32.ofInt 1).toInt ≤ a1.toInt ∧ a1.toInt ≤ (Int32.ofInt 60).toInt) ∨ (v1.toInt = 0 ∧ (a1.toInt < (Int32.ofInt 1).toInt ∨ (Int32.ofInt 60).toInt < a1.toInt))) := h2
      have q6 := h2.1.symm
      subst q6
      have q7 := h2.2
      refine And.intro (fun c8 => ?_) (fun c8 => ?_)
      · have c8 : v1.toInt = 0 := c8
        refine And.intro (Nat.le_of_ble_eq_true rfl) (And.intro ⟨55, (Int32.ofInt 1), rfl, by decide, i0⟩ ?_)
        intro v9 s11 h10
        have h10 : Iv s11 ∧ Kp s0 s11 ∧ (v9.toInt = -1) := h10
        have i12 := h10.1
        have k13 : Kt s0 s11 := Kx.tr Kx.rf (((h10.2.1).pt).pk)
        have q14 := h10.2.2
        show Iv s11 ∧ Kt s0 s11 ∧ (True)
        exact ⟨i12, k13, (trivial)⟩
      · have c8 : ¬ (v1.toInt = 0) := c8
        refine And.intro (Nat.le_of_ble_eq_true rfl) (And.intro ⟨a2, (Int32.ofInt 1), (Int32.ofInt 400), rfl, trivial⟩ ?_)
        intro v15 s17 h16
        have h16 : s17 = s0 ∧ ((v15.toInt = 1 ∧ (Int32.ofInt 1).toInt ≤ a2.toInt ∧ a2.toInt ≤ (Int32.ofInt 400).toInt) ∨ (v15.toInt = 0 ∧ (a2.toInt < (Int32.ofInt 1).toInt ∨ (Int32.ofInt 400).toInt < a2.toInt))) := h16
        have q20 := h16.1.symm
        subst q20
        have q21 := h16.2
        refine And.intro (fun c22 => ?_) (fun c22 => ?_)
        · have c22 : ¬ v15.toInt = 0 := c22
          exact ⟨rfl, ⟨(Int32.ofInt 1), rfl, (by omega), (by omega), (by omega), (by omega), (by omega), (by omega), i0, Kx.rf⟩, trivial⟩
        · have c22 : ¬ (¬ v15.toInt = 0) := c22
          refine And.intro (Nat.le_of_ble_eq_true rfl) (And.intro ⟨55, (Int32.ofInt 1), rfl, by decide, i0⟩ ?_)
          intro v23 s25 h24
          have h24 : Iv s25 ∧ Kp s0 s25 ∧ (v23.toInt = -1) := h24
          have i26 := h24.1
          have k27 : Kt s0 s25 := Kx.tr Kx.rf (((h24.2.1).pt).pk)
          have q28 := h24.2.2
          show Iv s25 ∧ Kt s0 s25 ∧ (True)
          exact ⟨i26, k27, (trivial)⟩
    ·
      intro L s36 hL
      obtain ⟨w29, rfl, b30, b31, b32, b33, b34, b35, i37, k38⟩ := hL
      refine And.intro (fun c39 => ?_) (fun c39 => ?_)
      · have c39 : a2.toInt < w29.toInt := c39
        refine And.intro (Nat.le_of_ble_eq_true rfl) (And.intro ⟨55, (Int32.ofInt 5), rfl, by decide, i37⟩ ?_)
        intro v40 s42 h41
        have h41 : Iv s42 ∧ Kp s36 s42 ∧ (v40.toInt = -1) := h41
        have i43 := h41.1
        have k44 : Kt s0 s42 := Kx.tr k38 (((h41.2.1).pt).pk)
        have q45 := h41.2.2
        show Iv s42 ∧ Kt s0 s42 ∧ (True)
        exact ⟨i43, k44, (trivial)⟩
      · have c39 : ¬ (a2.toInt < w29.toInt) := c39
        refine And.intro (Nat.le_of_ble_eq_true rfl) (And.intro ⟨55, a1, w29, rfl, by decide, i37, by have h9 := congrArg Int64.toInt (k38.2 56 0 rfl); omega⟩ ?_)
        intro v46 s48 h47
        have h47 : Iv s48 ∧ Kt s36 s48 ∧ (True) := h47
        have i49 := h47.1
        have k50 : Kt s0 s48 := Kx.tr k38 (h47.2.1)
        refine And.intro (fun c51 => ?_) (fun c51 => ?_)
        · have c51 : ¬ v46.toInt = 0 := c51
          intro v52 e53
          have b54 := vg_add e53 (by omega) (by omega)
          exact ⟨rfl, ⟨v52, rfl, (by omega), (by omega), (by omega), (by omega), (by omega), (by omega), i49, k50⟩, (by show (0 + (401 - v52.toInt) * 1000000000000).toNat < (0 + (401 - w29.toInt) * 1000000000000).toNat; omega)⟩
        · have c51 : ¬ (¬ v46.toInt = 0) := c51
          refine And.intro (Nat.le_of_ble_eq_true rfl) (And.intro ⟨55, w29, rfl, by decide, i49⟩ ?_)
          intro v55 s57 h56
          have h56 : Iv s57 ∧ Kp s48 s57 ∧ (v55 = w29 ∧ v55.toInt = w29.toInt) := h56
          have i58 := h56.1
          have k59 : Kt s0 s57 := Kx.tr k50 (((h56.2.1).pt).pk)
          have q60 := h56.2.2
          show Iv s57 ∧ Kt s0 s57 ∧ (True)
          exact ⟨i58, k59, (trivial)⟩
def o_X11_need : List vg_I := [(0, .iload_n 1, 1, 0, 0, 0, 0), (1, .iconst 0, 1, 0, 0, 0, 0), (2, .ldc_w 279, 3, 1441, 0, 0, 100000), (5, .invokestatic 76, 3, 0, 1, 3, 1175), (8, .ifCond .ne 9, 3, 0, 0, 0, 0), (11, .aload_n 0, 1, 0, 0, 0, 0), (12, .iconst 1, 1, 0, 0, 0, 0), (13, .invokevirtual 242, 3, 1, 11, 1, 1181), (16, .ireturn, 1, 0, 0, 0, 0), (17, .aload_n 0, 1, 0, 0, 0, 0), (18, .iload_n 1, 1, 0, 0, 0, 0), (19, .invokevirtual 255, 3, 2, 11, 1, 1246), (22, .istore_n 2, 1, 0, 0, 0, 0), (23, .iload_n 2, 1, 0, 0, 0, 0), (24, .iconst (-1), 1, 0, 0, 0, 0), (25, .if_icmp .ne 11, 3, 0, 0, 0, 0), (28, .aload_n 0, 1, 0, 0, 0, 0), (29, .iconst 5, 1, 0, 0, 0, 0), (30, .invokevirtual 242, 3, 1, 11, 1, 1181), (33, .goto 8, 3, 0, 0, 0, 0), (36, .aload_n 0, 1, 0, 0, 0, 0), (37, .iload_n 2, 1, 0, 0, 0, 0), (38, .invokevirtual 249, 3, 3, 11, 1, 1206), (41, .ireturn, 1, 0, 0, 0, 0)]
set_option maxRecDepth 100000 in
set_option maxHeartbeats 4000000 in
theorem c_X11_need (l : Launch) (G : vg_G) (hp : vg_Hp G) : vg_Ct l G vg_sh r_X11_need := by
  refine vg_meth hp vg_sh_ok r_X11_need k_X11_need rfl (fun h => by cases h) o_X11_need [r_X11_isFrom, r_X11_refuse, r_X11_needFor, r_X11_gives] false (by decide +kernel) (by decide +kernel) ⟨_, _, rfl, rfl⟩ (List.forall_mem_cons.mpr ⟨⟨c_X11_isFrom l G hp, Nat.le_of_ble_eq_true rfl, Nat.le_of_ble_eq_true rfl⟩, List.forall_mem_cons.mpr ⟨⟨c_X11_refuse l G hp, Nat.le_of_ble_eq_true rfl, Nat.le_of_ble_eq_true rfl⟩, List.forall_mem_cons.mpr ⟨⟨c_X11_needFor l G hp, Nat.le_of_ble_eq_true rfl, Nat.le_of_ble_eq_true rfl⟩, List.forall_mem_cons.mpr ⟨⟨c_X11_gives l G hp, Nat.le_of_ble_eq_true rfl, Nat.le_of_ble_eq_true rfl⟩, fun _ h => absurd h List.not_mem_nil⟩⟩⟩⟩) (fun h => by cases h) 600 ?_
  intro as s0 hpre
  obtain ⟨r, a1, rfl, hr, i0⟩ := hpre
  simp only [List.mem_cons, List.not_mem_nil, or_false] at hr
  rcases hr with rfl
  ·
    have zm1 : (Int32.ofInt (-1)).toInt = -1 := by decide
    have z0 : (Int32.ofInt 0).toInt = 0 := by decide
    have z1 : (Int32.ofInt 1).toInt = 1 := by decide
    have z5 : (Int32.ofInt 5).toInt = 5 := by decide
    have z100000 : (Int32.ofInt 100000).toInt = 100000 := by decide
    refine ⟨Nat.le_of_ble_eq_true rfl, [], ?_, fun _ h => absurd h List.not_mem_nil⟩
    ·
      refine And.intro (Nat.le_of_ble_eq_true rfl) (And.intro ⟨a1, (Int32.ofInt 0), (Int32.ofInt 100000), rfl, trivial⟩ ?_)
      intro v1 s3 h2
      have h2 : s3 = s0 ∧ ((v1.toInt = 1 ∧ (Int32.ofInt 0).toInt ≤ a1.toInt ∧ a1.toInt ≤ (Int32.ofInt 100000).toInt) ∨ (v1.toInt = 0 ∧ (a1.toInt < (Int32.ofInt 0).toInt ∨ (Int32.ofInt 100000).toInt < a1.toInt))) := h2
      have q6 := h2.1.symm
      subst q6
      have q7 := h2.2
      refine And.intro (fun c8 => ?_) (fun c8 => ?_)
      · have c8 : ¬ v1.toInt = 0 := c8
        refine And.intro (Nat.le_of_ble_eq_true rfl) (And.intro ⟨55, a1, rfl, by decide, i0⟩ ?_)
        intro v9 s11 h10
        have h10 : s11 = s0 ∧ (vg_isneed (vg_mp (s0.1 55 17).toInt64 a1.toInt64 (s0.1 55 16).toNatClampNeg) v9) := h10
        have q14 := h10.1.symm
        subst q14
        have q15 := h10.2
        have y1 := q15
        refine And.intro (fun c16 => ?_) (fun c16 => ?_)
        · have c16 : ¬ v9.toInt = (Int32.ofInt (-1)).toInt := c16
          refine And.intro (Nat.le_of_ble_eq_true rfl) (And.intro ⟨55, v9, rfl, by decide, i0⟩ ?_)
          intro v17 s19 h18
          have h18 : Iv s19 ∧ Kp s0 s19 ∧ (v17 = v9 ∧ v17.toInt = v9.toInt) := h18
          have i20 := h18.1
          have k21 : Kp s0 s19 := Kx.tr Kx.rf (h18.2.1)
          have q22 := h18.2.2
          show Iv s19 ∧ Kp s0 s19 ∧ (((0 ≤ a1.toInt ∧ a1.toInt ≤ 100000) ∧ vg_isneed (vg_mp (s0.1 55 17).toInt64 a1.toInt64 (s0.1 55 16).toNatClampNeg) v17) ∨ (¬ (0 ≤ a1.toInt ∧ a1.toInt ≤ 100000) ∧ v17.toInt = -1))
          exact ⟨i20, k21, (by first | exact Or.inl ⟨by omega, by (rw [q22.1]; exact y1)⟩ | exact Or.inl ⟨by omega, vg_isneedm y1 (by omega) q22⟩ | exact Or.inr ⟨by omega, by omega⟩)⟩
        · have c16 : ¬ (¬ v9.toInt = (Int32.ofInt (-1)).toInt) := c16
          refine And.intro (Nat.le_of_ble_eq_true rfl) (And.intro ⟨55, (Int32.ofInt 5), rfl, by decide, i0⟩ ?_)
          intro v23 s25 h24
          have h24 : Iv s25 ∧ Kp s0 s25 ∧ (v23.toInt = -1) := h24
          have i26 := h24.1
          have k27 : Kp s0 s25 := Kx.tr Kx.rf (h24.2.1)
          have q28 := h24.2.2
          show Iv s25 ∧ Kp s0 s25 ∧ (((0 ≤ a1.toInt ∧ a1.toInt ≤ 100000) ∧ vg_isneed (vg_mp (s0.1 55 17).toInt64 a1.toInt64 (s0.1 55 16).toNatClampNeg) v23) ∨ (¬ (0 ≤ a1.toInt ∧ a1.toInt ≤ 100000) ∧ v23.toInt = -1))
          exact ⟨i26, k27, (by first | exact Or.inl ⟨by omega, by (rw [q28.1]; exact y1)⟩ | exact Or.inl ⟨by omega, vg_isneedm y1 (by omega) q28⟩ | exact Or.inr ⟨by omega, by omega⟩)⟩
      · have c8 : ¬ (¬ v1.toInt = 0) := c8
        refine And.intro (Nat.le_of_ble_eq_true rfl) (And.intro ⟨55, (Int32.ofInt 1), rfl, by decide, i0⟩ ?_)
        intro v29 s31 h30
        have h30 : Iv s31 ∧ Kp s0 s31 ∧ (v29.toInt = -1) := h30
        have i32 := h30.1
        have k33 : Kp s0 s31 := Kx.tr Kx.rf (h30.2.1)
        have q34 := h30.2.2
        show Iv s31 ∧ Kp s0 s31 ∧ (((0 ≤ a1.toInt ∧ a1.toInt ≤ 100000) ∧ vg_isneed (vg_mp (s0.1 55 17).toInt64 a1.toInt64 (s0.1 55 16).toNatClampNeg) v29) ∨ (¬ (0 ≤ a1.toInt ∧ a1.toInt ≤ 100000) ∧ v29.toInt = -1))
        exact ⟨i32, k33, (by first | exact Or.inl ⟨by omega, by (rw [q34.1]; exact y1)⟩ | exact Or.inl ⟨by omega, vg_isneedm y1 (by omega) q34⟩ | exact Or.inr ⟨by omega, by omega⟩)⟩
def o_X11_asked : List vg_I := [(0, .iload_n 1, 1, 0, 0, 0, 0), (1, .ifCond .ge 11, 3, 0, 0, 0, 0), (4, .aload_n 0, 1, 0, 0, 0, 0), (5, .iconst 1, 1, 0, 0, 0, 0), (6, .invokevirtual 242, 3, 0, 11, 1, 1181), (9, .goto 29, 3, 0, 0, 0, 0), (12, .iload_n 1, 1, 0, 0, 0, 0), (13, .aload_n 0, 1, 0, 0, 0, 0), (14, .getfield 252, 3, 1094, 11, 33, 0), (17, .if_icmp .ge 16, 3, 0, 0, 0, 0), (20, .aload_n 0, 1, 0, 0, 0, 0), (21, .aload_n 0, 1, 0, 0, 0, 0), (22, .getfield 67, 3, 1093, 11, 32, 0), (25, .iload_n 1, 1, 0, 0, 0, 0), (26, .iaload, 1, 0, 0, 0, 0), (27, .invokevirtual 249, 3, 1, 11, 1, 1206), (30, .goto 8, 3, 0, 0, 0, 0), (33, .aload_n 0, 1, 0, 0, 0, 0), (34, .iconst 5, 1, 0, 0, 0, 0), (35, .invokevirtual 242, 3, 0, 11, 1, 1181), (38, .ireturn, 1, 0, 0, 0, 0)]
set_option maxRecDepth 100000 in
set_option maxHeartbeats 4000000 in
theorem c_X11_asked (l : Launch) (G : vg_G) (hp : vg_Hp G) : vg_Ct l G vg_sh r_X11_asked := by
  refine vg_meth hp vg_sh_ok r_X11_asked k_X11_asked rfl (fun h => by cases h) o_X11_asked [r_X11_refuse, r_X11_gives] false (by decide +kernel) (by decide +kernel) ⟨_, _, rfl, rfl⟩ (List.forall_mem_cons.mpr ⟨⟨c_X11_refuse l G hp, Nat.le_of_ble_eq_true rfl, Nat.le_of_ble_eq_true rfl⟩, List.forall_mem_cons.mpr ⟨⟨c_X11_gives l G hp, Nat.le_of_ble_eq_true rfl, Nat.le_of_ble_eq_true rfl⟩, fun _ h => absurd h List.not_mem_nil⟩⟩) (fun h => by cases h) 600 ?_
  intro as s0 hpre
  obtain ⟨r, a1, rfl, hr, i0⟩ := hpre
  simp only [List.mem_cons, List.not_mem_nil, or_false] at hr
  rcases hr with rfl
  ·
    have z1 : (Int32.ofInt 1).toInt = 1 := by decide
    have z5 : (Int32.ofInt 5).toInt = 5 := by decide
    refine ⟨Nat.le_of_ble_eq_true rfl, [], ?_, fun _ h => absurd h List.not_mem_nil⟩
    ·
      refine And.intro (fun c1 => ?_) (fun c1 => ?_)
      · have c1 : 0 ≤ a1.toInt := c1
        intro v2 e3
        have g4 : s0.1 55 33 = v2 := by rw [e3]
        have b5 : v2.toInt = (s0.1 55 33).toInt := congrArg Int32.toInt e3
        have b6 : (0 : Int) ≤ v2.toInt ∧ v2.toInt ≤ 12 := by rw [e3]; exact Iv_55_33 i0
        refine And.intro (fun c7 => ?_) (fun c7 => ?_)
        · have c7 : v2.toInt ≤ a1.toInt := c7
          refine And.intro (Nat.le_of_ble_eq_true rfl) (And.intro ⟨55, (Int32.ofInt 5), rfl, by decide, i0⟩ ?_)
          intro v8 s10 h9
          have h9 : Iv s10 ∧ Kp s0 s10 ∧ (v8.toInt = -1) := h9
          have i11 := h9.1
          have k12 : Kp s0 s10 := Kx.tr Kx.rf (h9.2.1)
          have q13 := h9.2.2
          show Iv s10 ∧ Kp s0 s10 ∧ (((0 ≤ a1.toInt ∧ a1.toInt < (s0.1 55 33).toInt) ∧ v8 = s0.1 66 a1.toNatClampNeg) ∨ (¬ (0 ≤ a1.toInt ∧ a1.toInt < (s0.1 55 33).toInt) ∧ v8.toInt = -1))
          exact ⟨i11, k12, (by first | exact Or.inl ⟨by omega, by rw [q13.1]; exact None⟩ | exact Or.inr ⟨by omega, by omega⟩)⟩
        · have c7 : ¬ (v2.toInt ≤ a1.toInt) := c7
          refine And.intro ⟨by omega, by omega⟩ ?_
          intro v14 e15
          refine And.intro (Nat.le_of_ble_eq_true rfl) (And.intro ⟨55, v14, rfl, by decide, i0⟩ ?_)
          intro v16 s18 h17
          have h17 : Iv s18 ∧ Kp s0 s18 ∧ (v16 = v14 ∧ v16.toInt = v14.toInt) := h17
          have i19 := h17.1
          have k20 : Kp s0 s18 := Kx.tr Kx.rf (h17.2.1)
          have q21 := h17.2.2
          show Iv s18 ∧ Kp s0 s18 ∧ (((0 ≤ a1.toInt ∧ a1.toInt < (s0.1 55 33).toInt) ∧ v16 = s0.1 66 a1.toNatClampNeg) ∨ (¬ (0 ≤ a1.toInt ∧ a1.toInt < (s0.1 55 33).toInt) ∧ v16.toInt = -1))
          exact ⟨i19, k20, (by first | exact Or.inl ⟨by omega, by rw [q21.1]; exact e15⟩ | exact Or.inr ⟨by omega, by omega⟩)⟩
      · have c1 : ¬ (0 ≤ a1.toInt) := c1
        refine And.intro (Nat.le_of_ble_eq_true rfl) (And.intro ⟨55, (Int32.ofInt 1), rfl, by decide, i0⟩ ?_)
        intro v22 s24 h23
        have h23 : Iv s24 ∧ Kp s0 s24 ∧ (v22.toInt = -1) := h23
        have i25 := h23.1
        have k26 : Kp s0 s24 := Kx.tr Kx.rf (h23.2.1)
        have q27 := h23.2.2
        show Iv s24 ∧ Kp s0 s24 ∧ (((0 ≤ a1.toInt ∧ a1.toInt < (s0.1 55 33).toInt) ∧ v22 = s0.1 66 a1.toNatClampNeg) ∨ (¬ (0 ≤ a1.toInt ∧ a1.toInt < (s0.1 55 33).toInt) ∧ v22.toInt = -1))
        exact ⟨i25, k26, (by first | exact Or.inl ⟨by omega, by rw [q27.1]; exact None⟩ | exact Or.inr ⟨by omega, by omega⟩)⟩
