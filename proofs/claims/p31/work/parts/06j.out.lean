/-! tones of the class -/
theorem q_cpy {s0 s1 s2 s3 s4 s5 s6 s7 s8 : vg_S} {v0 v1 v2 v3 v4 v5 v6 v7 : Int32} (e0 : s1 = vg_u1 s0 23 0 v0) (e1 : s2 = vg_u1 s1 23 1 v1) (e2 : s3 = vg_u1 s2 23 2 v2) (e3 : s4 = vg_u1 s3 23 3 v3) (e4 : s5 = vg_u1 s4 23 4 v4) (e5 : s6 = vg_u1 s5 23 5 v5) (e6 : s7 = vg_u1 s6 23 6 v6) (e7 : s8 = vg_u1 s7 23 7 v7) (f0 : v0 = s0.1 4 0) (f1 : v1 = s1.1 4 1) (f2 : v2 = s2.1 4 2) (f3 : v3 = s3.1 4 3) (f4 : v4 = s4.1 4 4) (f5 : v5 = s5.1 4 5) (f6 : v6 = s6.1 4 6) (f7 : v7 = s7.1 4 7) : ∀ j : Nat, j < 8 → s8.1 23 j = s0.1 4 j := by
  have a1 : s1.1 4 = s0.1 4 := by rw [e0, vg_u1_ne (by decide)]
  have a2 : s2.1 4 = s0.1 4 := by rw [e1, vg_u1_ne (by decide), a1]
  have a3 : s3.1 4 = s0.1 4 := by rw [e2, vg_u1_ne (by decide), a2]
  have a4 : s4.1 4 = s0.1 4 := by rw [e3, vg_u1_ne (by decide), a3]
  have a5 : s5.1 4 = s0.1 4 := by rw [e4, vg_u1_ne (by decide), a4]
  have a6 : s6.1 4 = s0.1 4 := by rw [e5, vg_u1_ne (by decide), a5]
  have a7 : s7.1 4 = s0.1 4 := by rw [e6, vg_u1_ne (by decide), a6]
  rw [a1] at f1
  rw [a2] at f2
  rw [a3] at f3
  rw [a4] at f4
  rw [a5] at f5
  rw [a6] at f6
  rw [a7] at f7
  intro j hj
  rw [e7, vg_u1_if, e6, vg_u1_if, e5, vg_u1_if, e4, vg_u1_if, e3, vg_u1_if, e2, vg_u1_if, e1, vg_u1_if, e0, vg_u1_if]
  rcases (show j = 0 ∨ j = 1 ∨ j = 2 ∨ j = 3 ∨ j = 4 ∨ j = 5 ∨ j = 6 ∨ j = 7 by omega) with h | h | h | h | h | h | h | h <;> subst h <;> first | exact f0 | exact f1 | exact f2 | exact f3 | exact f4 | exact f5 | exact f6 | exact f7
def q_btR (z t : vg_S) : Prop := (∀ j : Nat, j < 6 → t.1 23 j = z.1 4 j) ∧ (t.1 23 6).toInt = 0 ∧ (∀ j : Nat, j < 4 → t.1 24 j = Int32.ofInt 0) ∧ (∀ j : Nat, j < 6 → t.1 25 j = Int32.ofInt 0) ∧ t.1 22 3 = Int32.ofInt 0
theorem q_bt {z s1 s2 t : vg_S} (y0 : ∀ j : Nat, j < 8 → s1.1 23 j = z.1 4 j) (y1 : s2 = vg_u1 s1 23 6 (Int32.ofInt 0)) (h : (∀ j : Nat, j < 4 → t.1 24 j = Int32.ofInt 0) ∧ (∀ j : Nat, j < 6 → t.1 25 j = Int32.ofInt 0) ∧ t.1 22 3 = Int32.ofInt 0 ∧ t.1 23 = s2.1 23) : q_btR z t := by
  refine ⟨fun j hj => ?_, ?_, h.1, h.2.1, h.2.2.1⟩
  · rw [h.2.2.2, y1, vg_u1_if, if_neg (by omega)]
    exact y0 j (by omega)
  · rw [h.2.2.2, y1, vg_u1_self]
    decide
/-- how far the class is with a tone -/
def q_xI (z s : vg_S) (u y i : Int32) : Prop := q_ag (s.1 24) (s.1 25) (s.1 22 3) (q_it (q_plC z 4) u i.toNatClampNeg) ∧ (∀ j : Nat, j < 6 → s.1 23 j = z.1 4 j) ∧ (s.1 23 6).toInt = 0 ∧ (0 < i.toInt → y = q_out (q_plC z 4) u (i.toInt - 1).toNat)
theorem q_x0 {z s : vg_S} {u y i : Int32} (h : q_btR z s) (hi : i.toInt = 0) : q_xI z s u y i := by
  have c1 : i.toNatClampNeg = i.toInt.toNat := rfl
  refine ⟨?_, h.1, h.2.1, fun q => absurd q (by omega)⟩
  rw [show i.toNatClampNeg = 0 by omega]
  exact q_ag0 h.2.2.1 h.2.2.2.1 h.2.2.2.2
theorem q_plC_k {z s : vg_S} (h : ∀ j : Nat, j < 6 → s.1 23 j = z.1 4 j) : q_plC s 23 = q_plC z 4 := by
  unfold q_plC
  rw [h 0 (by decide), h 1 (by decide), h 2 (by decide), h 3 (by decide), h 4 (by decide), h 5 (by decide)]
theorem q_x1 {z s t : vg_S} {u y i v i' : Int32} (h : q_xI z s u y i) (ha : q_ad s t 22 u v) (hN : (z.1 4 1).toInt ≤ 4) (h0 : 0 ≤ i.toInt) (hi' : i'.toInt = i.toInt + 1) : q_xI z t u v i' := by
  have c1 : i.toNatClampNeg = i.toInt.toNat := rfl
  have c2 : i'.toNatClampNeg = i'.toInt.toNat := rfl
  obtain ⟨h1, h2, h3, h4⟩ := h
  have hs := ha.2 h3
  have hP := q_plC_k h2
  have hs' : v = (q_stp (q_plC z 4) u (Int32.ofInt 0) (s.1 24) (s.1 25) (s.1 22 3)).1 ∧ t.1 24 = (q_stp (q_plC z 4) u (Int32.ofInt 0) (s.1 24) (s.1 25) (s.1 22 3)).2.1 ∧ t.1 25 = (q_stp (q_plC z 4) u (Int32.ofInt 0) (s.1 24) (s.1 25) (s.1 22 3)).2.2.1 ∧ t.1 22 3 = (q_stp (q_plC z 4) u (Int32.ofInt 0) (s.1 24) (s.1 25) (s.1 22 3)).2.2.2 := by
    rw [← hP]
    exact hs
  have h9 := q_ag1 (P := q_plC z 4) (u := u) hN h1 hs'
  have hr : t.1 23 = s.1 23 := ha.1
  refine ⟨by rw [show i'.toNatClampNeg = i.toNatClampNeg + 1 by omega]; exact h9.2, fun j hj => by rw [hr]; exact h2 j hj, by rw [hr]; exact h3, fun _ => ?_⟩
  rw [h9.1]
  exact congrArg _ (by omega)
theorem q_x2 {z s : vg_S} {u y i t : Int32} (h : q_xI z s u y i) (h0 : 0 ≤ t.toInt) (hi : i.toInt = t.toInt + 1) : y = q_out (q_plC z 4) u t.toNatClampNeg := by
  have c1 : t.toNatClampNeg = t.toInt.toNat := rfl
  rw [h.2.2.2 (by omega)]
  exact congrArg _ (by omega)
/-! tones of the reference -/
theorem q_plR_k {z s : vg_S} (h7 : s.1 55 7 = z.1 55 7) (h8 : s.1 55 8 = z.1 55 8) (h9 : s.1 55 9 = z.1 55 9) (h10 : s.1 55 10 = z.1 55 10) (h11 : s.1 55 11 = z.1 55 11) (h14 : s.1 55 14 = z.1 55 14) : q_plR s = q_plR z := by
  unfold q_plR
  rw [h7, h8, h9, h10, h11, h14]
theorem q_tI_s {z s : vg_S} {u i i' : Int32} (h : q_tI z s u (i.toNatClampNeg + 1)) (h0 : 0 ≤ i.toInt) (hi : i'.toInt = i.toInt + 1) : q_tI z s u i'.toNatClampNeg := by
  have c1 : i.toNatClampNeg = i.toInt.toNat := rfl
  have c2 : i'.toNatClampNeg = i'.toInt.toNat := rfl
  rw [show i'.toNatClampNeg = i.toNatClampNeg + 1 by omega]
  exact h
theorem q_tI_f2 {z s s1 s2 : vg_S} {u a b : Int32} {n : Nat} (h : q_tI z s u n) (e1 : s1 = vg_u1 s 55 30 a) (e2 : s2 = vg_u1 s1 55 31 b) : q_tI z s2 u n := by
  refine q_tI_k h ?_ ?_
  · rw [e2, vg_u1_ne (by decide), e1, vg_u1_ne (by decide)]
  · rw [e2, e1]
    rfl
theorem q_tI_0 {z s2 s3 s4 : vg_S} {u x : Int32} {a : Int} (yb : ∀ j : Nat, (j = 2 ∨ (23 ≤ j ∧ j ≤ 38)) → s2.2 56 j = Int64.ofNat 0) (yl : q_la s2 s3 a) (ee : s4 = vg_u1 s3 55 31 x) : q_tI z s4 u (Int32.ofInt 0).toNatClampNeg := by
  rw [q_n0]
  refine q_tI0 (fun j hj => ?_)
  rw [ee]
  show s3.2 56 j = _
  rw [yl.2.1]
  exact yb j hj
theorem q_be0s {z s t : vg_S} {u d w wd y val x er n i : Int32} (hs : s = z) (hK : (z.1 55 7).toInt = 0) (hw : w = u + q_shv (z.1 55 8) (qE z)) (y2 : wd = w + d) (y3 : y = q_near (s.1 55 9) (s.1 55 10) wd) (y4 : val = q_val (s.1 55 9) (s.1 55 10) y) (y5 : x = w - val) (y6 : er = q_held (s.1 55 11) x) (y7 : qh s t) (y8 : t.2 56 144 = cond (q_ht x er) (Int64.ofNat 1) (s.2 56 144)) (fl : n = t.1 55 8) (hi : i.toInt = n.toInt - 1) : q_beI z t u d y er i := by
  subst hs
  exact q_be0 hK hw y2 y3 y4 y5 y6 y7 y8 fl hi
