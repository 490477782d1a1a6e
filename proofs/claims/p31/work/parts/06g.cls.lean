/-! the class's loop: what its methods keep and make -/
theorem q_n0 : (Int32.ofInt 0).toNatClampNeg = 0 := by decide
theorem q_n1 : (Int32.ofInt 1).toNatClampNeg = 1 := by decide
theorem q_n2 : (Int32.ofInt 2).toNatClampNeg = 2 := by decide
theorem q_n3 : (Int32.ofInt 3).toNatClampNeg = 3 := by decide
theorem q_n4 : (Int32.ofInt 4).toNatClampNeg = 4 := by decide
theorem q_n5 : (Int32.ofInt 5).toNatClampNeg = 5 := by decide
theorem q_ht1 {x v : Int32} (h : ¬ v.toInt = x.toInt) : q_ht x v = true := by simp [q_ht, h]
theorem q_ht0 {x v : Int32} (h : v.toInt = x.toInt) : q_ht x v = false := by simp [q_ht, h]
theorem q_row {σ : vg_S} {k i : Nat} {x : Int32} : (vg_u1 σ k i x).1 k = upd (σ.1 k) i x := by simp only [vg_u1, vg_w1, if_true]
def qk (σ σ' : vg_S) (r : Nat) : Prop := σ'.1 (r + 1) = σ.1 (r + 1) ∧ σ'.1 (r + 2) = σ.1 (r + 2) ∧ σ'.1 (r + 3) = σ.1 (r + 3) ∧ σ'.1 r 3 = σ.1 r 3
theorem qk_rf {σ : vg_S} {r : Nat} : qk σ σ r := ⟨rfl, rfl, rfl, rfl⟩
theorem qk_u1 {σ s s' : vg_S} {r i : Nat} {x : Int32} (h : qk σ s r) (e : s' = vg_u1 s r i x) (hi : i ≠ 3) : qk σ s' r := by
  subst e
  refine ⟨?_, ?_, ?_, ?_⟩
  · rw [vg_u1_ne (by omega)]; exact h.1
  · rw [vg_u1_ne (by omega)]; exact h.2.1
  · rw [vg_u1_ne (by omega)]; exact h.2.2.1
  · rw [vg_u1_at (fun q => hi q.2.symm)]; exact h.2.2.2
theorem qk_u2 {σ s s' : vg_S} {r k i : Nat} {x : Int64} (h : qk σ s r) (e : s' = vg_u2 s k i x) : qk σ s' r := by
  subst e
  exact h
theorem q_holdA {σ s1 s2 s3 s4 : vg_S} {r : Nat} {a c d : Int32} {b : Int64} (e1 : s1 = vg_u1 σ r 7 a) (e2 : s2 = vg_u1 s1 r 5 c) (e3 : s3 = vg_u2 s2 r 12 b) (e4 : s4 = vg_u1 s3 r 8 d) : qk σ s4 r ∧ s4.1 r 7 = a := by
  refine ⟨qk_u1 (qk_u2 (qk_u1 (qk_u1 qk_rf e1 (by decide)) e2 (by decide)) e3) e4 (by decide), ?_⟩
  rw [e4, vg_u1_at (by omega), e3, vg_u2_1, e2, vg_u1_at (by omega), e1]
  exact vg_u1_self
theorem q_holdB {σ s1 : vg_S} {r : Nat} {d : Int32} (e1 : s1 = vg_u1 σ r 8 d) : qk σ s1 r ∧ s1.1 r 7 = σ.1 r 7 := by
  refine ⟨qk_u1 qk_rf e1 (by decide), ?_⟩
  rw [e1]
  exact vg_u1_at (by omega)
theorem q_ditB {σ s1 : vg_S} {r : Nat} {d : Int32} (e1 : s1 = vg_u1 σ r 4 d) : qk σ s1 r ∧ s1.1 r 7 = σ.1 r 7 := by
  refine ⟨qk_u1 qk_rf e1 (by decide), ?_⟩
  rw [e1]
  exact vg_u1_at (by omega)
/-- what a loop's inner method leaves -/
def q_oy (σ σ' : vg_S) (r : Nat) (v : Int32) (Y : q_Y) : Prop := v = Y.1 ∧ σ'.1 (r + 2) = Y.2.1 ∧ σ'.1 (r + 3) = Y.2.2.1 ∧ σ'.1 r 7 = cond Y.2.2.2 (Int32.ofInt 1) (σ.1 r 7) ∧ σ'.1 (r + 1) = σ.1 (r + 1) ∧ σ'.1 r 3 = σ.1 r 3
/-- errors -/
def q_oeI (z s : vg_S) (r : Nat) (u d y er i : Int32) : Prop := y = (q_yE (q_plC z (r + 1)) u d (z.1 (r + 2)) (z.1 (r + 3))).1 ∧ er = q_held (z.1 (r + 1) 4) (q_eX (q_plC z (r + 1)) u d (z.1 (r + 2))) ∧ s.1 (r + 3) = z.1 (r + 3) ∧ s.1 r 7 = cond (q_yE (q_plC z (r + 1)) u d (z.1 (r + 2)) (z.1 (r + 3))).2.2.2 (Int32.ofInt 1) (z.1 r 7) ∧ s.1 (r + 1) = z.1 (r + 1) ∧ s.1 r 3 = z.1 r 3 ∧ i.toInt ≤ (z.1 (r + 1) 1).toInt - 1 ∧ ∀ j : Nat, s.1 (r + 2) j = if i.toInt < (j : Int) ∧ (j : Int) < (z.1 (r + 1) 1).toInt then z.1 (r + 2) (j - 1) else z.1 (r + 2) j
theorem q_oe0 {z s : vg_S} {r : Nat} {u d sh w wd y val x er n i : Int32} (y0 : sh = q_shv (z.1 (r + 1) 1) (z.1 (r + 2))) (y1 : w = u + sh) (y2 : wd = w + d) (y3 : y = q_near (z.1 (r + 1) 2) (z.1 (r + 1) 3) wd) (y4 : val = q_val (z.1 (r + 1) 2) (z.1 (r + 1) 3) (y - q_bes (z.1 (r + 1) 0) (z.1 (r + 1) 1) (z.1 (r + 1) 3))) (y5 : x = w - val) (y6 : er = q_held (z.1 (r + 1) 4) x) (y7 : qk z s r) (y8 : s.1 r 7 = cond (q_ht x er) (Int32.ofInt 1) (z.1 r 7)) (fl : n = s.1 (r + 1) 1) (hi : i.toInt = n.toInt - 1) : q_oeI z s r u d y er i := by
  have hx : x = q_eX (q_plC z (r + 1)) u d (z.1 (r + 2)) := by
    rw [y5, y4, y3, y2, y1, y0]
    rfl
  have hy : y = (q_yE (q_plC z (r + 1)) u d (z.1 (r + 2)) (z.1 (r + 3))).1 := by
    rw [y3, y2, y1, y0]
    rfl
  have hN : n.toInt = (z.1 (r + 1) 1).toInt := by rw [fl, y7.1]
  refine ⟨hy, by rw [y6, hx], y7.2.2.1, ?_, y7.1, y7.2.2.2, by omega, fun j => ?_⟩
  · rw [y8, y6, hx]
    rfl
  · rw [if_neg (by omega), y7.2.1]
theorem q_oe1 {z s s' : vg_S} {r : Nat} {u d y er i k v i' : Int32} (h : q_oeI z s r u d y er i) (ae : v = s.1 (r + 2) k.toNatClampNeg) (ee : s' = vg_u1 s (r + 2) i.toNatClampNeg v) (hi : 0 < i.toInt) (hk : k.toInt = i.toInt - 1) (hi' : i'.toInt = i.toInt - 1) : q_oeI z s' r u d y er i' := by
  obtain ⟨h1, h2, h3, h4, h5, h6, h7, h8⟩ := h
  have c1 : i.toNatClampNeg = i.toInt.toNat := rfl
  have c2 : k.toNatClampNeg = k.toInt.toNat := rfl
  refine ⟨h1, h2, ?_, ?_, ?_, ?_, by omega, fun j => ?_⟩
  · rw [ee, vg_u1_ne (by omega)]; exact h3
  · rw [ee, vg_u1_ne (by omega)]; exact h4
  · rw [ee, vg_u1_ne (by omega)]; exact h5
  · rw [ee, vg_u1_ne (by omega)]; exact h6
  · rw [ee, vg_u1_if]
    by_cases hj : j = i.toNatClampNeg
    · rw [if_pos hj, if_pos (by omega), ae, h8, if_neg (by omega)]
      exact congrArg _ (by omega)
    · rw [if_neg hj, h8]
      by_cases hc : i.toInt < (j : Int) ∧ (j : Int) < (z.1 (r + 1) 1).toInt
      · rw [if_pos hc, if_pos (by omega)]
      · rw [if_neg hc, if_neg (by omega)]
theorem q_oe2 {z s t : vg_S} {r : Nat} {u d y er i : Int32} (h : q_oeI z s r u d y er i) (ee : t = vg_u1 s (r + 2) (Int32.ofInt 0).toNatClampNeg er) (hi : i.toInt = 0) : q_oy z t r y (q_yE (q_plC z (r + 1)) u d (z.1 (r + 2)) (z.1 (r + 3))) := by
  obtain ⟨h1, h2, h3, h4, h5, h6, h7, h8⟩ := h
  rw [q_n0] at ee
  refine ⟨h1, ?_, ?_, ?_, ?_, ?_⟩
  · funext j
    rw [ee, vg_u1_if]
    show _ = q_shift (z.1 (r + 1) 1) (q_held (z.1 (r + 1) 4) (q_eX (q_plC z (r + 1)) u d (z.1 (r + 2)))) (z.1 (r + 2)) j
    unfold q_shift
    by_cases hj : j = 0
    · rw [if_pos hj, if_pos hj, h2]
    · rw [if_neg hj, if_neg hj, h8]
      by_cases hc : i.toInt < (j : Int) ∧ (j : Int) < (z.1 (r + 1) 1).toInt
      · rw [if_pos hc, if_pos hc.2]
      · rw [if_neg hc, if_neg (by omega)]
  · rw [ee, vg_u1_ne (by omega)]; exact h3
  · rw [ee, vg_u1_ne (by omega)]; exact h4
  · rw [ee, vg_u1_ne (by omega)]; exact h5
  · rw [ee, vg_u1_ne (by omega)]; exact h6
/-- sums -/
def q_osI (z s : vg_S) (r : Nat) (u c i : Int32) : Prop := s.1 (r + 2) = (q_sm (z.1 (r + 1) 4) (z.1 r 3) u (z.1 (r + 2)) i.toNatClampNeg).1 ∧ c = (q_sm (z.1 (r + 1) 4) (z.1 r 3) u (z.1 (r + 2)) i.toNatClampNeg).2.1 ∧ s.1 r 7 = cond (q_sm (z.1 (r + 1) 4) (z.1 r 3) u (z.1 (r + 2)) i.toNatClampNeg).2.2 (Int32.ofInt 1) (z.1 r 7) ∧ s.1 (r + 1) = z.1 (r + 1) ∧ s.1 (r + 3) = z.1 (r + 3) ∧ s.1 r 3 = z.1 r 3 ∧ i.toInt ≤ (z.1 (r + 1) 1).toInt
theorem q_os0 {z : vg_S} {r : Nat} {u : Int32} (h : 1 ≤ (z.1 (r + 1) 1).toInt) : q_osI z z r u u (Int32.ofInt 0) := by
  have h0 : (Int32.ofInt 0).toInt = 0 := by decide
  unfold q_osI
  rw [q_n0]
  exact ⟨rfl, rfl, rfl, rfl, rfl, rfl, by omega⟩
theorem q_cond {α : Type} {a b : Bool} {x y : α} : cond b x (cond a x y) = cond (a || b) x y := by cases a <;> cases b <;> rfl
theorem q_os1 {z s t s' : vg_S} {r : Nat} {u c i v0 a vV b v v' i' : Int32} (h : q_osI z s r u c i) (y0 : v0 = s.1 (r + 2) i.toNatClampNeg) (y1 : a = v0 + c) (y2 : vV = s.1 r 3) (y3 : b = a - vV) (y4 : v = q_held (s.1 (r + 1) 4) b) (y5 : qk s t r) (y6 : t.1 r 7 = cond (q_ht b v) (Int32.ofInt 1) (s.1 r 7)) (ee : s' = vg_u1 t (r + 2) i.toNatClampNeg v) (ae : v' = s'.1 (r + 2) i.toNatClampNeg) (h0 : 0 ≤ i.toInt) (hN : i.toInt < (z.1 (r + 1) 1).toInt) (hi' : i'.toInt = i.toInt + 1) : q_osI z s' r u v' i' := by
  obtain ⟨h1, h2, h3, h4, h5, h6, h7⟩ := h
  have c1 : i.toNatClampNeg = i.toInt.toNat := rfl
  have c2 : i'.toNatClampNeg = i'.toInt.toNat := rfl
  have hb : b = (q_sm (z.1 (r + 1) 4) (z.1 r 3) u (z.1 (r + 2)) i.toNatClampNeg).1 i.toNatClampNeg + (q_sm (z.1 (r + 1) 4) (z.1 r 3) u (z.1 (r + 2)) i.toNatClampNeg).2.1 - z.1 r 3 := by
    rw [y3, y1, y0, y2, h1, h2, h6]
  have hv' : v' = v := by rw [ae, ee]; exact vg_u1_self
  rw [h4] at y4
  unfold q_osI
  rw [show i'.toNatClampNeg = i.toNatClampNeg + 1 by omega, q_sm]
  dsimp only
  rw [← hb, ← y4]
  refine ⟨?_, hv', ?_, ?_, ?_, ?_, by omega⟩
  · rw [ee, q_row, y5.2.1, h1]
  · rw [ee, vg_u1_ne (by omega), y6, h3]
    exact q_cond
  · rw [ee, vg_u1_ne (by omega), y5.1]; exact h4
  · rw [ee, vg_u1_ne (by omega), y5.2.2.1]; exact h5
  · rw [ee, vg_u1_ne (by omega), y5.2.2.2]; exact h6
theorem q_os2 {z s : vg_S} {r : Nat} {u c i d cd v : Int32} (h : q_osI z s r u c i) (y9 : cd = c + d) (hv : v = q_near (s.1 (r + 1) 2) (s.1 (r + 1) 3) cd) (hN : (z.1 (r + 1) 1).toInt ≤ i.toInt) : q_oy z s r v (q_yS (q_plC z (r + 1)) u d (z.1 (r + 2)) (z.1 (r + 3)) (z.1 r 3)) := by
  obtain ⟨h1, h2, h3, h4, h5, h6, h7⟩ := h
  have hi : i = z.1 (r + 1) 1 := vg_eqi (by omega)
  rw [hi] at h1 h2 h3
  refine ⟨?_, h1, h5, h3, h4, h6⟩
  rw [hv, y9, h2, h4]
  rfl
/-- what small loops told -/
def q_dk (σ σ' : vg_S) (r : Nat) : Prop := σ'.1 (r + 1) = σ.1 (r + 1) ∧ σ'.1 (r + 2) = σ.1 (r + 2) ∧ σ'.1 r 3 = σ.1 r 3 ∧ σ'.1 r 7 = σ.1 r 7
theorem q_dk_rf {σ : vg_S} {r : Nat} : q_dk σ σ r := ⟨rfl, rfl, rfl, rfl⟩
theorem q_dk_u {σ s s' : vg_S} {r i : Nat} {x : Int32} (h : q_dk σ s r) (e : s' = vg_u1 s (r + 3) i x) : q_dk σ s' r := by
  subst e
  refine ⟨?_, ?_, ?_, ?_⟩
  · rw [vg_u1_ne (by omega)]; exact h.1
  · rw [vg_u1_ne (by omega)]; exact h.2.1
  · rw [vg_u1_ne (by omega)]; exact h.2.2.1
  · rw [vg_u1_ne (by omega)]; exact h.2.2.2
def q_dd (σ σ' : vg_S) (r : Nat) (a o v : Int32) : Prop := v = q_df a.toNatClampNeg o (σ.1 (r + 3)) ∧ σ'.1 (r + 3) = q_pp a.toNatClampNeg o (σ.1 (r + 3)) ∧ q_dk σ σ' r
theorem q_dd0 {σ : vg_S} {r : Nat} {a o : Int32} (h : a.toInt < 1 ∨ 3 < a.toInt) : q_dd σ σ r a o o := by
  have c1 : a.toNatClampNeg = a.toInt.toNat := rfl
  have hd : ∀ n : Nat, (n < 1 ∨ 3 < n) → q_df n o (σ.1 (r + 3)) = o ∧ q_pp n o (σ.1 (r + 3)) = σ.1 (r + 3) := by
    intro n hn
    match n, hn with
    | 0, _ => exact ⟨rfl, rfl⟩
    | 1, h => omega
    | 2, h => omega
    | 3, h => omega
    | n + 4, _ => exact ⟨rfl, rfl⟩
  have h1 := hd a.toNatClampNeg (by omega)
  exact ⟨h1.1.symm, h1.2.symm, q_dk_rf⟩
theorem q_dd1 {σ s1 : vg_S} {r : Nat} {a o v v0 : Int32} (h : a.toInt = 1) (y0 : v0 = σ.1 (r + 3) (Int32.ofInt 0).toNatClampNeg) (y1 : v = o - v0) (e1 : s1 = vg_u1 σ (r + 3) (Int32.ofInt 0).toNatClampNeg o) : q_dd σ s1 r a o v := by
  have c1 : a.toNatClampNeg = 1 := by have : a.toNatClampNeg = a.toInt.toNat := rfl; omega
  rw [q_n0] at y0 e1
  refine ⟨by rw [c1, y1, y0]; rfl, ?_, q_dk_u q_dk_rf e1⟩
  rw [c1, e1, q_row]
  rfl
theorem q_dd2 {σ s1 s2 : vg_S} {r : Nat} {a o v v0 v1 v2 v3 : Int32} (h : a.toInt = 2) (y0 : v0 = σ.1 (r + 3) (Int32.ofInt 1).toNatClampNeg) (y1 : v1 = Int32.ofInt 2 * v0) (y2 : v2 = o - v1) (y3 : v3 = σ.1 (r + 3) (Int32.ofInt 2).toNatClampNeg) (y4 : v = v2 + v3) (e1 : s1 = vg_u1 σ (r + 3) (Int32.ofInt 2).toNatClampNeg v0) (e2 : s2 = vg_u1 s1 (r + 3) (Int32.ofInt 1).toNatClampNeg o) : q_dd σ s2 r a o v := by
  have c1 : a.toNatClampNeg = 2 := by have : a.toNatClampNeg = a.toInt.toNat := rfl; omega
  rw [q_n1] at y0 e2
  rw [q_n2] at y3 e1
  refine ⟨by rw [c1, y4, y2, y1, y0, y3]; rfl, ?_, q_dk_u (q_dk_u q_dk_rf e1) e2⟩
  rw [c1, e2, q_row, e1, q_row, y0]
  rfl
theorem q_dd3 {σ s1 s2 s3 : vg_S} {r : Nat} {a o v v0 v1 v2 v3 v4 v5 v6 w : Int32} (h : a.toInt = 3) (y0 : v0 = σ.1 (r + 3) (Int32.ofInt 3).toNatClampNeg) (y1 : v1 = Int32.ofInt 3 * v0) (y2 : v2 = o - v1) (y3 : v3 = σ.1 (r + 3) (Int32.ofInt 4).toNatClampNeg) (y4 : v4 = Int32.ofInt 3 * v3) (y5 : v5 = v2 + v4) (y6 : v6 = σ.1 (r + 3) (Int32.ofInt 5).toNatClampNeg) (y7 : v = v5 - v6) (y8 : w = s1.1 (r + 3) (Int32.ofInt 3).toNatClampNeg) (e1 : s1 = vg_u1 σ (r + 3) (Int32.ofInt 5).toNatClampNeg v3) (e2 : s2 = vg_u1 s1 (r + 3) (Int32.ofInt 4).toNatClampNeg w) (e3 : s3 = vg_u1 s2 (r + 3) (Int32.ofInt 3).toNatClampNeg o) : q_dd σ s3 r a o v := by
  have c1 : a.toNatClampNeg = 3 := by have : a.toNatClampNeg = a.toInt.toNat := rfl; omega
  rw [q_n3] at y0 e3 y8
  rw [q_n4] at y3 e2
  rw [q_n5] at y6 e1
  have hw : w = σ.1 (r + 3) 3 := by rw [y8, e1, vg_u1_at (by omega)]
  refine ⟨by rw [c1, y7, y5, y2, y1, y0, y4, y3, y6]; rfl, ?_, q_dk_u (q_dk_u (q_dk_u q_dk_rf e1) e2) e3⟩
  rw [c1, e3, q_row, e2, q_row, hw, e1, q_row, y3]
  rfl
/-- a cascade -/
def q_ocI (z s : vg_S) (r : Nat) (u d c y i : Int32) : Prop := s.1 (r + 2) = (q_cF (q_plC z (r + 1)) u d (z.1 (r + 2)) (z.1 (r + 3)) i.toNatClampNeg).1 ∧ s.1 (r + 3) = (q_cF (q_plC z (r + 1)) u d (z.1 (r + 2)) (z.1 (r + 3)) i.toNatClampNeg).2.1 ∧ c = (q_cF (q_plC z (r + 1)) u d (z.1 (r + 2)) (z.1 (r + 3)) i.toNatClampNeg).2.2.1 ∧ y = (q_cF (q_plC z (r + 1)) u d (z.1 (r + 2)) (z.1 (r + 3)) i.toNatClampNeg).2.2.2.1 ∧ s.1 r 7 = cond (q_cF (q_plC z (r + 1)) u d (z.1 (r + 2)) (z.1 (r + 3)) i.toNatClampNeg).2.2.2.2 (Int32.ofInt 1) (z.1 r 7) ∧ s.1 (r + 1) = z.1 (r + 1) ∧ s.1 r 3 = z.1 r 3 ∧ i.toInt ≤ (z.1 (r + 1) 1).toInt
theorem q_oc0 {z : vg_S} {r : Nat} {u d b : Int32} (h : 1 ≤ (z.1 (r + 1) 1).toInt) (hb : b = q_bes (z.1 (r + 1) 0) (z.1 (r + 1) 1) (z.1 (r + 1) 3)) : q_ocI z z r u d u b (Int32.ofInt 0) := by
  have h0 : (Int32.ofInt 0).toInt = 0 := by decide
  unfold q_ocI
  rw [q_n0]
  exact ⟨rfl, rfl, rfl, hb, rfl, rfl, rfl, by omega⟩
theorem q_oc1 {z s t s' t' : vg_S} {r : Nat} {u d c y i v0 w arg o val x v v' df y' i' : Int32} (h : q_ocI z s r u d c y i) (y0 : v0 = s.1 (r + 2) i.toNatClampNeg) (y1 : w = c + v0) (ya : arg = if i.toNatClampNeg = 0 then w + d else w) (y3 : o = q_near (s.1 (r + 1) 2) (s.1 (r + 1) 3) arg) (y4 : val = q_val (s.1 (r + 1) 2) (s.1 (r + 1) 3) o) (y5 : x = w - val) (y6 : v = q_held (s.1 (r + 1) 4) x) (k : qk s t r) (hh : t.1 r 7 = cond (q_ht x v) (Int32.ofInt 1) (s.1 r 7)) (y7 : s' = vg_u1 t (r + 2) i.toNatClampNeg v) (y8 : v' = s'.1 (r + 2) i.toNatClampNeg) (y9 : q_dd s' t' r i o df) (la : y' = y + df) (h0 : 0 ≤ i.toInt) (hN : i.toInt < (z.1 (r + 1) 1).toInt) (hi' : i'.toInt = i.toInt + 1) : q_ocI z t' r u d v' y' i' := by
  obtain ⟨h1, h2, h3, h4, h5, h6, h7, h8⟩ := h
  have c1 : i.toNatClampNeg = i.toInt.toNat := rfl
  have c2 : i'.toNatClampNeg = i'.toInt.toNat := rfl
  rw [h6] at y3 y4 y6
  have hv' : v' = v := by rw [y8, y7]; exact vg_u1_self
  unfold q_ocI
  unfold q_cF at h1 h2 h3 h4 h5 ⊢
  generalize hF : q_cs (q_plC z (r + 1)).2.2.1 (q_plC z (r + 1)).2.2.2.1 (q_plC z (r + 1)).2.2.2.2.1 u d (q_bes (q_plC z (r + 1)).1 (q_plC z (r + 1)).2.1 (q_plC z (r + 1)).2.2.2.1) (z.1 (r + 2)) (z.1 (r + 3)) i.toNatClampNeg = F at *
  have hw : w = q_cw i.toNatClampNeg F := by rw [y1, y0, h1, h3]; rfl
  have ho : o = q_co (q_plC z (r + 1)).2.2.1 (q_plC z (r + 1)).2.2.2.1 d i.toNatClampNeg F := by rw [y3, ya, hw]; rfl
  have hx : x = q_cx (q_plC z (r + 1)).2.2.1 (q_plC z (r + 1)).2.2.2.1 d i.toNatClampNeg F := by rw [y5, y4, ho, hw]; rfl
  rw [show i'.toNatClampNeg = i.toNatClampNeg + 1 by omega, q_cs, hF]
  dsimp only
  rw [← ho, ← hx]
  have y6' : v = q_held (q_plC z (r + 1)).2.2.2.2.1 x := y6
  rw [← y6']
  have p' : s'.1 (r + 3) = F.2.1 := by rw [y7, vg_u1_ne (by omega), k.2.2.1, h2]
  obtain ⟨d1, d2, d3, d4, d5, d6⟩ := y9
  refine ⟨?_, ?_, hv', ?_, ?_, ?_, ?_, by omega⟩
  · rw [d4, y7, q_row, k.2.1, h1]
  · rw [d2, p']
  · rw [la, h4, d1, p']
  · rw [d6, y7, vg_u1_ne (by omega), hh, h5]
    exact q_cond
  · rw [d3, y7, vg_u1_ne (by omega), k.1]; exact h6
  · rw [d5, y7, vg_u1_ne (by omega), k.2.2.2]; exact h7
theorem q_oc2 {z s : vg_S} {r : Nat} {u d c y i : Int32} (h : q_ocI z s r u d c y i) (hN : (z.1 (r + 1) 1).toInt ≤ i.toInt) : q_oy z s r y (q_yC (q_plC z (r + 1)) u d (z.1 (r + 2)) (z.1 (r + 3))) := by
  obtain ⟨h1, h2, h3, h4, h5, h6, h7, h8⟩ := h
  have hi : i = z.1 (r + 1) 1 := vg_eqi (by omega)
  rw [hi] at h1 h2 h4 h5
  exact ⟨h4, h1, h2, h5, h6, h7⟩
/-- one of the three, behind the dither -/
theorem q_of {z s t : vg_S} {r : Nat} {u d v : Int32} {Y : q_Y} (dq : (z.1 (r + 1) 6).toInt = 0 → d = Int32.ofInt 0) (k : qk z s r) (k7 : s.1 r 7 = z.1 r 7) (h : q_oy s t r v Y) (hY : Y = q_yy (q_plC s (r + 1)) u d (s.1 (r + 2)) (s.1 (r + 3)) (s.1 r 3)) : t.1 (r + 1) = z.1 (r + 1) ∧ ((z.1 (r + 1) 6).toInt = 0 → q_oy z t r v (q_yy (q_plC z (r + 1)) u (Int32.ofInt 0) (z.1 (r + 2)) (z.1 (r + 3)) (z.1 r 3))) := by
  obtain ⟨h1, h2, h3, h4, h5, h6⟩ := h
  obtain ⟨k1, k2, k3, k4⟩ := k
  refine ⟨h5.trans k1, fun h0 => ?_⟩
  have hP : q_plC s (r + 1) = q_plC z (r + 1) := by unfold q_plC; rw [k1]
  rw [hP, dq h0, k2, k3, k4] at hY
  rw [hY] at h1 h2 h3 h4
  exact ⟨h1, h2, h3, by rw [h4, k7], h5.trans k1, h6.trans k4⟩
theorem q_yy1 {P : q_P} {u d : Int32} {e p : Nat → Int32} {V : Int32} (h : P.1.toInt = 1) : q_yS P u d e p V = q_yy P u d e p V := by rw [q_yy, if_pos h]
theorem q_yy2 {P : q_P} {u d : Int32} {e p : Nat → Int32} {V : Int32} (h : P.1.toInt = 2) : q_yC P u d e p = q_yy P u d e p V := by rw [q_yy, if_neg (by omega), if_pos h]
theorem q_yy0 {P : q_P} {u d : Int32} {e p : Nat → Int32} {V : Int32} (h1 : ¬ P.1.toInt = 1) (h2 : ¬ P.1.toInt = 2) : q_yE P u d e p = q_yy P u d e p V := by rw [q_yy, if_neg h1, if_neg h2]
/-- rows that are filled with 0 -/
def q_len (k : Nat) : Nat := if k = 5 ∨ k = 24 then 4 else 6
theorem q_fl0 {z : vg_S} {k : Nat} {x i : Int32} (hi : i.toInt = 0) : (∀ j : Nat, z.1 k j = if (j : Int) < i.toInt then x else z.1 k j) ∧ ∀ m, m ≠ k → z.1 m = z.1 m := ⟨fun j => by rw [if_neg (by omega)], fun _ _ => rfl⟩
theorem q_fl1 {z s s' : vg_S} {k : Nat} {x i i' : Int32} (h : (∀ j : Nat, s.1 k j = if (j : Int) < i.toInt then x else z.1 k j) ∧ ∀ m, m ≠ k → s.1 m = z.1 m) (ee : s' = vg_u1 s k i.toNatClampNeg x) (h0 : 0 ≤ i.toInt) (hi : i'.toInt = i.toInt + 1) : (∀ j : Nat, s'.1 k j = if (j : Int) < i'.toInt then x else z.1 k j) ∧ ∀ m, m ≠ k → s'.1 m = z.1 m := by
  have c1 : i.toNatClampNeg = i.toInt.toNat := rfl
  refine ⟨fun j => ?_, fun m hm => by rw [ee, vg_u1_ne hm]; exact h.2 m hm⟩
  rw [ee, vg_u1_if]
  by_cases hj : j = i.toNatClampNeg
  · rw [if_pos hj, if_pos (by omega)]
  · rw [if_neg hj, h.1 j]
    by_cases hc : (j : Int) < i.toInt
    · rw [if_pos hc, if_pos (by omega)]
    · rw [if_neg hc, if_neg (by omega)]
theorem q_fl2 {z s : vg_S} {k n : Nat} {x i : Int32} (h : (∀ j : Nat, s.1 k j = if (j : Int) < i.toInt then x else z.1 k j) ∧ ∀ m, m ≠ k → s.1 m = z.1 m) (hi : i.toInt = (n : Int)) : (∀ j : Nat, s.1 k j = if j < n then x else z.1 k j) ∧ ∀ m, m ≠ k → s.1 m = z.1 m := by
  refine ⟨fun j => ?_, h.2⟩
  rw [h.1 j]
  by_cases hc : j < n
  · rw [if_pos hc, if_pos (by omega)]
  · rw [if_neg hc, if_neg (by omega)]
/-- a clock, ahead of the sums -/
def q_av (z s : vg_S) (r : Nat) (u y vH : Int32) : Prop := s.1 (r + 1) = z.1 (r + 1) ∧ ((z.1 (r + 1) 6).toInt = 0 → y = (q_yy (q_plC z (r + 1)) u (Int32.ofInt 0) (z.1 (r + 2)) (z.1 (r + 3)) (z.1 r 3)).1 ∧ s.1 (r + 2) = (q_yy (q_plC z (r + 1)) u (Int32.ofInt 0) (z.1 (r + 2)) (z.1 (r + 3)) (z.1 r 3)).2.1 ∧ s.1 (r + 3) = (q_yy (q_plC z (r + 1)) u (Int32.ofInt 0) (z.1 (r + 2)) (z.1 (r + 3)) (z.1 r 3)).2.2.1 ∧ vH = cond (q_yy (q_plC z (r + 1)) u (Int32.ofInt 0) (z.1 (r + 2)) (z.1 (r + 3)) (z.1 r 3)).2.2.2 (Int32.ofInt 1) (Int32.ofInt 0) ∧ s.1 r 3 = q_val (z.1 (r + 1) 2) (z.1 (r + 1) 3) (y - q_bes (z.1 (r + 1) 0) (z.1 (r + 1) 1) (z.1 (r + 1) 3)))
theorem q_av0 {z s1 s2 s3 : vg_S} {r : Nat} {u y val vH : Int32} (e1 : s1 = vg_u1 z r 7 (Int32.ofInt 0)) (h : s2.1 (r + 1) = s1.1 (r + 1) ∧ ((s1.1 (r + 1) 6).toInt = 0 → q_oy s1 s2 r y (q_yy (q_plC s1 (r + 1)) u (Int32.ofInt 0) (s1.1 (r + 2)) (s1.1 (r + 3)) (s1.1 r 3)))) (hv : val = q_val (s2.1 (r + 1) 2) (s2.1 (r + 1) 3) (y - q_bes (s2.1 (r + 1) 0) (s2.1 (r + 1) 1) (s2.1 (r + 1) 3))) (e3 : s3 = vg_u1 s2 r 3 val) (hH : vH = s3.1 r 7) : q_av z s3 r u y vH := by
  have a1 : s1.1 (r + 1) = z.1 (r + 1) := by rw [e1, vg_u1_ne (by omega)]
  have a2 : s1.1 (r + 2) = z.1 (r + 2) := by rw [e1, vg_u1_ne (by omega)]
  have a3 : s1.1 (r + 3) = z.1 (r + 3) := by rw [e1, vg_u1_ne (by omega)]
  have a4 : s1.1 r 3 = z.1 r 3 := by rw [e1, vg_u1_at (by omega)]
  have a7 : s1.1 r 7 = Int32.ofInt 0 := by rw [e1]; exact vg_u1_self
  have b1 : s3.1 (r + 1) = s2.1 (r + 1) := by rw [e3, vg_u1_ne (by omega)]
  have b2 : s3.1 (r + 2) = s2.1 (r + 2) := by rw [e3, vg_u1_ne (by omega)]
  have b3 : s3.1 (r + 3) = s2.1 (r + 3) := by rw [e3, vg_u1_ne (by omega)]
  have b4 : s3.1 r 3 = val := by rw [e3]; exact vg_u1_self
  have b7 : s3.1 r 7 = s2.1 r 7 := by rw [e3, vg_u1_at (by omega)]
  have hP : q_plC s1 (r + 1) = q_plC z (r + 1) := by unfold q_plC; rw [a1]
  refine ⟨b1.trans (h.1.trans a1), fun h0 => ?_⟩
  obtain ⟨h1, h2, h3, h4, h5, h6⟩ := h.2 (by rw [a1]; exact h0)
  rw [hP, a2, a3, a4] at h1 h2 h3 h4
  refine ⟨h1, b2.trans h2, b3.trans h3, by rw [hH, b7, h4, a7], ?_⟩
  rw [b4, hv, h5, a1]
def q_ad (z t : vg_S) (r : Nat) (u v : Int32) : Prop := t.1 (r + 1) = z.1 (r + 1) ∧ ((z.1 (r + 1) 6).toInt = 0 → v = (q_stp (q_plC z (r + 1)) u (Int32.ofInt 0) (z.1 (r + 2)) (z.1 (r + 3)) (z.1 r 3)).1 ∧ t.1 (r + 2) = (q_stp (q_plC z (r + 1)) u (Int32.ofInt 0) (z.1 (r + 2)) (z.1 (r + 3)) (z.1 r 3)).2.1 ∧ t.1 (r + 3) = (q_stp (q_plC z (r + 1)) u (Int32.ofInt 0) (z.1 (r + 2)) (z.1 (r + 3)) (z.1 r 3)).2.2.1 ∧ t.1 r 3 = (q_stp (q_plC z (r + 1)) u (Int32.ofInt 0) (z.1 (r + 2)) (z.1 (r + 3)) (z.1 r 3)).2.2.2)
theorem q_u4 {s a b c d : vg_S} {k1 k2 k3 k4 i1 i2 i3 i4 : Nat} {x1 x2 x3 x4 : Int64} (e1 : a = vg_u2 s k1 i1 x1) (e2 : b = vg_u2 a k2 i2 x2) (e3 : c = vg_u2 b k3 i3 x3) (e4 : d = vg_u2 c k4 i4 x4) : d.1 = s.1 := by
  rw [e4, vg_u2_1, e3, vg_u2_1, e2, vg_u2_1, e1, vg_u2_1]
/-- no hit -/
theorem q_ad0 {z s t : vg_S} {r : Nat} {u y vH : Int32} (h : q_av z s r u y vH) (ht : t.1 = s.1) (hH : vH.toInt = 0) : q_ad z t r u y := by
  unfold q_ad
  rw [ht]
  refine ⟨h.1, fun h0 => ?_⟩
  obtain ⟨h1, h2, h3, h4, h5⟩ := h.2 h0
  have hb : (q_yy (q_plC z (r + 1)) u (Int32.ofInt 0) (z.1 (r + 2)) (z.1 (r + 3)) (z.1 r 3)).2.2.2 = false := by
    cases hc : (q_yy (q_plC z (r + 1)) u (Int32.ofInt 0) (z.1 (r + 2)) (z.1 (r + 3)) (z.1 r 3)).2.2.2 with
    | false => rfl
    | true =>
      rw [hc] at h4
      rw [h4] at hH
      exact absurd hH (by decide)
  unfold q_stp
  dsimp only
  refine ⟨h1, ?_, h3, ?_⟩
  · rw [if_neg (fun q => by rw [hb] at q; exact Bool.noConfusion q.2)]
    exact h2
  · rw [h5, h1]
    rfl
theorem q_adh {z s : vg_S} {r : Nat} {u y vH : Int32} (h : q_av z s r u y vH) (hH : ¬ vH.toInt = 0) (h0 : (z.1 (r + 1) 6).toInt = 0) : (q_yy (q_plC z (r + 1)) u (Int32.ofInt 0) (z.1 (r + 2)) (z.1 (r + 3)) (z.1 r 3)).2.2.2 = true := by
  obtain ⟨h1, h2, h3, h4, h5⟩ := h.2 h0
  cases hc : (q_yy (q_plC z (r + 1)) u (Int32.ofInt 0) (z.1 (r + 2)) (z.1 (r + 3)) (z.1 r 3)).2.2.2 with
  | true => rfl
  | false =>
    rw [hc] at h4
    rw [h4] at hH
    exact absurd (by decide) hH
/-- a hit, not calm -/
theorem q_ad1 {z s s4 t : vg_S} {r : Nat} {u y vH x vC : Int32} (h : q_av z s r u y vH) (e4 : s4 = vg_u1 s r 6 x) (hc : vC = s4.1 (r + 1) 5) (ht : t.1 = s4.1) (hC : vC.toInt = 0) : q_ad z t r u y := by
  have a1 : s4.1 (r + 1) = s.1 (r + 1) := by rw [e4, vg_u1_ne (by omega)]
  have a2 : s4.1 (r + 2) = s.1 (r + 2) := by rw [e4, vg_u1_ne (by omega)]
  have a3 : s4.1 (r + 3) = s.1 (r + 3) := by rw [e4, vg_u1_ne (by omega)]
  have a4 : s4.1 r 3 = s.1 r 3 := by rw [e4, vg_u1_at (by omega)]
  unfold q_ad
  rw [ht]
  refine ⟨a1.trans h.1, fun h0 => ?_⟩
  obtain ⟨h1, h2, h3, h4, h5⟩ := h.2 h0
  have hc0 : (z.1 (r + 1) 5).toInt = 0 := by rw [← h.1, ← a1, ← hc]; exact hC
  unfold q_stp
  dsimp only
  refine ⟨h1, ?_, a3.trans h3, ?_⟩
  · rw [if_neg (fun q => q.1 hc0), a2]
    exact h2
  · rw [a4, h5, h1]
    rfl
/-- a hit, calm -/
theorem q_ad2 {z s s4 s5 t : vg_S} {r k : Nat} {u y vH x vC w : Int32} (h : q_av z s r u y vH) (hH : ¬ vH.toInt = 0) (e4 : s4 = vg_u1 s r 6 x) (hc : vC = s4.1 (r + 1) 5) (hf : (∀ j : Nat, s5.1 k j = if j < q_len k then w else s4.1 k j) ∧ ∀ m, m ≠ k → s5.1 m = s4.1 m) (hw : w = Int32.ofInt 0) (hk : k = r + 2) (hl : q_len k = 4) (ht : t.1 = s5.1) (hC : ¬ vC.toInt = 0) : q_ad z t r u y := by
  subst hk
  have a1 : s4.1 (r + 1) = s.1 (r + 1) := by rw [e4, vg_u1_ne (by omega)]
  have a2 : s4.1 (r + 2) = s.1 (r + 2) := by rw [e4, vg_u1_ne (by omega)]
  have a3 : s4.1 (r + 3) = s.1 (r + 3) := by rw [e4, vg_u1_ne (by omega)]
  have a4 : s4.1 r 3 = s.1 r 3 := by rw [e4, vg_u1_at (by omega)]
  unfold q_ad
  rw [ht]
  refine ⟨by rw [hf.2 _ (by omega), a1]; exact h.1, fun h0 => ?_⟩
  have hb := q_adh h hH h0
  obtain ⟨h1, h2, h3, h4, h5⟩ := h.2 h0
  have hc0 : ¬ (z.1 (r + 1) 5).toInt = 0 := by rw [← h.1, ← a1, ← hc]; exact hC
  unfold q_stp
  dsimp only
  refine ⟨h1, ?_, by rw [hf.2 _ (by omega), a3]; exact h3, ?_⟩
  · rw [if_pos ⟨hc0, hb⟩]
    funext j
    rw [hf.1 j, hl, hw, a2, h2]
    rfl
  · rw [hf.2 _ (by omega), a4, h5, h1]
    rfl
/-- a loop that begins -/
theorem q_bg {z s1 s2 a b c d e t1 t2 t3 t4 t5 : vg_S} {r : Nat} {x1 x2 x3 x4 x5 : Int32} {y1 y2 y3 y4 y5 : Int64} {w1 w2 : Int32} (hw1 : w1 = Int32.ofInt 0) (hw2 : w2 = Int32.ofInt 0) (hl2 : q_len (r + 2) = 4) (hl3 : q_len (r + 3) = 6) (f1 : (∀ j : Nat, s1.1 (r + 2) j = if j < q_len (r + 2) then w1 else z.1 (r + 2) j) ∧ ∀ m, m ≠ r + 2 → s1.1 m = z.1 m) (f2 : (∀ j : Nat, s2.1 (r + 3) j = if j < q_len (r + 3) then w2 else s1.1 (r + 3) j) ∧ ∀ m, m ≠ r + 3 → s2.1 m = s1.1 m) (e1 : a = vg_u1 s2 r 3 x1) (e2 : b = vg_u1 a r 4 x2) (e3 : c = vg_u1 b r 5 x3) (e4 : d = vg_u1 c r 6 x4) (e5 : e = vg_u1 d r 8 x5) (g1 : t1 = vg_u2 e r 9 y1) (g2 : t2 = vg_u2 t1 r 10 y2) (g3 : t3 = vg_u2 t2 r 11 y3) (g4 : t4 = vg_u2 t3 r 12 y4) (g5 : t5 = vg_u2 t4 r 13 y5) : (∀ j : Nat, j < 4 → t5.1 (r + 2) j = Int32.ofInt 0) ∧ (∀ j : Nat, j < 6 → t5.1 (r + 3) j = Int32.ofInt 0) ∧ t5.1 r 3 = x1 ∧ t5.1 (r + 1) = z.1 (r + 1) := by
  have ht : t5.1 = e.1 := by rw [g5, vg_u2_1, g4, vg_u2_1, g3, vg_u2_1, g2, vg_u2_1, g1, vg_u2_1]
  have hr : ∀ m, m ≠ r → e.1 m = s2.1 m := fun m hm => by rw [e5, vg_u1_ne hm, e4, vg_u1_ne hm, e3, vg_u1_ne hm, e2, vg_u1_ne hm, e1, vg_u1_ne hm]
  rw [ht]
  refine ⟨fun j hj => ?_, fun j hj => ?_, ?_, ?_⟩
  · rw [hr _ (by omega), f2.2 _ (by omega), f1.1 j, hl2, if_pos hj, hw1]
  · rw [hr _ (by omega), f2.1 j, hl3, if_pos hj, hw2]
  · rw [e5, vg_u1_at (by omega), e4, vg_u1_at (by omega), e3, vg_u1_at (by omega), e2, vg_u1_at (by omega), e1]
    exact vg_u1_self
  · rw [hr _ (by omega), f2.2 _ (by omega), f1.2 _ (by omega)]
