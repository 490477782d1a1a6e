/-! the reference's loop -/
theorem q_u2if {σ : vg_S} {k i j : Nat} {x : Int64} : (vg_u2 σ k i x).2 k j = if j = i then x else σ.2 k j := by
  split
  · rename_i h
    subst h
    exact vg_u2_self
  · rename_i h
    exact vg_u2_at (fun q => h q.2)
theorem q_m2 : (Int32.ofInt 2).toNatClampNeg = 2 := by decide
theorem q_m23 : (Int32.ofInt 23).toNatClampNeg = 23 := by decide
theorem q_m144 : (Int32.ofInt 144).toNatClampNeg = 144 := by decide
def qE (σ : vg_S) : Nat → Int32 := fun j => if j < 4 then (σ.2 56 (23 + j)).toInt32 else Int32.ofInt 0
def q_pi (j : Nat) : Nat := match j with
  | 0 => 30
  | 1 => 33
  | 2 => 34
  | 3 => 36
  | 4 => 37
  | _ => 38
def qP (σ : vg_S) : Nat → Int32 := fun j => if j < 6 then (σ.2 56 (q_pi j)).toInt32 else Int32.ofInt 0
def qV (σ : vg_S) : Int32 := (σ.2 56 2).toInt32
/-- places of told outs that nobody uses -/
def q_un (j : Nat) : Prop := j = 27 ∨ j = 28 ∨ j = 29 ∨ j = 31 ∨ j = 32 ∨ j = 35
theorem q_pi_rng (j : Nat) : 30 ≤ q_pi j ∧ q_pi j ≤ 38 ∧ ¬ q_un (q_pi j) := by
  unfold q_pi q_un
  split <;> omega
theorem qE_eq {σ σ' : vg_S} (h : ∀ j : Nat, 23 ≤ j → j ≤ 26 → σ'.2 56 j = σ.2 56 j) : qE σ' = qE σ := by
  funext j
  unfold qE
  by_cases hj : j < 4
  · rw [if_pos hj, if_pos hj, h _ (by omega) (by omega)]
  · rw [if_neg hj, if_neg hj]
theorem qP_eq {σ σ' : vg_S} (h : ∀ j : Nat, 30 ≤ j → j ≤ 38 → σ'.2 56 j = σ.2 56 j) : qP σ' = qP σ := by
  funext j
  unfold qP
  have h2 := q_pi_rng j
  rw [h _ h2.1 h2.2.1]
/-- what is held -/
def qh (σ σ' : vg_S) : Prop := σ'.1 = σ.1 ∧ ∀ j : Nat, j ≠ 3 → j ≠ 5 → j ≠ 144 → σ'.2 56 j = σ.2 56 j
theorem qh_rf {σ : vg_S} : qh σ σ := ⟨rfl, fun _ _ _ _ => rfl⟩
theorem q_hdA {σ s1 s2 s3 : vg_S} {x y z : Int64} (e1 : s1 = vg_u2 σ 56 (Int32.ofInt 3).toNatClampNeg x) (e2 : s2 = vg_u2 s1 56 (Int32.ofInt 144).toNatClampNeg y) (e3 : s3 = vg_u2 s2 56 (Int32.ofInt 5).toNatClampNeg z) : qh σ s3 ∧ s3.2 56 144 = y := by
  rw [q_n3] at e1
  rw [q_m144] at e2
  rw [q_n5] at e3
  refine ⟨⟨by rw [e3, vg_u2_1, e2, vg_u2_1, e1, vg_u2_1], fun j h3 h5 h144 => ?_⟩, ?_⟩
  · rw [e3, q_u2if, if_neg h5, e2, q_u2if, if_neg h144, e1, q_u2if, if_neg h3]
  · rw [e3, q_u2if, if_neg (by decide), e2, q_u2if, if_pos rfl]
/-- longs that are ints -/
def qW (σ : vg_S) : Prop := ∀ j : Nat, (j = 2 ∨ (23 ≤ j ∧ j ≤ 38)) → σ.2 56 j = (σ.2 56 j).toInt32.toInt64
theorem qW_h {s t : vg_S} (h : qh s t) (w : qW s) : qW t := fun j hj => by
  rw [h.2 j (by omega) (by omega) (by omega)]
  exact w j hj
theorem qW_w {s s' : vg_S} {m : Nat} {vl : Int64} (ee : s' = vg_u2 s 56 m vl) (hv : vl = vl.toInt32.toInt64) (w : qW s) : qW s' := fun j hj => by
  rw [ee, q_u2if]
  by_cases h : j = m
  · rw [if_pos h]
    exact hv
  · rw [if_neg h]
    exact w j hj
theorem qW_i {v : Int32} {vl : Int64} (il : vl = v.toInt64) : vl = vl.toInt32.toInt64 := by rw [il, Int32.toInt32_toInt64]
/-- what the inner methods leave -/
def q_ry (σ σ' : vg_S) (v : Int32) (Y : q_Y) : Prop := v = Y.1 ∧ qE σ' = Y.2.1 ∧ qP σ' = Y.2.2.1 ∧ σ'.2 56 144 = cond Y.2.2.2 (Int64.ofNat 1) (σ.2 56 144) ∧ σ'.1 = σ.1 ∧ σ'.2 56 2 = σ.2 56 2 ∧ (∀ j : Nat, q_un j → σ'.2 56 j = σ.2 56 j) ∧ (qW σ → qW σ')
/-! shares -/
def q_bn : Nat → Nat → Int
  | _, 0 => 1
  | 0, _ + 1 => 0
  | n + 1, k + 1 => q_bn n k + q_bn n (k + 1)
def q_sg (b : Bool) (n k : Nat) : Int32 := if (k % 2 == 1) = b then Int32.ofInt (q_bn n k) else -(Int32.ofInt (q_bn n k))
def q_wS (n : Nat) (e : Nat → Int32) (u : Int32) : Nat → Int32
  | 0 => u
  | m + 1 => q_wS n e u m + q_sg true n (m + 1) * e m
theorem q_wS_sh {N u : Int32} {e : Nat → Int32} (h : 1 ≤ N.toInt ∧ N.toInt ≤ 4) : q_wS N.toInt.toNat e u N.toInt.toNat = u + q_shv N e := by
  have a1 : Int32.ofInt 1 = 1 := rfl
  have a2 : Int32.ofInt 2 = 2 := rfl
  have a3 : Int32.ofInt 3 = 3 := rfl
  have a4 : Int32.ofInt 4 = 4 := rfl
  have a6 : Int32.ofInt 6 = 6 := rfl
  rcases (show N.toInt = 1 ∨ N.toInt = 2 ∨ N.toInt = 3 ∨ N.toInt = 4 by omega) with h | h | h | h
  · rw [q_shv, if_pos h, h]
    show u + q_sg true 1 1 * e 0 = u + e 0
    rw [show q_sg true 1 1 = 1 by decide, Int32.one_mul]
  · rw [q_shv, if_neg (by omega), if_pos h, h, a2]
    show u + q_sg true 2 1 * e 0 + q_sg true 2 2 * e 1 = _
    rw [show q_sg true 2 1 = 2 by decide, show q_sg true 2 2 = -1 by decide]
    grind
  · rw [q_shv, if_neg (by omega), if_neg (by omega), if_pos h, h, a3]
    show u + q_sg true 3 1 * e 0 + q_sg true 3 2 * e 1 + q_sg true 3 3 * e 2 = _
    rw [show q_sg true 3 1 = 3 by decide, show q_sg true 3 2 = -3 by decide, show q_sg true 3 3 = 1 by decide]
    grind
  · rw [q_shv, if_neg (by omega), if_neg (by omega), if_neg (by omega), h, a4, a6]
    show u + q_sg true 4 1 * e 0 + q_sg true 4 2 * e 1 + q_sg true 4 3 * e 2 + q_sg true 4 4 * e 3 = _
    rw [show q_sg true 4 1 = 4 by decide, show q_sg true 4 2 = -6 by decide, show q_sg true 4 3 = 4 by decide, show q_sg true 4 4 = -1 by decide]
    grind
/-- where the class has what small loop n told -/
def q_ix (n m : Nat) : Nat := n * (n - 1) / 2 + m
def q_ys (n : Nat) (p : Nat → Int32) (b : Int32) : Nat → Int32
  | 0 => b
  | m + 1 => q_ys n p b m + q_sg false n (m + 1) * p (q_ix n m)
theorem q_ys_df {n : Nat} {p : Nat → Int32} {y o : Int32} (h : n ≤ 3) : q_ys n p (y + o) n = y + q_df n o p := by
  have a2 : Int32.ofInt 2 = 2 := rfl
  have a3 : Int32.ofInt 3 = 3 := rfl
  rcases (show n = 0 ∨ n = 1 ∨ n = 2 ∨ n = 3 by omega) with h | h | h | h
  · subst h
    rfl
  · subst h
    show y + o + q_sg false 1 1 * p 0 = y + (o - p 0)
    rw [show q_sg false 1 1 = -1 by decide]
    grind
  · subst h
    show y + o + q_sg false 2 1 * p 1 + q_sg false 2 2 * p 2 = y + (o - Int32.ofInt 2 * p 1 + p 2)
    rw [show q_sg false 2 1 = -2 by decide, show q_sg false 2 2 = 1 by decide, a2]
    grind
  · subst h
    show y + o + q_sg false 3 1 * p 3 + q_sg false 3 2 * p 4 + q_sg false 3 3 * p 5 = y + (o - Int32.ofInt 3 * p 3 + Int32.ofInt 3 * p 4 - p 5)
    rw [show q_sg false 3 1 = -3 by decide, show q_sg false 3 2 = 3 by decide, show q_sg false 3 3 = -1 by decide, a3]
    grind
theorem q_valb {S L y b m1 m2 m3 m4 m5 v : Int32} (e1 : m1 = Int32.ofInt 2 * y) (e2 : m2 = m1 + Int32.ofInt 1) (e3 : m3 = m2 - L) (e4 : m4 = Int32.ofInt 2 * b) (e5 : m5 = m3 - m4) (e6 : v = S * m5) : v = q_val S L (y - b) := by
  have a1 : Int32.ofInt 1 = 1 := rfl
  have a2 : Int32.ofInt 2 = 2 := rfl
  rw [q_val, e6, e5, e4, e3, e2, e1, a1, a2]
  grind
theorem q_lit {N : Int32} {n : Int} (h : N.toInt = n) : N = Int32.ofInt n := by rw [← h]; exact (Int32.ofInt_toInt N).symm
/-- the next share -/
theorem q_shs {N k sh m1 m2 m3 sh' : Int32} (hN : 0 ≤ N.toInt ∧ N.toInt ≤ 4) (hk : 1 ≤ k.toInt ∧ k.toInt ≤ N.toInt) (h : sh = Int32.ofInt (q_bn N.toInt.toNat (k.toInt - 1).toNat)) (e1 : m1 = N + Int32.ofInt 1) (e2 : m2 = m1 - k) (e3 : m3 = sh * m2) (e4 : sh' = m3 / k) : sh' = Int32.ofInt (q_bn N.toInt.toNat k.toInt.toNat) := by
  rcases (show N.toInt = 1 ∨ N.toInt = 2 ∨ N.toInt = 3 ∨ N.toInt = 4 by omega) with a | a | a | a <;> rcases (show k.toInt = 1 ∨ k.toInt = 2 ∨ k.toInt = 3 ∨ k.toInt = 4 by omega) with b | b | b | b <;> first | (exfalso; omega) | (rw [a, b] at h; rw [a, b, e4, e3, e2, e1, h, q_lit a, q_lit b]; decide)
/-- a share with its sign: odd ones as they are (b), or less -/
theorem q_sgn {b : Bool} {n : Nat} {k sh rm c : Int32} (hk : 1 ≤ k.toInt ∧ k.toInt ≤ 4) (h : sh = Int32.ofInt (q_bn n k.toInt.toNat)) (e : rm = k - k / Int32.ofInt 2 * Int32.ofInt 2) (hc : ((rm.toInt = 1) = (b = true) ∧ c = sh) ∨ ((rm.toInt = 1) = (b = false) ∧ c = -sh)) : c = q_sg b n k.toInt.toNat := by
  rcases (show k.toInt = 1 ∨ k.toInt = 2 ∨ k.toInt = 3 ∨ k.toInt = 4 by omega) with a | a | a | a <;> rw [a] at h ⊢ <;> rw [q_lit a] at e <;> cases b <;> rcases hc with ⟨h1, h2⟩ | ⟨h1, h2⟩ <;> rw [e] at h1 <;> first | (exfalso; revert h1; decide) | (rw [h2, h]; rfl)
/-- errors: the shares -/
def q_beW (z s : vg_S) (u w sh k : Int32) : Prop := s = z ∧ k.toInt ≤ (z.1 55 8).toInt + 1 ∧ sh = Int32.ofInt (q_bn (z.1 55 8).toInt.toNat (k.toInt - 1).toNat) ∧ w = q_wS (z.1 55 8).toInt.toNat (qE z) u (k.toInt - 1).toNat
theorem q_bw0 {z : vg_S} {u sh k : Int32} (h : 1 ≤ (z.1 55 8).toInt) (hs : sh = Int32.ofInt 1) (hk : k.toInt = 1) : q_beW z z u u sh k := by
  refine ⟨rfl, by omega, ?_, ?_⟩
  · rw [hk, hs, show (1 - 1 : Int).toNat = 0 from rfl]
    cases (z.1 55 8).toInt.toNat <;> rfl
  · rw [hk]
    rfl
theorem q_bw1 {z s : vg_S} {u w sh k n m1 m2 m3 sh' rm c ix g tm w' k' : Int32} (h : q_beW z s u w sh k) (hN : 1 ≤ n.toInt ∧ n.toInt ≤ 4) (fl : n = s.1 55 8) (hk : 1 ≤ k.toInt ∧ k.toInt ≤ n.toInt) (e1 : m1 = n + Int32.ofInt 1) (e2 : m2 = m1 - k) (e3 : m3 = sh * m2) (e4 : sh' = m3 / k) (e5 : rm = k - k / Int32.ofInt 2 * Int32.ofInt 2) (hc : ((rm.toInt = 1) = (true = true) ∧ c = sh') ∨ ((rm.toInt = 1) = (true = false) ∧ c = -sh')) (hg : g = (s.2 56 ix.toNatClampNeg).toInt32) (hix : ix.toInt = 22 + k.toInt) (e6 : tm = c * g) (e7 : w' = w + tm) (hk' : k'.toInt = k.toInt + 1) : q_beW z s u w' sh' k' := by
  obtain ⟨h1, h2, h3, h4⟩ := h
  subst h1
  rw [← fl] at h2 h3 h4
  have c1 : ix.toNatClampNeg = ix.toInt.toNat := rfl
  have hs := q_shs (N := n) ⟨by omega, by omega⟩ hk h3 e1 e2 e3 e4
  have hcc := q_sgn (b := true) ⟨by omega, by omega⟩ hs e5 hc
  have hge : g = qE s (k.toInt - 1).toNat := by
    rw [hg]
    unfold qE
    rw [if_pos (by omega)]
    exact congrArg (fun q => (s.2 56 q).toInt32) (by omega)
  refine ⟨rfl, by rw [← fl]; omega, ?_, ?_⟩
  · rw [← fl, hs]
    exact congrArg (fun q => Int32.ofInt (q_bn n.toInt.toNat q)) (by omega)
  · rw [← fl, show (k'.toInt - 1).toNat = (k.toInt - 1).toNat + 1 by omega, q_wS, e7, e6, hcc, h4, hge, show (k.toInt - 1).toNat + 1 = k.toInt.toNat by omega]
theorem q_bw2 {z s : vg_S} {u w sh k : Int32} (h : q_beW z s u w sh k) (hN : 1 ≤ (z.1 55 8).toInt ∧ (z.1 55 8).toInt ≤ 4) (hk : (z.1 55 8).toInt < k.toInt) : s = z ∧ w = u + q_shv (z.1 55 8) (qE z) := by
  obtain ⟨h1, h2, h3, h4⟩ := h
  refine ⟨h1, ?_⟩
  rw [h4, show (k.toInt - 1).toNat = (z.1 55 8).toInt.toNat by omega]
  exact q_wS_sh hN
/-- errors: they move on -/
def q_beI (z s : vg_S) (u d y er i : Int32) : Prop := y = (q_yE (q_plR z) u d (qE z) (qP z)).1 ∧ er = q_held (z.1 55 11) (q_eX (q_plR z) u d (qE z)) ∧ s.1 = z.1 ∧ s.2 56 144 = cond (q_yE (q_plR z) u d (qE z) (qP z)).2.2.2 (Int64.ofNat 1) (z.2 56 144) ∧ (∀ j : Nat, j ≠ 3 → j ≠ 5 → j ≠ 144 → ¬ (23 ≤ j ∧ j ≤ 26) → s.2 56 j = z.2 56 j) ∧ i.toInt ≤ (z.1 55 8).toInt - 1 ∧ (∀ j : Nat, j < 4 → s.2 56 (23 + j) = if i.toInt < (j : Int) ∧ (j : Int) < (z.1 55 8).toInt then z.2 56 (23 + (j - 1)) else z.2 56 (23 + j)) ∧ (qW z → qW s)
theorem q_be0 {z t : vg_S} {u d w wd y val x er n i : Int32} (hK : (z.1 55 7).toInt = 0) (hw : w = u + q_shv (z.1 55 8) (qE z)) (y2 : wd = w + d) (y3 : y = q_near (z.1 55 9) (z.1 55 10) wd) (y4 : val = q_val (z.1 55 9) (z.1 55 10) y) (y5 : x = w - val) (y6 : er = q_held (z.1 55 11) x) (y7 : qh z t) (y8 : t.2 56 144 = cond (q_ht x er) (Int64.ofNat 1) (z.2 56 144)) (fl : n = t.1 55 8) (hi : i.toInt = n.toInt - 1) : q_beI z t u d y er i := by
  have hb : q_bes (z.1 55 7) (z.1 55 8) (z.1 55 10) = 0 := by rw [q_bes, if_neg (by omega)]; rfl
  have hy : y = q_ey (z.1 55 8) (z.1 55 9) (z.1 55 10) u d (qE z) := by
    rw [y3, y2, hw]
    rfl
  have hx : x = q_eX (q_plR z) u d (qE z) := by
    show x = q_ex (z.1 55 8) (z.1 55 9) (z.1 55 10) u d (q_bes (z.1 55 7) (z.1 55 8) (z.1 55 10)) (qE z)
    unfold q_ex
    rw [hb, Int32.sub_zero, ← hy, y5, y4, hw]
  have hN : n.toInt = (z.1 55 8).toInt := by rw [fl, y7.1]
  refine ⟨hy, by rw [y6, hx], y7.1, ?_, fun j h1 h2 h3 _ => y7.2 j h1 h2 h3, by omega, fun j hj => ?_, fun w => qW_h y7 w⟩
  · rw [y8, y6, hx]
    rfl
  · rw [if_neg (by omega)]
    exact y7.2 _ (by omega) (by omega) (by omega)
theorem q_be1 {z s s' : vg_S} {u d y er i ixa ixb i' : Int32} {v : Int64} (h : q_beI z s u d y er i) (ae : v = s.2 56 ixb.toNatClampNeg) (ee : s' = vg_u2 s 56 ixa.toNatClampNeg v) (hi : 0 < i.toInt) (hi3 : i.toInt ≤ 3) (ha : ixa.toInt = 23 + i.toInt) (hb : ixb.toInt = 22 + i.toInt) (hi' : i'.toInt = i.toInt - 1) : q_beI z s' u d y er i' := by
  obtain ⟨h1, h2, h3, h4, h5, h6, h7, h8⟩ := h
  have c1 : ixa.toNatClampNeg = ixa.toInt.toNat := rfl
  have c2 : ixb.toNatClampNeg = ixb.toInt.toNat := rfl
  refine ⟨h1, h2, by rw [ee, vg_u2_1]; exact h3, ?_, fun j g1 g2 g3 g4 => ?_, by omega, fun j hj => ?_, fun w => qW_w ee (by rw [ae]; exact h8 w _ (by omega)) (h8 w)⟩
  · rw [ee, q_u2if, if_neg (by omega)]
    exact h4
  · rw [ee, q_u2if, if_neg (by omega)]
    exact h5 j g1 g2 g3 g4
  · rw [ee, q_u2if]
    by_cases hj2 : 23 + j = ixa.toNatClampNeg
    · rw [if_pos hj2, if_pos (by omega), ae, show ixb.toNatClampNeg = 23 + (j - 1) by omega, h7 _ (by omega), if_neg (by omega)]
    · rw [if_neg hj2, h7 j hj]
      by_cases hc : i.toInt < (j : Int) ∧ (j : Int) < (z.1 55 8).toInt
      · rw [if_pos hc, if_pos (by omega)]
      · rw [if_neg hc, if_neg (by omega)]
theorem q_be2 {z s t : vg_S} {u d y er i : Int32} {vl : Int64} (h : q_beI z s u d y er i) (il : vl = er.toInt64) (ee : t = vg_u2 s 56 (Int32.ofInt 23).toNatClampNeg vl) (hi : i.toInt = 0) (hN4 : (z.1 55 8).toInt ≤ 4) : q_ry z t y (q_yE (q_plR z) u d (qE z) (qP z)) := by
  obtain ⟨h1, h2, h3, h4, h5, h6, h7, h8⟩ := h
  rw [q_m23] at ee
  have hk : ∀ j : Nat, j ≠ 3 → j ≠ 5 → j ≠ 144 → ¬ (23 ≤ j ∧ j ≤ 26) → t.2 56 j = z.2 56 j := fun j g1 g2 g3 g4 => by
    rw [ee, q_u2if, if_neg (by omega)]
    exact h5 j g1 g2 g3 g4
  refine ⟨h1, ?_, ?_, ?_, by rw [ee, vg_u2_1]; exact h3, hk 2 (by decide) (by decide) (by decide) (by omega), fun j hj => hk j ?_ ?_ ?_ ?_, fun w => qW_w ee (qW_i il) (h8 w)⟩
  · funext j
    show qE t j = q_shift (z.1 55 8) (q_held (z.1 55 11) (q_eX (q_plR z) u d (qE z))) (qE z) j
    unfold q_shift
    by_cases hj : j < 4
    · have hq : qE t j = (t.2 56 (23 + j)).toInt32 := by unfold qE; rw [if_pos hj]
      rw [hq, ee, q_u2if]
      by_cases hj0 : j = 0
      · rw [if_pos (by omega), if_pos hj0, il, Int32.toInt32_toInt64, h2]
      · rw [if_neg (by omega), if_neg hj0, h7 j hj]
        by_cases hc : i.toInt < (j : Int) ∧ (j : Int) < (z.1 55 8).toInt
        · rw [if_pos hc, if_pos hc.2]
          unfold qE
          rw [if_pos (by omega)]
        · rw [if_neg hc, if_neg (by omega)]
          unfold qE
          rw [if_pos hj]
    · have hq : qE t j = Int32.ofInt 0 := by unfold qE; rw [if_neg hj]
      have hN : (q_plR z).2.1 = z.1 55 8 := rfl
      rw [hq, if_neg (by omega)]
      by_cases hc : (j : Int) < (z.1 55 8).toInt
      · omega
      · rw [if_neg hc]
        unfold qE
        rw [if_neg hj]
  · show qP t = qP z
    exact qP_eq (fun j g1 g2 => hk j (by omega) (by omega) (by omega) (by omega))
  · rw [ee, q_u2if, if_neg (by decide)]
    exact h4
  · unfold q_un at hj; omega
  · unfold q_un at hj; omega
  · unfold q_un at hj; omega
  · unfold q_un at hj; omega
/-- sums -/
def q_bsI (z s : vg_S) (u c i : Int32) : Prop := qE s = (q_sm (z.1 55 11) (qV z) u (qE z) i.toNatClampNeg).1 ∧ c = (q_sm (z.1 55 11) (qV z) u (qE z) i.toNatClampNeg).2.1 ∧ s.2 56 144 = cond (q_sm (z.1 55 11) (qV z) u (qE z) i.toNatClampNeg).2.2 (Int64.ofNat 1) (z.2 56 144) ∧ s.1 = z.1 ∧ (∀ j : Nat, j ≠ 3 → j ≠ 5 → j ≠ 144 → ¬ (23 ≤ j ∧ j ≤ 26) → s.2 56 j = z.2 56 j) ∧ i.toInt ≤ (z.1 55 8).toInt ∧ (qW z → qW s)
theorem q_bs0 {z : vg_S} {u : Int32} (h : 1 ≤ (z.1 55 8).toInt) : q_bsI z z u u (Int32.ofInt 0) := by
  have h0 : (Int32.ofInt 0).toInt = 0 := by decide
  unfold q_bsI
  rw [q_n0]
  exact ⟨rfl, rfl, rfl, rfl, fun _ _ _ _ _ => rfl, by omega, fun w => w⟩
theorem qE_w {s s' : vg_S} {ix v : Int32} {n : Nat} {vl : Int64} (ee : s' = vg_u2 s 56 ix.toNatClampNeg vl) (il : vl = v.toInt64) (hix : ix.toNatClampNeg = 23 + n) (hn : n < 4) : qE s' = upd (qE s) n v := by
  funext j
  unfold qE upd
  dsimp only
  by_cases hj : j < 4
  · rw [if_pos hj, if_pos hj, ee, q_u2if]
    by_cases hjn : j = n
    · rw [if_pos (by omega), if_pos hjn, il, Int32.toInt32_toInt64]
    · rw [if_neg (by omega), if_neg hjn]
  · rw [if_neg hj, if_neg (by omega), if_neg hj]
theorem qE_at {s : vg_S} {ix g : Int32} {n : Nat} (hg : g = (s.2 56 ix.toNatClampNeg).toInt32) (hix : ix.toNatClampNeg = 23 + n) (hn : n < 4) : g = qE s n := by
  unfold qE
  rw [if_pos hn, hg, hix]
theorem q_bs1 {z s t s' : vg_S} {u c i ixa ixb ixc g a gV b v c' i' : Int32} {vl : Int64} (h : q_bsI z s u c i) (y1 : g = (s.2 56 ixb.toNatClampNeg).toInt32) (y2 : a = g + c) (y3 : gV = (s.2 56 (Int32.ofInt 2).toNatClampNeg).toInt32) (y4 : b = a - gV) (y5 : v = q_held (s.1 55 11) b) (k : qh s t) (y6 : t.2 56 144 = cond (q_ht b v) (Int64.ofNat 1) (s.2 56 144)) (il : vl = v.toInt64) (ee : s' = vg_u2 t 56 ixa.toNatClampNeg vl) (y7 : c' = (s'.2 56 ixc.toNatClampNeg).toInt32) (h0 : 0 ≤ i.toInt) (h3 : i.toInt ≤ 3) (ha : ixa.toInt = 23 + i.toInt) (hb : ixb.toInt = 23 + i.toInt) (hc : ixc.toInt = 23 + i.toInt) (hN : i.toInt < (z.1 55 8).toInt) (hi' : i'.toInt = i.toInt + 1) : q_bsI z s' u c' i' := by
  obtain ⟨h1, h2, hh, h4, h5, h6, h8⟩ := h
  have c1 : i.toNatClampNeg = i.toInt.toNat := rfl
  have c2 : i'.toNatClampNeg = i'.toInt.toNat := rfl
  have d1 : ixa.toNatClampNeg = ixa.toInt.toNat := rfl
  have d2 : ixb.toNatClampNeg = ixb.toInt.toNat := rfl
  have d3 : ixc.toNatClampNeg = ixc.toInt.toNat := rfl
  have hgE := qE_at (n := i.toNatClampNeg) y1 (by omega) (by omega)
  have hgV : gV = qV z := by
    rw [y3, q_m2, h5 2 (by decide) (by decide) (by decide) (by omega)]
    rfl
  have hbb : b = (q_sm (z.1 55 11) (qV z) u (qE z) i.toNatClampNeg).1 i.toNatClampNeg + (q_sm (z.1 55 11) (qV z) u (qE z) i.toNatClampNeg).2.1 - qV z := by
    rw [y4, y2, hgE, hgV, h1, h2]
  rw [h4] at y5
  have hE1 : qE t = qE s := qE_eq (fun j _ _ => k.2 j (by omega) (by omega) (by omega))
  have hE2 := qE_w (n := i.toNatClampNeg) ee il (by omega) (by omega)
  have hc' := qE_at (n := i.toNatClampNeg) y7 (by omega) (by omega)
  have hcv : c' = v := by
    rw [hc', hE2]
    simp only [upd, if_true]
  unfold q_bsI
  rw [show i'.toNatClampNeg = i.toNatClampNeg + 1 by omega, q_sm]
  dsimp only
  rw [← hbb, ← y5]
  refine ⟨by rw [hE2, hE1, h1], hcv, ?_, by rw [ee, vg_u2_1, k.1]; exact h4, fun j g1 g2 g3 g4 => ?_, by omega, fun w => qW_w ee (qW_i il) (qW_h k (h8 w))⟩
  · rw [ee, q_u2if, if_neg (by omega), y6, hh]
    exact q_cond
  · rw [ee, q_u2if, if_neg (by omega), k.2 j g1 g2 g3]
    exact h5 j g1 g2 g3 g4
theorem q_bs2 {z s : vg_S} {u c i d cd v : Int32} (h : q_bsI z s u c i) (y9 : cd = c + d) (hv : v = q_near (s.1 55 9) (s.1 55 10) cd) (hN : (z.1 55 8).toInt ≤ i.toInt) : q_ry z s v (q_yS (q_plR z) u d (qE z) (qP z) (qV z)) := by
  obtain ⟨h1, h2, hh, h4, h5, h6, h8⟩ := h
  have hi : i = z.1 55 8 := vg_eqi (by omega)
  rw [hi] at h1 h2 hh
  refine ⟨?_, h1, qP_eq (fun j g1 g2 => h5 j (by omega) (by omega) (by omega) (by omega)), hh, h4, h5 2 (by decide) (by decide) (by decide) (by omega), fun j hj => h5 j ?_ ?_ ?_ ?_, h8⟩
  · rw [hv, y9, h2, h4]
    rfl
  · unfold q_un at hj; omega
  · unfold q_un at hj; omega
  · unfold q_un at hj; omega
  · unfold q_un at hj; omega
/-- a cascade: ahead of each small loop -/
def q_rF (z : vg_S) (u d : Int32) (n : Nat) : q_F := q_cF (q_plR z) u d (qE z) (qP z) n
def q_bcK (z s : vg_S) : Prop := s.1 = z.1 ∧ s.2 56 2 = z.2 56 2 ∧ (∀ j : Nat, q_un j → s.2 56 j = z.2 56 j) ∧ (qW z → qW s)
def q_bcI (z s : vg_S) (u d c y i : Int32) : Prop := qE s = (q_rF z u d i.toNatClampNeg).1 ∧ qP s = (q_rF z u d i.toNatClampNeg).2.1 ∧ c = (q_rF z u d i.toNatClampNeg).2.2.1 ∧ y = (q_rF z u d i.toNatClampNeg).2.2.2.1 ∧ s.2 56 144 = cond (q_rF z u d i.toNatClampNeg).2.2.2.2 (Int64.ofNat 1) (z.2 56 144) ∧ q_bcK z s ∧ i.toInt ≤ (z.1 55 8).toInt
theorem q_bc0 {z : vg_S} {u d b : Int32} (h : 1 ≤ (z.1 55 8).toInt) (hb : b = q_bes (z.1 55 7) (z.1 55 8) (z.1 55 10)) : q_bcI z z u d u b (Int32.ofInt 0) := by
  have h0 : (Int32.ofInt 0).toInt = 0 := by decide
  unfold q_bcI
  rw [q_n0]
  exact ⟨rfl, rfl, rfl, hb, rfl, ⟨rfl, rfl, fun _ _ => rfl, fun w => w⟩, by omega⟩
/-- within a small loop: its out is o, what is left is v -/
def q_bcJ (z s : vg_S) (u d c o i : Int32) : Prop := qE s = (q_rF z u d (i.toNatClampNeg + 1)).1 ∧ c = (q_rF z u d (i.toNatClampNeg + 1)).2.2.1 ∧ o = q_co (z.1 55 9) (z.1 55 10) d i.toNatClampNeg (q_rF z u d i.toNatClampNeg) ∧ s.2 56 144 = cond (q_rF z u d (i.toNatClampNeg + 1)).2.2.2.2 (Int64.ofNat 1) (z.2 56 144) ∧ q_bcK z s ∧ i.toInt < (z.1 55 8).toInt
theorem q_rF1 {z : vg_S} {u d : Int32} {n : Nat} : q_rF z u d (n + 1) = (upd (q_rF z u d n).1 n (q_held (z.1 55 11) (q_cx (z.1 55 9) (z.1 55 10) d n (q_rF z u d n))), q_pp n (q_co (z.1 55 9) (z.1 55 10) d n (q_rF z u d n)) (q_rF z u d n).2.1, q_held (z.1 55 11) (q_cx (z.1 55 9) (z.1 55 10) d n (q_rF z u d n)), (q_rF z u d n).2.2.2.1 + q_df n (q_co (z.1 55 9) (z.1 55 10) d n (q_rF z u d n)) (q_rF z u d n).2.1, (q_rF z u d n).2.2.2.2 || q_ht (q_cx (z.1 55 9) (z.1 55 10) d n (q_rF z u d n)) (q_held (z.1 55 11) (q_cx (z.1 55 9) (z.1 55 10) d n (q_rF z u d n)))) := rfl
def q_bcA (z s : vg_S) (u d c y o sh i j : Int32) : Prop := q_bcJ z s u d c o i ∧ qP s = (q_rF z u d i.toNatClampNeg).2.1 ∧ sh = Int32.ofInt (q_bn i.toInt.toNat (j.toInt - 1).toNat) ∧ y = q_ys i.toInt.toNat (q_rF z u d i.toNatClampNeg).2.1 ((q_rF z u d i.toNatClampNeg).2.2.2.1 + o) (j.toInt - 1).toNat ∧ j.toInt ≤ i.toInt + 1
theorem q_bcA0 {z s t s' : vg_S} {u d c y i ixb g w arg o val x v ixa ixc c' y' sh j : Int32} {vl : Int64} (h : q_bcI z s u d c y i) (y1 : g = (s.2 56 ixb.toNatClampNeg).toInt32) (y2 : w = c + g) (ya : arg = if i.toNatClampNeg = 0 then w + d else w) (y3 : o = q_near (s.1 55 9) (s.1 55 10) arg) (y4 : val = q_val (s.1 55 9) (s.1 55 10) o) (y5 : x = w - val) (y6 : v = q_held (s.1 55 11) x) (k : qh s t) (hh : t.2 56 144 = cond (q_ht x v) (Int64.ofNat 1) (s.2 56 144)) (il : vl = v.toInt64) (ee : s' = vg_u2 t 56 ixa.toNatClampNeg vl) (y7 : c' = (s'.2 56 ixc.toNatClampNeg).toInt32) (y8 : y' = y + o) (hsh : sh = Int32.ofInt 1) (hj : j.toInt = 1) (h0 : 0 ≤ i.toInt) (h3 : i.toInt ≤ 3) (ha : ixa.toInt = 23 + i.toInt) (hb : ixb.toInt = 23 + i.toInt) (hc : ixc.toInt = 23 + i.toInt) (hN : i.toInt < (z.1 55 8).toInt) : q_bcA z s' u d c' y' o sh i j := by
  obtain ⟨h1, h2, h3', h4, h5, ⟨h6, h7, h8, hw8⟩, h9⟩ := h
  have c1 : i.toNatClampNeg = i.toInt.toNat := rfl
  have d1 : ixa.toNatClampNeg = ixa.toInt.toNat := rfl
  have d2 : ixb.toNatClampNeg = ixb.toInt.toNat := rfl
  have d3 : ixc.toNatClampNeg = ixc.toInt.toNat := rfl
  have hgE := qE_at (n := i.toNatClampNeg) y1 (by omega) (by omega)
  have hE1 : qE t = qE s := qE_eq (fun j _ _ => k.2 j (by omega) (by omega) (by omega))
  have hE2 := qE_w (n := i.toNatClampNeg) ee il (by omega) (by omega)
  have hc' := qE_at (n := i.toNatClampNeg) y7 (by omega) (by omega)
  have hcv : c' = v := by
    rw [hc', hE2]
    simp only [upd, if_true]
  rw [h6] at y3 y4 y6
  have hk : ∀ q : Nat, q ≠ 3 → q ≠ 5 → q ≠ 144 → ¬ (23 ≤ q ∧ q ≤ 26) → s'.2 56 q = s.2 56 q := fun q g1 g2 g3 g4 => by
    rw [ee, q_u2if, if_neg (by omega)]
    exact k.2 q g1 g2 g3
  have hP : qP s' = qP s := qP_eq (fun q g1 g2 => hk q (by omega) (by omega) (by omega) (by omega))
  unfold q_bcA q_bcJ
  rw [q_rF1]
  generalize q_rF z u d i.toNatClampNeg = F at *
  have hw : w = q_cw i.toNatClampNeg F := by rw [y2, hgE, h1, h3']; rfl
  have ho : o = q_co (z.1 55 9) (z.1 55 10) d i.toNatClampNeg F := by rw [y3, ya, hw]; rfl
  have hx : x = q_cx (z.1 55 9) (z.1 55 10) d i.toNatClampNeg F := by rw [y5, y4, ho, hw]; rfl
  dsimp only
  rw [← ho, ← hx, ← y6]
  refine ⟨⟨by rw [hE2, hE1, h1], hcv, rfl, ?_, ⟨?_, ?_, fun q hq => ?_, fun w0 => qW_w ee (qW_i il) (qW_h k (hw8 w0))⟩, by omega⟩, by rw [hP, h2], ?_, ?_, by omega⟩
  · rw [ee, q_u2if, if_neg (by omega), hh, h5]
    exact q_cond
  · rw [ee, vg_u2_1, k.1]; exact h6
  · rw [hk 2 (by decide) (by decide) (by decide) (by omega)]; exact h7
  · rw [hk q (by unfold q_un at hq; omega) (by unfold q_un at hq; omega) (by unfold q_un at hq; omega) (by unfold q_un at hq; omega)]
    exact h8 q hq
  · rw [hsh, hj, show (1 - 1 : Int).toNat = 0 from rfl]
    cases i.toInt.toNat <;> rfl
  · rw [hj, y8, h4]
    rfl
theorem q_bcA1 {z s : vg_S} {u d c y o sh i j m1 m2 m3 sh' rm cc ix g tm y' j' : Int32} (h : q_bcA z s u d c y o sh i j) (h0 : 0 ≤ i.toInt) (h3 : i.toInt ≤ 3) (hj : 1 ≤ j.toInt ∧ j.toInt ≤ i.toInt) (e1 : m1 = i + Int32.ofInt 1) (e2 : m2 = m1 - j) (e3 : m3 = sh * m2) (e4 : sh' = m3 / j) (e5 : rm = j - j / Int32.ofInt 2 * Int32.ofInt 2) (hc : ((rm.toInt = 1) = (false = true) ∧ cc = sh') ∨ ((rm.toInt = 1) = (false = false) ∧ cc = -sh')) (hg : g = (s.2 56 ix.toNatClampNeg).toInt32) (hix : ix.toInt = 26 + 3 * i.toInt + j.toInt) (e6 : tm = cc * g) (e7 : y' = y + tm) (hj' : j'.toInt = j.toInt + 1) : q_bcA z s u d c y' o sh' i j' := by
  obtain ⟨hJ, hP, hs, hy, hj2⟩ := h
  have c1 : ix.toNatClampNeg = ix.toInt.toNat := rfl
  have hs' := q_shs (N := i) ⟨by omega, by omega⟩ hj hs e1 e2 e3 e4
  have hcc := q_sgn (b := false) ⟨by omega, by omega⟩ hs' e5 hc
  have hge : g = (q_rF z u d i.toNatClampNeg).2.1 (q_ix i.toInt.toNat (j.toInt - 1).toNat) := by
    rw [← hP, hg]
    rcases (show (i.toInt = 1 ∧ j.toInt = 1) ∨ (i.toInt = 2 ∧ j.toInt = 1) ∨ (i.toInt = 2 ∧ j.toInt = 2) ∨ (i.toInt = 3 ∧ j.toInt = 1) ∨ (i.toInt = 3 ∧ j.toInt = 2) ∨ (i.toInt = 3 ∧ j.toInt = 3) by omega) with ⟨a, b⟩ | ⟨a, b⟩ | ⟨a, b⟩ | ⟨a, b⟩ | ⟨a, b⟩ | ⟨a, b⟩
    · rw [a, b, show ix.toNatClampNeg = 30 by omega]; rfl
    · rw [a, b, show ix.toNatClampNeg = 33 by omega]; rfl
    · rw [a, b, show ix.toNatClampNeg = 34 by omega]; rfl
    · rw [a, b, show ix.toNatClampNeg = 36 by omega]; rfl
    · rw [a, b, show ix.toNatClampNeg = 37 by omega]; rfl
    · rw [a, b, show ix.toNatClampNeg = 38 by omega]; rfl
  refine ⟨hJ, hP, ?_, ?_, by omega⟩
  · rw [hs']
    exact congrArg (fun q => Int32.ofInt (q_bn i.toInt.toNat q)) (by omega)
  · rw [show (j'.toInt - 1).toNat = (j.toInt - 1).toNat + 1 by omega, q_ys, e7, e6, hcc, hy, hge, show (j.toInt - 1).toNat + 1 = j.toInt.toNat by omega]
/-- what was told moves on -/
def q_bcB (z s : vg_S) (u d c y o i j : Int32) : Prop := q_bcJ z s u d c o i ∧ qP s = q_pj i.toInt.toNat j.toInt.toNat (q_rF z u d i.toNatClampNeg).2.1 ∧ y = (q_rF z u d (i.toNatClampNeg + 1)).2.2.2.1 ∧ j.toInt ≤ i.toInt - 1
theorem q_bcB0 {z s : vg_S} {u d c y o sh i j j' : Int32} (h : q_bcA z s u d c y o sh i j) (h0 : 0 ≤ i.toInt) (h3 : i.toInt ≤ 3) (hj : i.toInt < j.toInt) (hj' : j'.toInt = i.toInt - 1) : q_bcB z s u d c y o i j' := by
  obtain ⟨hJ, hP, hs, hy, hj2⟩ := h
  have c1 : i.toNatClampNeg = i.toInt.toNat := rfl
  refine ⟨hJ, ?_, ?_, by omega⟩
  · rw [hP]
    rcases (show i.toInt = 0 ∨ i.toInt = 1 ∨ i.toInt = 2 ∨ i.toInt = 3 by omega) with a | a | a | a
    · rw [a, show j'.toInt.toNat = 0 by omega]; rfl
    · rw [a, show j'.toInt.toNat = 0 by omega]; rfl
    · rw [a, show j'.toInt.toNat = 1 by omega]; rfl
    · rw [a, show j'.toInt.toNat = 2 by omega]; rfl
  · rw [q_rF1, hy, show (j.toInt - 1).toNat = i.toInt.toNat by omega, q_ys_df (by omega), hJ.2.2.1, c1]
theorem qP_w {s s' : vg_S} {m n : Nat} {vl : Int64} (ee : s' = vg_u2 s 56 m vl) (hm : m = q_pi n) (hn : n < 6) : qP s' = upd (qP s) n vl.toInt32 := by
  funext j
  unfold qP upd
  dsimp only
  by_cases hj : j < 6
  · rw [if_pos hj, if_pos hj, ee, q_u2if]
    by_cases hjn : j = n
    · rw [if_pos (by rw [hjn, hm]), if_pos hjn]
    · rw [if_neg ?_, if_neg hjn]
      rw [hm]
      rcases (show j = 0 ∨ j = 1 ∨ j = 2 ∨ j = 3 ∨ j = 4 ∨ j = 5 by omega) with h | h | h | h | h | h <;> rcases (show n = 0 ∨ n = 1 ∨ n = 2 ∨ n = 3 ∨ n = 4 ∨ n = 5 by omega) with g | g | g | g | g | g <;> subst h <;> subst g <;> first | (exact absurd rfl hjn) | decide
  · rw [if_neg hj, if_neg (by omega), if_neg hj]
theorem q_bcJ_w {z s s' : vg_S} {u d c o i : Int32} {m : Nat} {vl : Int64} (h : q_bcJ z s u d c o i) (ee : s' = vg_u2 s 56 m vl) (hm : 30 ≤ m ∧ m ≤ 38 ∧ ¬ q_un m) (hv : qW s → vl = vl.toInt32.toInt64) : q_bcJ z s' u d c o i := by
  obtain ⟨h1, h2, h3, h4, ⟨h5, h6, h7, hw7⟩, h8⟩ := h
  refine ⟨?_, h2, h3, ?_, ⟨by rw [ee, vg_u2_1]; exact h5, ?_, fun j hj => ?_, fun w0 => qW_w ee (hv (hw7 w0)) (hw7 w0)⟩, h8⟩
  · rw [← h1]
    exact qE_eq (fun j _ _ => by rw [ee, q_u2if, if_neg (by omega)])
  · rw [ee, q_u2if, if_neg (by omega)]; exact h4
  · rw [ee, q_u2if, if_neg (by omega)]; exact h6
  · rw [ee, q_u2if, if_neg (by intro q; rw [q] at hj; exact hm.2.2 hj)]
    exact h7 j hj
theorem q_bcB1 {z s s' : vg_S} {u d c y o i j ixa ixb j' : Int32} {v : Int64} (h : q_bcB z s u d c y o i j) (ae : v = s.2 56 ixb.toNatClampNeg) (ee : s' = vg_u2 s 56 ixa.toNatClampNeg v) (h0 : 0 ≤ i.toInt) (h3 : i.toInt ≤ 3) (hj : 0 < j.toInt) (ha : ixa.toInt = 27 + 3 * i.toInt + j.toInt) (hb : ixb.toInt = 26 + 3 * i.toInt + j.toInt) (hj' : j'.toInt = j.toInt - 1) : q_bcB z s' u d c y o i j' := by
  obtain ⟨hJ, hP, hy, hj2⟩ := h
  have c1 : ixa.toNatClampNeg = ixa.toInt.toNat := rfl
  have c2 : ixb.toNatClampNeg = ixb.toInt.toNat := rfl
  rcases (show (i.toInt = 2 ∧ j.toInt = 1) ∨ (i.toInt = 3 ∧ j.toInt = 2) ∨ (i.toInt = 3 ∧ j.toInt = 1) by omega) with ⟨a, b⟩ | ⟨a, b⟩ | ⟨a, b⟩
  · rw [show ixa.toNatClampNeg = 34 by omega] at ee
    rw [show ixb.toNatClampNeg = 33 by omega] at ae
    have hv : v.toInt32 = qP s 1 := by rw [ae]; rfl
    refine ⟨q_bcJ_w hJ ee (by unfold q_un; omega) (fun w0 => by rw [ae]; exact w0 _ (by omega)), ?_, hy, by omega⟩
    rw [qP_w (n := 2) ee rfl (by decide), hv, hP, a, b, show j'.toInt.toNat = 0 by omega]
    rfl
  · rw [show ixa.toNatClampNeg = 38 by omega] at ee
    rw [show ixb.toNatClampNeg = 37 by omega] at ae
    have hv : v.toInt32 = qP s 4 := by rw [ae]; rfl
    refine ⟨q_bcJ_w hJ ee (by unfold q_un; omega) (fun w0 => by rw [ae]; exact w0 _ (by omega)), ?_, hy, by omega⟩
    rw [qP_w (n := 5) ee rfl (by decide), hv, hP, a, b, show j'.toInt.toNat = 1 by omega]
    rfl
  · rw [show ixa.toNatClampNeg = 37 by omega] at ee
    rw [show ixb.toNatClampNeg = 36 by omega] at ae
    have hv : v.toInt32 = qP s 3 := by rw [ae]; rfl
    refine ⟨q_bcJ_w hJ ee (by unfold q_un; omega) (fun w0 => by rw [ae]; exact w0 _ (by omega)), ?_, hy, by omega⟩
    rw [qP_w (n := 4) ee rfl (by decide), hv, hP, a, b, show j'.toInt.toNat = 0 by omega]
    rfl
theorem q_bcJI {z s : vg_S} {u d c y o i i' : Int32} (hJ : q_bcJ z s u d c o i) (hP : qP s = (q_rF z u d (i.toNatClampNeg + 1)).2.1) (hy : y = (q_rF z u d (i.toNatClampNeg + 1)).2.2.2.1) (h0 : 0 ≤ i.toInt) (hi' : i'.toInt = i.toInt + 1) : q_bcI z s u d c y i' := by
  have c1 : i.toNatClampNeg = i.toInt.toNat := rfl
  have c2 : i'.toNatClampNeg = i'.toInt.toNat := rfl
  unfold q_bcI
  rw [show i'.toNatClampNeg = i.toNatClampNeg + 1 by omega]
  obtain ⟨h1, h2, h3, h4, h5, h8⟩ := hJ
  exact ⟨h1, hP, h2, hy, h4, h5, by omega⟩
theorem q_bcI0 {z s : vg_S} {u d c y o i j i' : Int32} (h : q_bcB z s u d c y o i j) (hi : i.toInt = 0) (hi' : i'.toInt = i.toInt + 1) : q_bcI z s u d c y i' := by
  obtain ⟨hJ, hP, hy, hj2⟩ := h
  have c1 : i.toNatClampNeg = i.toInt.toNat := rfl
  refine q_bcJI hJ ?_ hy (by omega) hi'
  rw [hP, q_rF1, hi, show i.toNatClampNeg = 0 by omega, show j.toInt.toNat = 0 by omega]
  rfl
theorem q_bcI1 {z s s' : vg_S} {u d c y o i j ix i' : Int32} {vl : Int64} (h : q_bcB z s u d c y o i j) (il : vl = o.toInt64) (ee : s' = vg_u2 s 56 ix.toNatClampNeg vl) (hi : 0 < i.toInt) (h3 : i.toInt ≤ 3) (hj : j.toInt ≤ 0) (hix : ix.toInt = 27 + 3 * i.toInt) (hi' : i'.toInt = i.toInt + 1) : q_bcI z s' u d c y i' := by
  obtain ⟨hJ, hP, hy, hj2⟩ := h
  have c1 : i.toNatClampNeg = i.toInt.toNat := rfl
  have c2 : ix.toNatClampNeg = ix.toInt.toNat := rfl
  have ho := hJ.2.2.1
  have hv : vl.toInt32 = o := by rw [il]; exact Int32.toInt32_toInt64 o
  have hj0 : j.toInt.toNat = 0 := by omega
  rw [hj0] at hP
  rcases (show i.toInt = 1 ∨ i.toInt = 2 ∨ i.toInt = 3 by omega) with a | a | a
  · rw [show ix.toNatClampNeg = 30 by omega] at ee
    refine q_bcJI (q_bcJ_w hJ ee (by unfold q_un; omega) (fun _ => qW_i il)) ?_ hy (by omega) hi'
    rw [qP_w (n := 0) ee rfl (by decide), hv, hP, q_rF1, ho, show i.toInt.toNat = 1 by omega, show i.toNatClampNeg = 1 by omega]
    rfl
  · rw [show ix.toNatClampNeg = 33 by omega] at ee
    refine q_bcJI (q_bcJ_w hJ ee (by unfold q_un; omega) (fun _ => qW_i il)) ?_ hy (by omega) hi'
    rw [qP_w (n := 1) ee rfl (by decide), hv, hP, q_rF1, ho, show i.toInt.toNat = 2 by omega, show i.toNatClampNeg = 2 by omega]
    rfl
  · rw [show ix.toNatClampNeg = 36 by omega] at ee
    refine q_bcJI (q_bcJ_w hJ ee (by unfold q_un; omega) (fun _ => qW_i il)) ?_ hy (by omega) hi'
    rw [qP_w (n := 3) ee rfl (by decide), hv, hP, q_rF1, ho, show i.toInt.toNat = 3 by omega, show i.toNatClampNeg = 3 by omega]
    rfl
theorem q_bc2 {z s : vg_S} {u d c y i : Int32} (h : q_bcI z s u d c y i) (hN : (z.1 55 8).toInt ≤ i.toInt) : q_ry z s y (q_yC (q_plR z) u d (qE z) (qP z)) := by
  obtain ⟨h1, h2, h3, h4, h5, ⟨h6, h7, h8, hw8⟩, h9⟩ := h
  have hi : i = z.1 55 8 := vg_eqi (by omega)
  rw [hi] at h1 h2 h4 h5
  exact ⟨h4, h1, h2, h5, h6, h7, h8, hw8⟩
