/-! the loop: its values, the nearest, what is held -/
def vl_val (S L y : Int) : Int := S * (2 * y + 1 - L)
def vl_abs (x : Int) : Int := if 0 ≤ x then x else -x
def vl_best (S L w : Int) : Nat → Int
  | 0 => 0
  | n + 1 => if vl_abs (vl_val S L ((n : Int) + 1) - w) < vl_abs (vl_val S L (vl_best S L w n) - w) then (n : Int) + 1 else vl_best S L w n
def vl_near (S L w : Int) : Int := vl_best S L w (L - 1).toNat
def vl_hold (M v : Int) : Int := if M < v then M else if v < -M then -M else v
theorem vl_best_rng {S L w : Int} : ∀ n : Nat, 0 ≤ vl_best S L w n ∧ vl_best S L w n ≤ (n : Int)
  | 0 => ⟨Int.le_refl 0, Int.le_refl 0⟩
  | n + 1 => by
    have h := vl_best_rng (S := S) (L := L) (w := w) n
    rw [vl_best]
    split <;> omega
theorem vl_val_step {S L y : Int} : vl_val S L (y + 1) = vl_val S L y + 2 * S := by
  unfold vl_val
  rw [show 2 * (y + 1) + 1 - L = (2 * y + 1 - L) + 2 by omega, Int.mul_add]
  omega
theorem vl_val_mono {S L a b : Int} (hS : 0 < S) (h : a ≤ b) : vl_val S L a + 2 * S * (b - a) = vl_val S L b := by
  unfold vl_val
  rw [show 2 * b + 1 - L = (2 * a + 1 - L) + 2 * (b - a) by omega, Int.mul_add, ← Int.mul_assoc, Int.mul_comm S 2]
/-- midst between y and the next -/
theorem vl_best_eq {S L w c : Int} (hS : 0 < S) (h1 : ∀ y : Int, y < c → vl_val S L y + S < w) (h2 : ∀ y : Int, c ≤ y → w ≤ vl_val S L y + S) : ∀ n : Nat, vl_best S L w n = if c < 0 then 0 else if (n : Int) < c then (n : Int) else c
  | 0 => by
    rw [vl_best]
    split
    · rfl
    · split
      · rfl
      · omega
  | n + 1 => by
    have ih := vl_best_eq hS h1 h2 n
    rw [vl_best, ih]
    by_cases hc : (n : Int) < c
    · -- the next is nearer
      have e : (if c < 0 then (0 : Int) else if (n : Int) < c then (n : Int) else c) = (n : Int) := by
        rw [if_neg (by omega), if_pos hc]
      rw [e]
      have a1 := h1 n hc
      have a2 := vl_val_step (S := S) (L := L) (y := (n : Int))
      rw [if_pos (by unfold vl_abs; split <;> split <;> omega), if_neg (by omega)]
      split <;> omega
    · have hm : ∀ b : Int, 0 ≤ b → b ≤ (n : Int) → c ≤ b → ¬ vl_abs (vl_val S L ((n : Int) + 1) - w) < vl_abs (vl_val S L b - w) := by
        intro b hb0 hb1 hb2
        have a1 := h2 b hb2
        have a2 := vl_val_mono (S := S) (L := L) (a := b) (b := (n : Int) + 1) hS (by omega)
        have a3 : 2 * S * 1 ≤ 2 * S * ((n : Int) + 1 - b) := Int.mul_le_mul_of_nonneg_left (by omega) (by omega)
        unfold vl_abs
        split <;> split <;> omega
      by_cases h0 : c < 0
      · rw [if_pos h0, if_neg (hm 0 (by omega) (by omega) (by omega)), if_pos h0]
      · rw [if_neg h0, if_neg hc, if_neg (hm c (by omega) (by omega) (by omega)), if_neg h0, if_neg (by omega)]
/-- as the class reckons it -/
theorem vl_near_div {S L w q : Int} (hS : 0 < S) (hL : 2 ≤ L) (hq : q = (-(w + S * (L - 2))) / (2 * S)) : vl_near S L w = if -q < 0 then 0 else if L - 1 < -q then L - 1 else -q := by
  have e1 := Int.emod_add_mul_ediv (-(w + S * (L - 2))) (2 * S)
  have e2 := Int.emod_nonneg (-(w + S * (L - 2))) (show 2 * S ≠ 0 by omega)
  have e3 := Int.emod_lt_of_pos (-(w + S * (L - 2))) (show 0 < 2 * S by omega)
  rw [← hq] at e1
  have hv : ∀ y : Int, vl_val S L y + S = 2 * S * y - S * (L - 2) := by
    intro y
    unfold vl_val
    rw [show 2 * y + 1 - L = 2 * y - (L - 2) - 1 by omega, Int.mul_sub, Int.mul_sub, ← Int.mul_assoc, Int.mul_comm S 2]
    omega
  have hlt : ∀ y : Int, y < -q → 2 * S * y + 2 * S ≤ -(2 * S * q) := by
    intro y hy
    have a : 2 * S * (y + 1) ≤ 2 * S * (-q) := Int.mul_le_mul_of_nonneg_left (by omega) (by omega)
    rw [Int.mul_add, Int.mul_neg] at a
    omega
  have hge : ∀ y : Int, -q ≤ y → -(2 * S * q) ≤ 2 * S * y := by
    intro y hy
    have a : 2 * S * (-q) ≤ 2 * S * y := Int.mul_le_mul_of_nonneg_left hy (by omega)
    rw [Int.mul_neg] at a
    omega
  unfold vl_near
  rw [vl_best_eq (c := -q) hS (fun y hy => by rw [hv]; have := hlt y hy; omega) (fun y hy => by rw [hv]; have := hge y hy; omega)]
  rw [show (((L - 1).toNat : Nat) : Int) = L - 1 by omega]
/-! numbers of 32 bits -/
theorem q_ofi {n : Int} (h1 : -2147483648 ≤ n) (h2 : n ≤ 2147483647) : (Int32.ofInt n).toInt = n := Int32.toInt_ofInt_of_le (by omega) (by omega)
theorem q_neg_i {x : Int32} (h : -2147483648 < x.toInt) : (-x).toInt = -x.toInt := by
  have h2 := vg_rng x
  rw [Int32.toInt_neg]
  simp only [Int.bmod]
  omega
theorem q_mulb {x y v : Int32} {a b : Int} (e : v = x * y) (hx : 1 ≤ x.toInt ∧ x.toInt ≤ a) (hy : -b ≤ y.toInt ∧ y.toInt ≤ b) (hb : 0 ≤ b) (hab : a * b ≤ 2147483647) : v.toInt = x.toInt * y.toInt ∧ -(a * b) ≤ x.toInt * y.toInt ∧ x.toInt * y.toInt ≤ a * b := by
  have h1 : x.toInt * y.toInt ≤ x.toInt * b := Int.mul_le_mul_of_nonneg_left hy.2 (by omega)
  have h2 : x.toInt * (-b) ≤ x.toInt * y.toInt := Int.mul_le_mul_of_nonneg_left hy.1 (by omega)
  have h3 : x.toInt * b ≤ a * b := Int.mul_le_mul_of_nonneg_right hx.2 hb
  rw [Int.mul_neg] at h2
  have h4 := vg_mul e (by omega) (by omega)
  exact ⟨h4, by omega, by omega⟩
/-- floors -/
theorem q_fd {x y r : Int32} (e : r = x / y) (hy : 0 < y.toInt) : (0 ≤ x.toInt → r.toInt = x.toInt / y.toInt) ∧ ∀ m : Int32, m = r * y → x.toInt < 0 → ((m.toInt = x.toInt → r.toInt = x.toInt / y.toInt) ∧ (¬ m.toInt = x.toInt → r.toInt - 1 = x.toInt / y.toInt ∧ -2147483648 < r.toInt)) := by
  refine ⟨fun hx => vg_div e hx hy, fun m em hx => ?_⟩
  have h2 := vg_rng x
  have h2y := vg_rng y
  have d1 := Int.emod_add_mul_ediv (-x.toInt) y.toInt
  have d2 := Int.emod_nonneg (-x.toInt) (show y.toInt ≠ 0 by omega)
  have d3 := Int.emod_lt_of_pos (-x.toInt) hy
  have d4 : 0 ≤ (-x.toInt) / y.toInt := Int.ediv_nonneg (by omega) (by omega)
  have d5 : (-x.toInt) / y.toInt ≤ -x.toInt := Int.ediv_le_self _ (by omega)
  have hr : r.toInt = -((-x.toInt) / y.toInt) := by
    have hq : x.toInt.tdiv y.toInt = - ((- x.toInt) / y.toInt) := by
      rw [← Int.tdiv_eq_ediv_of_nonneg (by omega), Int.neg_tdiv, Int.neg_neg]
    rw [e, Int32.toInt_div, hq]
    generalize (- x.toInt) / y.toInt = z at d4 d5
    simp only [Int.bmod]
    omega
  generalize (- x.toInt) / y.toInt = D at *
  generalize (- x.toInt) % y.toInt = R at *
  have d6 : D * 1 ≤ D * y.toInt := Int.mul_le_mul_of_nonneg_left (by omega) d4
  have d7 : D * y.toInt = y.toInt * D := Int.mul_comm _ _
  have hm : m.toInt = -(y.toInt * D) := by
    have h : r.toInt * y.toInt = -(y.toInt * D) := by rw [hr, Int.neg_mul, d7]
    have := vg_mul em (by rw [h]; omega) (by rw [h]; omega)
    rw [this, h]
  refine ⟨fun hx2 => ?_, fun hx2 => ⟨?_, by omega⟩⟩
  · rw [hr]
    refine (((Int.ediv_emod_unique (a := x.toInt) (b := y.toInt) (r := 0) (q := -D) hy).mpr ⟨?_, by omega, by omega⟩).1).symm
    rw [Int.mul_neg]
    omega
  · rw [hr]
    refine (((Int.ediv_emod_unique (a := x.toInt) (b := y.toInt) (r := y.toInt - R) (q := -D - 1) hy).mpr ⟨?_, by omega, by omega⟩).1).symm
    rw [Int.mul_sub, Int.mul_neg]
    omega
/-! the loop, as the reference reckons it -/
def q_val (S L y : Int32) : Int32 := S * (Int32.ofInt 2 * y + Int32.ofInt 1 - L)
def q_bes (K N L : Int32) : Int32 := if K.toInt = 2 then (L - Int32.ofInt 1) * ((Int32.ofInt 1 <<< ((N - Int32.ofInt 1) &&& (31 : Int32))) - Int32.ofInt 1) else Int32.ofInt 0
def q_abs (x : Int32) : Int32 := if x.toInt < 0 then -x else x
def q_best (S L w : Int32) : Nat → Int32
  | 0 => Int32.ofInt 0
  | n + 1 => if (q_abs (q_val S L (Int32.ofInt ((n : Int) + 1)) - w)).toInt < (q_abs (q_val S L (q_best S L w n) - w)).toInt then Int32.ofInt ((n : Int) + 1) else q_best S L w n
def q_near (S L w : Int32) : Int32 := q_best S L w (L.toInt - 1).toNat
def q_held (M v : Int32) : Int32 := if M.toInt < v.toInt then M else if v.toInt < (-M).toInt then -M else v
/-- whether something was lost -/
def q_ht (x v : Int32) : Bool := !(decide (v.toInt = x.toInt))
theorem q_val_i {S L y : Int32} (hS : 1 ≤ S.toInt ∧ S.toInt ≤ 5000) (hL : 2 ≤ L.toInt ∧ L.toInt ≤ 17) (hy : 0 ≤ y.toInt ∧ y.toInt ≤ 16) : (q_val S L y).toInt = vl_val S.toInt L.toInt y.toInt ∧ -250000 ≤ (q_val S L y).toInt ∧ (q_val S L y).toInt ≤ 250000 := by
  have z1 : (Int32.ofInt 1).toInt = 1 := by decide
  obtain ⟨m1, e1⟩ : ∃ m, m = Int32.ofInt 2 * y := ⟨_, rfl⟩
  have b1 : m1.toInt = 2 * y.toInt := vg_mulL e1 (by decide) (by omega) (by omega)
  obtain ⟨m2, e2⟩ : ∃ m, m = m1 + Int32.ofInt 1 := ⟨_, rfl⟩
  have b2 := vg_add e2 (by omega) (by omega)
  obtain ⟨m3, e3⟩ : ∃ m, m = m2 - L := ⟨_, rfl⟩
  have b3 := vg_sub e3 (by omega) (by omega)
  have e : q_val S L y = S * m3 := by rw [q_val, e3, e2, e1]
  have b4 := q_mulb (a := 5000) (b := 50) e hS ⟨by omega, by omega⟩ (by omega) (by decide)
  rw [vl_val, show 2 * y.toInt + 1 - L.toInt = m3.toInt by omega]
  exact ⟨b4.1, by omega, by omega⟩
theorem q_abs_i {x : Int32} (h : -2000000000 ≤ x.toInt) : (q_abs x).toInt = vl_abs x.toInt := by
  unfold q_abs vl_abs
  split
  · rw [if_neg (by omega), q_neg_i (by omega)]
  · rw [if_pos (by omega)]
theorem q_best_i {S L w : Int32} (hS : 1 ≤ S.toInt ∧ S.toInt ≤ 5000) (hL : 2 ≤ L.toInt ∧ L.toInt ≤ 17) (hw : -10000000 ≤ w.toInt ∧ w.toInt ≤ 10000000) : ∀ n : Nat, n ≤ 16 → (q_best S L w n).toInt = vl_best S.toInt L.toInt w.toInt n
  | 0, _ => by
    show (Int32.ofInt 0).toInt = 0
    decide
  | n + 1, hn => by
    have ih := q_best_i hS hL hw n (by omega)
    have hr := vl_best_rng (S := S.toInt) (L := L.toInt) (w := w.toInt) n
    have hy : (Int32.ofInt ((n : Int) + 1)).toInt = (n : Int) + 1 := q_ofi (by omega) (by omega)
    have v1 := q_val_i hS hL (y := Int32.ofInt ((n : Int) + 1)) ⟨by omega, by omega⟩
    have v2 := q_val_i hS hL (y := q_best S L w n) ⟨by omega, by omega⟩
    obtain ⟨d1, e1⟩ : ∃ d, d = q_val S L (Int32.ofInt ((n : Int) + 1)) - w := ⟨_, rfl⟩
    obtain ⟨d2, e2⟩ : ∃ d, d = q_val S L (q_best S L w n) - w := ⟨_, rfl⟩
    have b1 := vg_sub e1 (by omega) (by omega)
    have b2 := vg_sub e2 (by omega) (by omega)
    have a1 := q_abs_i (x := d1) (by omega)
    have a2 := q_abs_i (x := d2) (by omega)
    have c : ((q_abs d1).toInt < (q_abs d2).toInt) ↔ (vl_abs (vl_val S.toInt L.toInt ((n : Int) + 1) - w.toInt) < vl_abs (vl_val S.toInt L.toInt (vl_best S.toInt L.toInt w.toInt n) - w.toInt)) := by
      rw [a1, a2, b1, b2, v1.1, v2.1, hy, ih]
    rw [q_best, vl_best, ← e1, ← e2]
    by_cases hc : (q_abs d1).toInt < (q_abs d2).toInt
    · rw [if_pos hc, if_pos (c.mp hc)]
      exact hy
    · rw [if_neg hc, if_neg (fun h => hc (c.mpr h))]
      exact ih
/-- as the class reckons it -/
theorem q_near_cl {S L w m1 m2 m3 m4 m5 q y l1 a v : Int32} (hS : 1 ≤ S.toInt ∧ S.toInt ≤ 5000) (hL : 2 ≤ L.toInt ∧ L.toInt ≤ 17) (hw : -10000000 ≤ w.toInt ∧ w.toInt ≤ 10000000) (e1 : m1 = L - Int32.ofInt 2) (e2 : m2 = S * m1) (e3 : m3 = w + m2) (e4 : m4 = -m3) (e5 : m5 = Int32.ofInt 2 * S) (e6 : q.toInt = m4.toInt / m5.toInt) (e7 : y = -q) (e8 : l1 = L - Int32.ofInt 1) (e9 : a.toInt ≤ l1.toInt ∧ a.toInt ≤ y.toInt ∧ (a.toInt = l1.toInt ∨ a.toInt = y.toInt)) (e10 : (Int32.ofInt 0).toInt ≤ v.toInt ∧ a.toInt ≤ v.toInt ∧ (v.toInt = (Int32.ofInt 0).toInt ∨ v.toInt = a.toInt)) : v = q_near S L w := by
  have z0 : (Int32.ofInt 0).toInt = 0 := by decide
  have z1 : (Int32.ofInt 1).toInt = 1 := by decide
  have z2 : (Int32.ofInt 2).toInt = 2 := by decide
  have b1 := vg_sub e1 (by omega) (by omega)
  rw [z2] at b1
  have b2 := q_mulb (a := 5000) (b := 15) e2 hS ⟨by omega, by omega⟩ (by omega) (by decide)
  have b3 := vg_add e3 (by omega) (by omega)
  have b4 : m4.toInt = -m3.toInt := by rw [e4]; exact q_neg_i (by omega)
  have b5 : m5.toInt = 2 * S.toInt := vg_mulL e5 z2 (by omega) (by omega)
  have b8 := vg_sub e8 (by omega) (by omega)
  have b6 : -40000000 ≤ m4.toInt / m5.toInt := Int.le_ediv_of_mul_le (by omega) (by omega)
  have b7 : y.toInt = -q.toInt := by rw [e7]; exact q_neg_i (by omega)
  have hq : q.toInt = (-(w.toInt + S.toInt * (L.toInt - 2))) / (2 * S.toInt) := by
    rw [e6, b5, b4, b3, b2.1, b1]
  have hn := vl_near_div (by omega) (by omega) hq
  have hb := q_best_i hS hL hw (L.toInt - 1).toNat (by omega)
  refine vg_eqi ?_
  rw [q_near, hb]
  rw [vl_near] at hn
  rw [hn]
  split
  · omega
  · split <;> omega
theorem q_best_up {S L w b y y' v1 d1 a1 v2 d2 a2 : Int32} (h : b = q_best S L w (y.toInt - 1).toNat) (h1 : v1 = q_val S L y) (e1 : d1 = v1 - w) (f1 : a1 = q_abs d1) (h2 : v2 = q_val S L b) (e2 : d2 = v2 - w) (f2 : a2 = q_abs d2) (hy : 1 ≤ y.toInt) (hy' : y'.toInt = y.toInt + 1) : (a1.toInt < a2.toInt → y = q_best S L w (y'.toInt - 1).toNat) ∧ (¬ a1.toInt < a2.toInt → b = q_best S L w (y'.toInt - 1).toNat) := by
  have hn : (y'.toInt - 1).toNat = (y.toInt - 1).toNat + 1 := by omega
  have hc : Int32.ofInt (((y.toInt - 1).toNat : Int) + 1) = y := by
    rw [show (((y.toInt - 1).toNat : Int) + 1) = y.toInt by omega]
    exact Int32.ofInt_toInt y
  rw [hn, q_best, hc, ← h, ← h1, ← h2, ← e1, ← e2, ← f1, ← f2]
  refine ⟨fun c => ?_, fun c => ?_⟩
  · rw [if_pos c]
  · rw [if_neg c]
theorem q_near_at {S L w b y : Int32} (h : b = q_best S L w (y.toInt - 1).toNat) (hy : y.toInt = L.toInt) : b = q_near S L w := by
  rw [h, q_near, hy]
theorem q_held_rng {M v : Int32} (h : 0 ≤ M.toInt) : -M.toInt ≤ (q_held M v).toInt ∧ (q_held M v).toInt ≤ M.toInt := by
  have h1 := q_neg_i (x := M) (by omega)
  unfold q_held
  split
  · omega
  · split <;> omega
theorem q_held_mm {M v n a b : Int32} (hM : 0 ≤ M.toInt) (e : n = -M) (h1 : a.toInt ≤ M.toInt ∧ a.toInt ≤ v.toInt ∧ (a.toInt = M.toInt ∨ a.toInt = v.toInt)) (h2 : n.toInt ≤ b.toInt ∧ a.toInt ≤ b.toInt ∧ (b.toInt = n.toInt ∨ b.toInt = a.toInt)) : b = q_held M v := by
  have h3 := q_neg_i (x := M) (by omega)
  have h4 : n.toInt = -M.toInt := by rw [e]; exact h3
  refine vg_eqi ?_
  unfold q_held
  split
  · omega
  · split <;> omega
