/-! more of numbers -/
theorem vg_mulL {x y v : Int32} {c : Int} (e : v = x * y) (hc : x.toInt = c) (h1 : -2147483648 ≤ c * y.toInt) (h2 : c * y.toInt ≤ 2147483647) : v.toInt = c * y.toInt := by
  subst hc
  exact vg_mul e h1 h2
theorem vg_mulR {x y v : Int32} {c : Int} (e : v = x * y) (hc : y.toInt = c) (h1 : -2147483648 ≤ x.toInt * c) (h2 : x.toInt * c ≤ 2147483647) : v.toInt = x.toInt * c := by
  subst hc
  exact vg_mul e h1 h2
/-- how many elements a loop has -/
def vg_eo (k o n : Int32) : Int32 := if k.toInt = 2 then (n - Int32.ofInt 1) * ((Int32.ofInt 1 <<< (o &&& (31 : Int32))) - Int32.ofInt 1) else n - Int32.ofInt 1
abbrev vg_af (a : Int32) : Int32 := Int32.ofInt 1 <<< (a &&& (31 : Int32))
/-! sums of rows -/
def vg_rs (f : Nat → Int32) : Nat → Int32
  | 0 => Int32.ofInt 0
  | n + 1 => vg_rs f n + f n
def vg_rw (σ : vg_S) (k : Nat) : Nat → Int32 := match k with
  | 100 => fun j => ([1, 2, 1] : List Int32).getD j 0
  | 101 => fun j => ([-1, 0, 9, 16, 9, 0, -1] : List Int32).getD j 0
  | 102 => fun j => ([3, 0, -25, 0, 150, 256, 150, 0, -25, 0, 3] : List Int32).getD j 0
  | k => σ.1 k
theorem vg_rs_step {f : Nat → Int32} {s t i j v : Int32} (h : s = vg_rs f i.toNatClampNeg) (hv : v = f i.toNatClampNeg) (ht : t = s + v) (hi : 0 ≤ i.toInt) (hj : j.toInt = i.toInt + 1) : t = vg_rs f j.toNatClampNeg := by
  have h1 : i.toNatClampNeg = i.toInt.toNat := rfl
  have h2 : j.toNatClampNeg = j.toInt.toNat := rfl
  have h3 : j.toNatClampNeg = i.toNatClampNeg + 1 := by omega
  rw [h3, vg_rs, ht, h, hv]
theorem vg_rs_at {f : Nat → Int32} {v i : Int32} {n : Nat} (h : v = vg_rs f i.toNatClampNeg) (hi : i.toInt = (n : Int)) : v = vg_rs f n := by
  have h1 : i.toNatClampNeg = i.toInt.toNat := rfl
  rw [h, show i.toNatClampNeg = n by omega]
theorem vg_sum7 {f : Nat → Int32} {a b c d : Int32} (h : f 0 = a ∧ f 1 = b ∧ f 2 = c ∧ f 3 = d ∧ f 4 = c ∧ f 5 = b ∧ f 6 = a) (ha : -999 ≤ a.toInt ∧ a.toInt ≤ 999) (hb : -999 ≤ b.toInt ∧ b.toInt ≤ 999) (hc : -999 ≤ c.toInt ∧ c.toInt ≤ 999) (hd : -999 ≤ d.toInt ∧ d.toInt ≤ 999) : (vg_rs f 7).toInt = 2 * (a.toInt + b.toInt + c.toInt) + d.toInt := by
  obtain ⟨h0, h1, h2, h3, h4, h5, h6⟩ := h
  simp only [vg_rs, h0, h1, h2, h3, h4, h5, h6]
  have z0 : (Int32.ofInt 0).toInt = 0 := by decide
  obtain ⟨s1, e1⟩ : ∃ s, s = Int32.ofInt 0 + a := ⟨_, rfl⟩
  have b1 := vg_add e1 (by omega) (by omega)
  rw [← e1]
  obtain ⟨s2, e2⟩ : ∃ s, s = s1 + b := ⟨_, rfl⟩
  have b2 := vg_add e2 (by omega) (by omega)
  rw [← e2]
  obtain ⟨s3, e3⟩ : ∃ s, s = s2 + c := ⟨_, rfl⟩
  have b3 := vg_add e3 (by omega) (by omega)
  rw [← e3]
  obtain ⟨s4, e4⟩ : ∃ s, s = s3 + d := ⟨_, rfl⟩
  have b4 := vg_add e4 (by omega) (by omega)
  rw [← e4]
  obtain ⟨s5, e5⟩ : ∃ s, s = s4 + c := ⟨_, rfl⟩
  have b5 := vg_add e5 (by omega) (by omega)
  rw [← e5]
  obtain ⟨s6, e6⟩ : ∃ s, s = s5 + b := ⟨_, rfl⟩
  have b6 := vg_add e6 (by omega) (by omega)
  rw [← e6]
  obtain ⟨s7, e7⟩ : ∃ s, s = s6 + a := ⟨_, rfl⟩
  have b7 := vg_add e7 (by omega) (by omega)
  rw [← e7]
  omega
theorem vg_u1_if {σ : vg_S} {k i j : Nat} {x : Int32} : (vg_u1 σ k i x).1 k j = if j = i then x else σ.1 k j := by
  split
  · rename_i h
    subst h
    exact vg_u1_self
  · rename_i h
    exact vg_u1_at (fun q => h q.2)
/-- the row of told taps -/
theorem vg_tell7 {s0 s1 s2 s3 s4 s5 s6 s7 s8 : vg_S} {a b c d sh : Int32} (e1 : s1 = vg_u1 s0 17 (Int32.ofInt 0).toNatClampNeg a) (e2 : s2 = vg_u1 s1 17 (Int32.ofInt 1).toNatClampNeg b) (e3 : s3 = vg_u1 s2 17 (Int32.ofInt 2).toNatClampNeg c) (e4 : s4 = vg_u1 s3 17 (Int32.ofInt 3).toNatClampNeg d) (e5 : s5 = vg_u1 s4 17 (Int32.ofInt 4).toNatClampNeg c) (e6 : s6 = vg_u1 s5 17 (Int32.ofInt 5).toNatClampNeg b) (e7 : s7 = vg_u1 s6 17 (Int32.ofInt 6).toNatClampNeg a) (e8 : s8 = vg_u1 s7 16 1 sh) : s8.1 16 1 = sh ∧ s8.1 17 0 = a ∧ s8.1 17 1 = b ∧ s8.1 17 2 = c ∧ s8.1 17 3 = d ∧ s8.1 17 4 = c ∧ s8.1 17 5 = b ∧ s8.1 17 6 = a := by
  have n0 : (Int32.ofInt 0).toNatClampNeg = 0 := by decide
  have n1 : (Int32.ofInt 1).toNatClampNeg = 1 := by decide
  have n2 : (Int32.ofInt 2).toNatClampNeg = 2 := by decide
  have n3 : (Int32.ofInt 3).toNatClampNeg = 3 := by decide
  have n4 : (Int32.ofInt 4).toNatClampNeg = 4 := by decide
  have n5 : (Int32.ofInt 5).toNatClampNeg = 5 := by decide
  have n6 : (Int32.ofInt 6).toNatClampNeg = 6 := by decide
  rw [n0] at e1
  rw [n1] at e2
  rw [n2] at e3
  rw [n3] at e4
  rw [n4] at e5
  rw [n5] at e6
  rw [n6] at e7
  refine ⟨by rw [e8]; exact vg_u1_self, ?_⟩
  rw [e8, vg_u1_ne (show (17 : Nat) ≠ 16 by decide), e7]
  refine ⟨?_, ?_, ?_, ?_, ?_, ?_, vg_u1_self⟩ <;> rw [vg_u1_if, if_neg (by decide)]
  all_goals rw [e6, vg_u1_if]
  all_goals first | (rw [if_pos rfl]; done) | rw [if_neg (by decide), e5, vg_u1_if]
  all_goals first | (rw [if_pos rfl]; done) | rw [if_neg (by decide), e4, vg_u1_if]
  all_goals first | (rw [if_pos rfl]; done) | rw [if_neg (by decide), e3, vg_u1_if]
  all_goals first | (rw [if_pos rfl]; done) | rw [if_neg (by decide), e2, vg_u1_if]
  all_goals first | (rw [if_pos rfl]; done) | rw [if_neg (by decide), e1, vg_u1_if]
  all_goals rw [if_pos rfl]
