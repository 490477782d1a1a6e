/-! more of numbers -/
theorem vg_mulL {x y v : Int32} {c : Int} (e : v = x * y) (hc : x.toInt = c) (h1 : -2147483648 ≤ c * y.toInt) (h2 : c * y.toInt ≤ 2147483647) : v.toInt = c * y.toInt := by
  subst hc
  exact vg_mul e h1 h2
theorem vg_mulR {x y v : Int32} {c : Int} (e : v = x * y) (hc : y.toInt = c) (h1 : -2147483648 ≤ x.toInt * c) (h2 : x.toInt * c ≤ 2147483647) : v.toInt = x.toInt * c := by
  subst hc
  exact vg_mul e h1 h2
/-- how many elements a loop has -/
def vg_eo (k o n : Int32) : Int32 := if k.toInt = 2 then (n - Int32.ofInt 1) * ((Int32.ofInt 1 <<< (o &&& (31 : Int32))) - Int32.ofInt 1) else n - Int32.ofInt 1
abbrev vg_af (a : Int32) : Int32 := Int32.ofInt 1 <<< (a &&& (31 : Int32))
/-! sums of rows -/
def vg_rs (f : Nat → Int32) : Nat → Int32
  | 0 => Int32.ofInt 0
  | n + 1 => vg_rs f n + f n
def vg_rw (σ : vg_S) (k : Nat) : Nat → Int32 := match k with
  | 100 => fun j => ([1, 2, 1] : List Int32).getD j 0
  | 101 => fun j => ([-1, 0, 9, 16, 9, 0, -1] : List Int32).getD j 0
  | 102 => fun j => ([3, 0, -25, 0, 150, 256, 150, 0, -25, 0, 3] : List Int32).getD j 0
  | k => σ.1 k
theorem vg_rs_step {f : Nat → Int32} {s t i j v : Int32} (h : s = vg_rs f i.toNatClampNeg) (hv : v = f i.toNatClampNeg) (ht : t = s + v) (hi : 0 ≤ i.toInt) (hj : j.toInt = i.toInt + 1) : t = vg_rs f j.toNatClampNeg := by
  have h1 : i.toNatClampNeg = i.toInt.toNat := rfl
  have h2 : j.toNatClampNeg = j.toInt.toNat := rfl
  have h3 : j.toNatClampNeg = i.toNatClampNeg + 1 := by omega
  rw [h3, vg_rs, ht, h, hv]
theorem vg_rs_at {f : Nat → Int32} {v i : Int32} {n : Nat} (h : v = vg_rs f i.toNatClampNeg) (hi : i.toInt = (n : Int)) : v = vg_rs f n := by
  have h1 : i.toNatClampNeg = i.toInt.toNat := rfl
  rw [h, show i.toNatClampNeg = n by omega]
theorem vg_sum7 {f : Nat → Int32} {a b c d : Int32} (h : f 0 = a ∧ f 1 = b ∧ f 2 = c ∧ f 3 = d ∧ f 4 = c ∧ f 5 = b ∧ f 6 = a) (ha : -999 ≤ a.toInt ∧ a.toInt ≤ 999) (hb : -999 ≤ b.toInt ∧ b.toInt ≤ 999) (hc : -999 ≤ c.toInt ∧ c.toInt ≤ 999) (hd : -999 ≤ d.toInt ∧ d.toInt ≤ 999) : (vg_rs f 7).toInt = 2 * (a.toInt + b.toInt + c.toInt) + d.toInt := by
  obtain ⟨h0, h1, h2, h3, h4, h5, h6⟩ := h
  simp only [vg_rs, h0, h1, h2, h3, h4, h5, h6]
  have z0 : (Int32.ofInt 0).toInt = 0 := by decide
  obtain ⟨s1, e1⟩ : ∃ s, s = Int32.ofInt 0 + a := ⟨_, rfl⟩
  have b1 := vg_add e1 (by omega) (by omega)
  rw [← e1]
  obtain ⟨s2, e2⟩ : ∃ s, s = s1 + b := ⟨_, rfl⟩
  have b2 := vg_add e2 (by omega) (by omega)
  rw [← e2]
  obtain ⟨s3, e3⟩ : ∃ s, s = s2 + c := ⟨_, rfl⟩
  have b3 := vg_add e3 (by omega) (by omega)
  rw [← e3]
  obtain ⟨s4, e4⟩ : ∃ s, s = s3 + d := ⟨_, rfl⟩
  have b4 := vg_add e4 (by omega) (by omega)
  rw [← e4]
  obtain ⟨s5, e5⟩ : ∃ s, s = s4 + c := ⟨_, rfl⟩
  have b5 := vg_add e5 (by omega) (by omega)
  rw [← e5]
  obtain ⟨s6, e6⟩ : ∃ s, s = s5 + b := ⟨_, rfl⟩
  have b6 := vg_add e6 (by omega) (by omega)
  rw [← e6]
  obtain ⟨s7, e7⟩ : ∃ s, s = s6 + a := ⟨_, rfl⟩
  have b7 := vg_add e7 (by omega) (by omega)
  rw [← e7]
  omega
theorem vg_u1_if {σ : vg_S} {k i j : Nat} {x : Int32} : (vg_u1 σ k i x).1 k j = if j = i then x else σ.1 k j := by
  split
  · rename_i h
    subst h
    exact vg_u1_self
  · rename_i h
    exact vg_u1_at (fun q => h q.2)
/-- the row of told taps -/
theorem vg_tell7 {s0 s1 s2 s3 s4 s5 s6 s7 s8 : vg_S} {a b c d sh : Int32} (e1 : s1 = vg_u1 s0 17 (Int32.ofInt 0).toNatClampNeg a) (e2 : s2 = vg_u1 s1 17 (Int32.ofInt 1).toNatClampNeg b) (e3 : s3 = vg_u1 s2 17 (Int32.ofInt 2).toNatClampNeg c) (e4 : s4 = vg_u1 s3 17 (Int32.ofInt 3).toNatClampNeg d) (e5 : s5 = vg_u1 s4 17 (Int32.ofInt 4).toNatClampNeg c) (e6 : s6 = vg_u1 s5 17 (Int32.ofInt 5).toNatClampNeg b) (e7 : s7 = vg_u1 s6 17 (Int32.ofInt 6).toNatClampNeg a) (e8 : s8 = vg_u1 s7 16 1 sh) : s8.1 16 1 = sh ∧ s8.1 17 0 = a ∧ s8.1 17 1 = b ∧ s8.1 17 2 = c ∧ s8.1 17 3 = d ∧ s8.1 17 4 = c ∧ s8.1 17 5 = b ∧ s8.1 17 6 = a := by
  have n0 : (Int32.ofInt 0).toNatClampNeg = 0 := by decide
  have n1 : (Int32.ofInt 1).toNatClampNeg = 1 := by decide
  have n2 : (Int32.ofInt 2).toNatClampNeg = 2 := by decide
  have n3 : (Int32.ofInt 3).toNatClampNeg = 3 := by decide
  have n4 : (Int32.ofInt 4).toNatClampNeg = 4 := by decide
  have n5 : (Int32.ofInt 5).toNatClampNeg = 5 := by decide
  have n6 : (Int32.ofInt 6).toNatClampNeg = 6 := by decide
  rw [n0] at e1
  rw [n1] at e2
  rw [n2] at e3
  rw [n3] at e4
  rw [n4] at e5
  rw [n5] at e6
  rw [n6] at e7
  refine ⟨by rw [e8]; exact vg_u1_self, ?_⟩
  rw [e8, vg_u1_ne (show (17 : Nat) ≠ 16 by decide), e7]
  refine ⟨?_, ?_, ?_, ?_, ?_, ?_, vg_u1_self⟩ <;> rw [vg_u1_if, if_neg (by decide)]
  all_goals rw [e6, vg_u1_if]
  all_goals first | (rw [if_pos rfl]; done) | rw [if_neg (by decide), e5, vg_u1_if]
  all_goals first | (rw [if_pos rfl]; done) | rw [if_neg (by decide), e4, vg_u1_if]
  all_goals first | (rw [if_pos rfl]; done) | rw [if_neg (by decide), e3, vg_u1_if]
  all_goals first | (rw [if_pos rfl]; done) | rw [if_neg (by decide), e2, vg_u1_if]
  all_goals first | (rw [if_pos rfl]; done) | rw [if_neg (by decide), e1, vg_u1_if]
  all_goals rw [if_pos rfl]
/-! how wide words must be -/
def vg_mp (r m : Int64) : Nat → Int64
  | 0 => m
  | n + 1 => vg_mp r m n * r
theorem vg_mp_step {r x i j : Int32} {m g g' x64 : Int64} (h : g = vg_mp r.toInt64 m i.toNatClampNeg) (hx : x = r) (h64 : x64 = x.toInt64) (hg : g' = g * x64) (hi : 0 ≤ i.toInt) (hj : j.toInt = i.toInt + 1) : g' = vg_mp r.toInt64 m j.toNatClampNeg := by
  have h1 : i.toNatClampNeg = i.toInt.toNat := rfl
  have h2 : j.toNatClampNeg = j.toInt.toNat := rfl
  rw [show j.toNatClampNeg = i.toNatClampNeg + 1 by omega, vg_mp, hg, h, h64, hx]
theorem vg_mp_at {r m g : Int64} {i n : Int32} (h : g = vg_mp r m i.toNatClampNeg) (hi : i.toInt = n.toInt) : g = vg_mp r m n.toNatClampNeg := by
  rw [h, vg_eqi hi]
def vg_tst (g : Int64) (b : Int32) : Int32 := lg_cmp g (Int64.ofNat 1 <<< ((b - Int32.ofInt 1).toInt64 &&& 63))
def vg_ge8 (g : Int64) (b : Int32) : Prop := ∀ w : Int32, 8 ≤ w.toInt → w.toInt < b.toInt → 0 ≤ (vg_tst g w).toInt
theorem vg_ge8_0 {g : Int64} : vg_ge8 g (Int32.ofInt 8) := fun w h1 h2 => by
  have h3 : (Int32.ofInt 8).toInt = 8 := by decide
  omega
theorem vg_ge8_step {g y : Int64} {b x v b' : Int32} (h : vg_ge8 g b) (e1 : x = b - Int32.ofInt 1) (e2 : y = Int64.ofNat 1 <<< (x.toInt64 &&& 63)) (e3 : v = lg_cmp g y) (hc : 0 ≤ v.toInt) (hb : b'.toInt = b.toInt + 1) : vg_ge8 g b' := fun w h1 h2 => by
  by_cases hw : w.toInt = b.toInt
  · rw [vg_eqi hw, vg_tst, ← e1, ← e2, ← e3]
    exact hc
  · exact h w h1 (by omega)
def vg_isneed (g : Int64) (v : Int32) : Prop := (8 ≤ v.toInt ∧ v.toInt ≤ 32 ∧ (vg_tst g v).toInt < 0 ∧ vg_ge8 g v) ∨ (v.toInt = -1 ∧ vg_ge8 g (Int32.ofInt 33))
theorem vg_isneed1 {g g' y : Int64} {b x v : Int32} (hg : g = g') (h : vg_ge8 g b) (e1 : x = b - Int32.ofInt 1) (e2 : y = Int64.ofNat 1 <<< (x.toInt64 &&& 63)) (e3 : v = lg_cmp g y) (hc : ¬ (0 ≤ v.toInt)) (h1 : 8 ≤ b.toInt) (h2 : b.toInt ≤ 32) : vg_isneed g' b := by
  subst hg
  refine Or.inl ⟨h1, h2, ?_, h⟩
  rw [vg_tst, ← e1, ← e2, ← e3]
  omega
theorem vg_isneed2 {g g' : Int64} {b v : Int32} (hg : g = g') (h : vg_ge8 g b) (hb : 33 ≤ b.toInt) (hv : v.toInt = -1) : vg_isneed g' v := by
  subst hg
  refine Or.inr ⟨hv, fun w h1 h2 => h w h1 ?_⟩
  have h3 : (Int32.ofInt 33).toInt = 33 := by decide
  omega
theorem vg_isneedm {g : Int64} {w v : Int32} (h : vg_isneed g w) (hw : w.toInt = -1) (hv : v.toInt = -1) : vg_isneed g v := by
  rw [show v = w from vg_eqi (by omega)]
  exact h
theorem vg_isneed_eq {g : Int64} {v w : Int32} (h : vg_isneed g v) (h' : vg_isneed g w) : v.toInt = w.toInt := by
  have h33 : (Int32.ofInt 33).toInt = 33 := by decide
  rcases h with ⟨a1, a2, a3, a4⟩ | ⟨a1, a2⟩
  · rcases h' with ⟨b1, b2, b3, b4⟩ | ⟨b1, b2⟩
    · rcases Int.lt_trichotomy v.toInt w.toInt with q | q | q
      · have := b4 v a1 q
        omega
      · exact q
      · have := a4 w b1 q
        omega
    · have := b2 v a1 (by omega)
      omega
  · rcases h' with ⟨b1, b2, b3, b4⟩ | ⟨b1, b2⟩
    · have := a2 w b1 (by omega)
      omega
    · omega
