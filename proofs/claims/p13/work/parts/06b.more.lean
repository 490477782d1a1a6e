/-! more of numbers -/
theorem vg_mulL {x y v : Int32} {c : Int} (e : v = x * y) (hc : x.toInt = c) (h1 : -2147483648 ≤ c * y.toInt) (h2 : c * y.toInt ≤ 2147483647) : v.toInt = c * y.toInt := by
  subst hc
  exact vg_mul e h1 h2
theorem vg_mulR {x y v : Int32} {c : Int} (e : v = x * y) (hc : y.toInt = c) (h1 : -2147483648 ≤ x.toInt * c) (h2 : x.toInt * c ≤ 2147483647) : v.toInt = x.toInt * c := by
  subst hc
  exact vg_mul e h1 h2
/-- how many elements a loop has -/
def vg_eo (k o n : Int32) : Int32 := if k.toInt = 2 then (n - Int32.ofInt 1) * ((Int32.ofInt 1 <<< (o &&& (31 : Int32))) - Int32.ofInt 1) else n - Int32.ofInt 1
abbrev vg_af (a : Int32) : Int32 := Int32.ofInt 1 <<< (a &&& (31 : Int32))
/-! sums of rows -/
def vg_rs (f : Nat → Int32) : Nat → Int32
  | 0 => Int32.ofInt 0
  | n + 1 => vg_rs f n + f n
def vg_rw (σ : vg_S) (k : Nat) : Nat → Int32 := match k with
  | 100 => fun j => ([1, 2, 1] : List Int32).getD j 0
  | 101 => fun j => ([-1, 0, 9, 16, 9, 0, -1] : List Int32).getD j 0
  | 102 => fun j => ([3, 0, -25, 0, 150, 256, 150, 0, -25, 0, 3] : List Int32).getD j 0
  | k => σ.1 k
theorem vg_rs_step {f : Nat → Int32} {s t i j v : Int32} (h : s = vg_rs f i.toNatClampNeg) (hv : v = f i.toNatClampNeg) (ht : t = s + v) (hi : 0 ≤ i.toInt) (hj : j.toInt = i.toInt + 1) : t = vg_rs f j.toNatClampNeg := by
  have h1 : i.toNatClampNeg = i.toInt.toNat := rfl
  have h2 : j.toNatClampNeg = j.toInt.toNat := rfl
  have h3 : j.toNatClampNeg = i.toNatClampNeg + 1 := by omega
  rw [h3, vg_rs, ht, h, hv]
theorem vg_rs_at {f : Nat → Int32} {v i : Int32} {n : Nat} (h : v = vg_rs f i.toNatClampNeg) (hi : i.toInt = (n : Int)) : v = vg_rs f n := by
  have h1 : i.toNatClampNeg = i.toInt.toNat := rfl
  rw [h, show i.toNatClampNeg = n by omega]
theorem vg_sum7 {f : Nat → Int32} {a b c d : Int32} (h : f 0 = a ∧ f 1 = b ∧ f 2 = c ∧ f 3 = d ∧ f 4 = c ∧ f 5 = b ∧ f 6 = a) (ha : -999 ≤ a.toInt ∧ a.toInt ≤ 999) (hb : -999 ≤ b.toInt ∧ b.toInt ≤ 999) (hc : -999 ≤ c.toInt ∧ c.toInt ≤ 999) (hd : -999 ≤ d.toInt ∧ d.toInt ≤ 999) : (vg_rs f 7).toInt = 2 * (a.toInt + b.toInt + c.toInt) + d.toInt := by
  obtain ⟨h0, h1, h2, h3, h4, h5, h6⟩ := h
  simp only [vg_rs, h0, h1, h2, h3, h4, h5, h6]
  have z0 : (Int32.ofInt 0).toInt = 0 := by decide
  obtain ⟨s1, e1⟩ : ∃ s, s = Int32.ofInt 0 + a := ⟨_, rfl⟩
  have b1 := vg_add e1 (by omega) (by omega)
  rw [← e1]
  obtain ⟨s2, e2⟩ : ∃ s, s = s1 + b := ⟨_, rfl⟩
  have b2 := vg_add e2 (by omega) (by omega)
  rw [← e2]
  obtain ⟨s3, e3⟩ : ∃ s, s = s2 + c := ⟨_, rfl⟩
  have b3 := vg_add e3 (by omega) (by omega)
  rw [← e3]
  obtain ⟨s4, e4⟩ : ∃ s, s = s3 + d := ⟨_, rfl⟩
  have b4 := vg_add e4 (by omega) (by omega)
  rw [← e4]
  obtain ⟨s5, e5⟩ : ∃ s, s = s4 + c := ⟨_, rfl⟩
  have b5 := vg_add e5 (by omega) (by omega)
  rw [← e5]
  obtain ⟨s6, e6⟩ : ∃ s, s = s5 + b := ⟨_, rfl⟩
  have b6 := vg_add e6 (by omega) (by omega)
  rw [← e6]
  obtain ⟨s7, e7⟩ : ∃ s, s = s6 + a := ⟨_, rfl⟩
  have b7 := vg_add e7 (by omega) (by omega)
  rw [← e7]
  omega
theorem vg_u1_if {σ : vg_S} {k i j : Nat} {x : Int32} : (vg_u1 σ k i x).1 k j = if j = i then x else σ.1 k j := by
  split
  · rename_i h
    subst h
    exact vg_u1_self
  · rename_i h
    exact vg_u1_at (fun q => h q.2)
/-- the row of told taps -/
theorem vg_tell7 {s0 s1 s2 s3 s4 s5 s6 s7 s8 : vg_S} {a b c d sh : Int32} (e1 : s1 = vg_u1 s0 17 (Int32.ofInt 0).toNatClampNeg a) (e2 : s2 = vg_u1 s1 17 (Int32.ofInt 1).toNatClampNeg b) (e3 : s3 = vg_u1 s2 17 (Int32.ofInt 2).toNatClampNeg c) (e4 : s4 = vg_u1 s3 17 (Int32.ofInt 3).toNatClampNeg d) (e5 : s5 = vg_u1 s4 17 (Int32.ofInt 4).toNatClampNeg c) (e6 : s6 = vg_u1 s5 17 (Int32.ofInt 5).toNatClampNeg b) (e7 : s7 = vg_u1 s6 17 (Int32.ofInt 6).toNatClampNeg a) (e8 : s8 = vg_u1 s7 16 1 sh) : s8.1 16 1 = sh ∧ s8.1 17 0 = a ∧ s8.1 17 1 = b ∧ s8.1 17 2 = c ∧ s8.1 17 3 = d ∧ s8.1 17 4 = c ∧ s8.1 17 5 = b ∧ s8.1 17 6 = a := by
  have n0 : (Int32.ofInt 0).toNatClampNeg = 0 := by decide
  have n1 : (Int32.ofInt 1).toNatClampNeg = 1 := by decide
  have n2 : (Int32.ofInt 2).toNatClampNeg = 2 := by decide
  have n3 : (Int32.ofInt 3).toNatClampNeg = 3 := by decide
  have n4 : (Int32.ofInt 4).toNatClampNeg = 4 := by decide
  have n5 : (Int32.ofInt 5).toNatClampNeg = 5 := by decide
  have n6 : (Int32.ofInt 6).toNatClampNeg = 6 := by decide
  rw [n0] at e1
  rw [n1] at e2
  rw [n2] at e3
  rw [n3] at e4
  rw [n4] at e5
  rw [n5] at e6
  rw [n6] at e7
  refine ⟨by rw [e8]; exact vg_u1_self, ?_⟩
  rw [e8, vg_u1_ne (show (17 : Nat) ≠ 16 by decide), e7]
  refine ⟨?_, ?_, ?_, ?_, ?_, ?_, vg_u1_self⟩ <;> rw [vg_u1_if, if_neg (by decide)]
  all_goals rw [e6, vg_u1_if]
  all_goals first | (rw [if_pos rfl]; done) | rw [if_neg (by decide), e5, vg_u1_if]
  all_goals first | (rw [if_pos rfl]; done) | rw [if_neg (by decide), e4, vg_u1_if]
  all_goals first | (rw [if_pos rfl]; done) | rw [if_neg (by decide), e3, vg_u1_if]
  all_goals first | (rw [if_pos rfl]; done) | rw [if_neg (by decide), e2, vg_u1_if]
  all_goals first | (rw [if_pos rfl]; done) | rw [if_neg (by decide), e1, vg_u1_if]
  all_goals rw [if_pos rfl]
/-! how wide words must be -/
def vg_mp (r m : Int64) : Nat → Int64
  | 0 => m
  | n + 1 => vg_mp r m n * r
theorem vg_mp_step {r x i j : Int32} {m g g' x64 : Int64} (h : g = vg_mp r.toInt64 m i.toNatClampNeg) (hx : x = r) (h64 : x64 = x.toInt64) (hg : g' = g * x64) (hi : 0 ≤ i.toInt) (hj : j.toInt = i.toInt + 1) : g' = vg_mp r.toInt64 m j.toNatClampNeg := by
  have h1 : i.toNatClampNeg = i.toInt.toNat := rfl
  have h2 : j.toNatClampNeg = j.toInt.toNat := rfl
  rw [show j.toNatClampNeg = i.toNatClampNeg + 1 by omega, vg_mp, hg, h, h64, hx]
theorem vg_mp_at {r m g : Int64} {i n : Int32} (h : g = vg_mp r m i.toNatClampNeg) (hi : i.toInt = n.toInt) : g = vg_mp r m n.toNatClampNeg := by
  rw [h, vg_eqi hi]
def vg_tst (g : Int64) (b : Int32) : Int32 := lg_cmp g (Int64.ofNat 1 <<< ((b - Int32.ofInt 1).toInt64 &&& 63))
def vg_ge8 (g : Int64) (b : Int32) : Prop := ∀ w : Int32, 8 ≤ w.toInt → w.toInt < b.toInt → 0 ≤ (vg_tst g w).toInt
theorem vg_ge8_0 {g : Int64} : vg_ge8 g (Int32.ofInt 8) := fun w h1 h2 => by
  have h3 : (Int32.ofInt 8).toInt = 8 := by decide
  omega
theorem vg_ge8_step {g y : Int64} {b x v b' : Int32} (h : vg_ge8 g b) (e1 : x = b - Int32.ofInt 1) (e2 : y = Int64.ofNat 1 <<< (x.toInt64 &&& 63)) (e3 : v = lg_cmp g y) (hc : 0 ≤ v.toInt) (hb : b'.toInt = b.toInt + 1) : vg_ge8 g b' := fun w h1 h2 => by
  by_cases hw : w.toInt = b.toInt
  · rw [vg_eqi hw, vg_tst, ← e1, ← e2, ← e3]
    exact hc
  · exact h w h1 (by omega)
def vg_isneed (g : Int64) (v : Int32) : Prop := (8 ≤ v.toInt ∧ v.toInt ≤ 32 ∧ (vg_tst g v).toInt < 0 ∧ vg_ge8 g v) ∨ (v.toInt = -1 ∧ vg_ge8 g (Int32.ofInt 33))
theorem vg_isneed1 {g g' y : Int64} {b x v : Int32} (hg : g = g') (h : vg_ge8 g b) (e1 : x = b - Int32.ofInt 1) (e2 : y = Int64.ofNat 1 <<< (x.toInt64 &&& 63)) (e3 : v = lg_cmp g y) (hc : ¬ (0 ≤ v.toInt)) (h1 : 8 ≤ b.toInt) (h2 : b.toInt ≤ 32) : vg_isneed g' b := by
  subst hg
  refine Or.inl ⟨h1, h2, ?_, h⟩
  rw [vg_tst, ← e1, ← e2, ← e3]
  omega
theorem vg_isneed2 {g g' : Int64} {b v : Int32} (hg : g = g') (h : vg_ge8 g b) (hb : 33 ≤ b.toInt) (hv : v.toInt = -1) : vg_isneed g' v := by
  subst hg
  refine Or.inr ⟨hv, fun w h1 h2 => h w h1 ?_⟩
  have h3 : (Int32.ofInt 33).toInt = 33 := by decide
  omega
theorem vg_isneedm {g : Int64} {w v : Int32} (h : vg_isneed g w) (hw : w.toInt = -1) (hv : v.toInt = -1) : vg_isneed g v := by
  rw [show v = w from vg_eqi (by omega)]
  exact h
theorem vg_isneed_eq {g : Int64} {v w : Int32} (h : vg_isneed g v) (h' : vg_isneed g w) : v.toInt = w.toInt := by
  have h33 : (Int32.ofInt 33).toInt = 33 := by decide
  rcases h with ⟨a1, a2, a3, a4⟩ | ⟨a1, a2⟩
  · rcases h' with ⟨b1, b2, b3, b4⟩ | ⟨b1, b2⟩
    · rcases Int.lt_trichotomy v.toInt w.toInt with q | q | q
      · have := b4 v a1 q
        omega
      · exact q
      · have := a4 w b1 q
        omega
    · have := b2 v a1 (by omega)
      omega
  · rcases h' with ⟨b1, b2, b3, b4⟩ | ⟨b1, b2⟩
    · have := a2 w b1 (by omega)
      omega
    · omega
/-! weights -/
def vg_ws (f : Nat → Int32) : Nat → Int32
  | 0 => Int32.ofInt 0
  | n + 1 => vg_ws f n + (Int32.ofInt 1000 + f n)
theorem vg_ws_step {f : Nat → Int32} {s t i j v : Int32} (h : s = vg_ws f i.toNatClampNeg) (hv : v = Int32.ofInt 1000 + f i.toNatClampNeg) (ht : t = s + v) (hi : 0 ≤ i.toInt) (hj : j.toInt = i.toInt + 1) : t = vg_ws f j.toNatClampNeg := by
  have h1 : i.toNatClampNeg = i.toInt.toNat := rfl
  have h2 : j.toNatClampNeg = j.toInt.toNat := rfl
  have h3 : j.toNatClampNeg = i.toNatClampNeg + 1 := by omega
  rw [h3, vg_ws, ht, h, hv]
theorem vg_ws_at {f : Nat → Int32} {v i n : Int32} (h : v = vg_ws f i.toNatClampNeg) (hi : i.toInt = n.toInt) : v = vg_ws f n.toNatClampNeg := by
  rw [h, vg_eqi hi]
theorem vg_ws_congr {f g : Nat → Int32} : ∀ {n : Nat}, (∀ j, j < n → f j = g j) → vg_ws f n = vg_ws g n
  | 0, _ => rfl
  | n + 1, h => by
    rw [vg_ws, vg_ws, vg_ws_congr (n := n) (fun j hj => h j (by omega)), h n (by omega)]
theorem vg_nobit {a i v1 v2 : Int32} (e1 : v1 = a >>> (i &&& (31 : Int32))) (e2 : v2 = v1 &&& Int32.ofInt 1) (hc : ¬ v2.toInt = (Int32.ofInt 1).toInt) (h : ((a >>> (i &&& (31 : Int32))) &&& Int32.ofInt 1).toInt = (Int32.ofInt 1).toInt) : False := by
  subst e1
  subst e2
  exact hc h
theorem vg_ones_all : ∀ m : Fin 17, ∀ i : Fin 17, i.val < m.val → (((((Int32.ofInt 1 <<< ((Int32.ofInt (m.val : Int)) &&& (31 : Int32))) - Int32.ofInt 1) >>> ((Int32.ofInt (i.val : Int)) &&& (31 : Int32))) &&& Int32.ofInt 1).toInt = (Int32.ofInt 1).toInt) := by decide +kernel
theorem vg_of16 {m : Int32} (h1 : 0 ≤ m.toInt) (h2 : m.toInt ≤ 16) : ∃ n : Fin 17, m = Int32.ofInt (n.val : Int) ∧ m.toInt = (n.val : Int) := by
  refine ⟨⟨m.toInt.toNat, by omega⟩, ?_, ?_⟩
  · show m = Int32.ofInt (m.toInt.toNat : Int)
    rw [show (m.toInt.toNat : Int) = m.toInt by omega]
    exact (Int32.ofInt_toInt m).symm
  · show m.toInt = (m.toInt.toNat : Int)
    omega
theorem vg_ones {m i v1 v2 : Int32} (e1 : v1 = Int32.ofInt 1 <<< (m &&& (31 : Int32))) (e2 : v2 = v1 - Int32.ofInt 1) (h1 : 0 ≤ m.toInt) (h2 : m.toInt ≤ 16) (h3 : 0 ≤ i.toInt) (h4 : i.toInt < m.toInt) : ((v2 >>> (i &&& (31 : Int32))) &&& Int32.ofInt 1).toInt = (Int32.ofInt 1).toInt := by
  obtain ⟨a, ea, ea'⟩ := vg_of16 h1 h2
  obtain ⟨b, eb, eb'⟩ := vg_of16 h3 (by omega)
  rw [e2, e1, ea, eb]
  exact vg_ones_all a b (by omega)
/-- what a comb may be given at most -/
def vg_cx (i m : Int32) (f : Nat → Int32) : Int32 := if i.toInt = 0 then m else vg_ws f m.toNatClampNeg
theorem vg_cned {O R a1 a2 x y v : Int32} (q : vg_isneed (vg_mp R.toInt64 x.toInt64 O.toNatClampNeg) v) (hO : O = a1) (hR : R = a2) (hx : x = y) : vg_isneed (vg_mp a2.toInt64 y.toInt64 a1.toNatClampNeg) v := by
  subst hO
  subst hR
  subst hx
  exact q
/-! numbers that were asked -/
def vg_adk (c : Int) (f : Nat → Int32) (u : Int32) (c' : Int) (f' : Nat → Int32) : Prop :=
  ((∃ i : Nat, (i : Int) < c ∧ f i = u) ∧ c' = c ∧ ∀ j : Nat, (j : Int) < c → f' j = f j) ∨
  ((∀ i : Nat, (i : Int) < c → f i ≠ u) ∧ c < 12 ∧ c' = c + 1 ∧ (∀ j : Nat, (j : Int) < c → f' j = f j) ∧ f' c.toNat = u) ∨
  ((∀ i : Nat, (i : Int) < c → f i ≠ u) ∧ c = 12 ∧ c' = 12 ∧ (∀ j : Nat, j < 11 → f' j = f (j + 1)) ∧ f' 11 = u)
theorem vg_nf_step {f g : Nat → Int32} {u v i i' : Int32} (h : ∀ j : Nat, (j : Int) < i.toInt → f j ≠ u) (hv : v = g i.toNatClampNeg) (hg : g = f) (hc : ¬ v.toInt = u.toInt) (h0 : 0 ≤ i.toInt) (hi : i'.toInt = i.toInt + 1) : ∀ j : Nat, (j : Int) < i'.toInt → f j ≠ u := by
  intro j hj he
  by_cases hw : (j : Int) < i.toInt
  · exact h j hw he
  · have h9 : i.toNatClampNeg = i.toInt.toNat := rfl
    have h8 : j = i.toNatClampNeg := by omega
    apply hc
    rw [hv, hg, ← h8, he]
theorem vg_adk_in {c c' : Int} {f f' : Nat → Int32} {u v i : Int32} (hv : v = f' i.toNatClampNeg) (hf : f' = f) (hc : ¬ ¬ v.toInt = u.toInt) (h0 : 0 ≤ i.toInt) (hi : i.toInt < c) (hcc : c' = c) : vg_adk c f u c' f' := by
  refine Or.inl ⟨⟨i.toNatClampNeg, ?_, ?_⟩, hcc, fun j _ => by rw [hf]⟩
  · have h9 : i.toNatClampNeg = i.toInt.toNat := rfl
    omega
  · rw [← hf, ← hv]
    exact vg_eqi (Decidable.not_not.mp hc)
theorem vg_adk_out {K C S : Nat} (hKC : K ≠ C) {z s0 s1 s2 : vg_S} {m m2 u i : Int32} (e1 : s1 = vg_u1 s0 K m.toNatClampNeg u) (e2 : s2 = vg_u1 s1 C S m2) (hr : s0.1 K = z.1 K) (hn : ∀ j : Nat, (j : Int) < i.toInt → z.1 K j ≠ u) (h1 : (z.1 C S).toInt ≤ i.toInt) (h2 : m.toInt = (z.1 C S).toInt) (h3 : m2.toInt = (z.1 C S).toInt + 1) (h4 : 0 ≤ (z.1 C S).toInt ∧ (z.1 C S).toInt < 12) : vg_adk (z.1 C S).toInt (z.1 K) u (s2.1 C S).toInt (s2.1 K) := by
  have hm : m.toNatClampNeg = m.toInt.toNat := rfl
  refine Or.inr (Or.inl ⟨fun j hj => hn j (by omega), by omega, ?_, fun j hj => ?_, ?_⟩)
  · rw [e2, vg_u1_self]
    exact h3
  · rw [e2, vg_u1_ne hKC, e1, vg_u1_if, if_neg (by omega), hr]
  · rw [e2, vg_u1_ne hKC, e1, vg_u1_if, if_pos (by omega)]
theorem vg_w1_self {σ : vg_S} {k : Nat} {f : Nat → Int32} : (vg_w1 σ k f).1 k = f := by simp [vg_w1]
theorem vg_adk_full {z s0 s1 s2 s3 s4 : vg_S} {m m2 u i : Int32} (e1 : s1 = vg_w1 s0 21 (va_cpy (s0.1 21) (s0.1 21) (Int32.ofInt 1).toNatClampNeg (Int32.ofInt 0).toNatClampNeg (Int32.ofInt 11).toNatClampNeg)) (e2 : s2 = vg_u1 s1 20 1 m) (e3 : s3 = vg_u1 s2 21 m.toNatClampNeg u) (e4 : s4 = vg_u1 s3 20 1 m2) (hr : s0.1 21 = z.1 21) (hn : ∀ j : Nat, (j : Int) < i.toInt → z.1 21 j ≠ u) (h1 : (z.1 20 1).toInt ≤ i.toInt) (h2 : m.toInt = 11) (h3 : m2.toInt = 12) (h4 : (z.1 20 1).toInt = 12) : vg_adk (z.1 20 1).toInt (z.1 21) u (s4.1 20 1).toInt (s4.1 21) := by
  have hm : m.toNatClampNeg = m.toInt.toNat := rfl
  have n0 : (Int32.ofInt 0).toNatClampNeg = 0 := by decide
  have n1 : (Int32.ofInt 1).toNatClampNeg = 1 := by decide
  have n11 : (Int32.ofInt 11).toNatClampNeg = 11 := by decide
  have hKC : (21 : Nat) ≠ 20 := by decide
  rw [n0, n1, n11] at e1
  refine Or.inr (Or.inr ⟨fun j hj => hn j (by omega), h4, ?_, fun j hj => ?_, ?_⟩)
  · rw [e4, vg_u1_self]
    exact h3
  · rw [e4, vg_u1_ne hKC, e3, vg_u1_if, if_neg (by omega), e2, vg_u1_ne hKC, e1, vg_w1_self]
    simp only [va_cpy]
    rw [if_pos ⟨by omega, by omega⟩, hr, show 1 + (j - 0) = j + 1 by omega]
  · rw [e4, vg_u1_ne hKC, e3, vg_u1_if, if_pos (by omega)]
def vg_asx (z s : vg_S) (u i : Int32) : Prop := (s.1 55 33).toInt = 12 ∧ (z.1 55 33).toInt = 12 ∧ (∀ j : Nat, (j : Int) < 12 → z.1 66 j ≠ u) ∧ (∀ j : Nat, (j : Int) < i.toInt → s.1 66 j = if j + 1 = 12 then u else z.1 66 (j + 1)) ∧ (∀ j : Nat, i.toInt ≤ (j : Int) → s.1 66 j = if j = 12 then u else z.1 66 j)
theorem vg_asx0 {z s0 s1 s2 s3 : vg_S} {m m1 m2 u i : Int32} (e1 : s1 = vg_u1 s0 66 m.toNatClampNeg u) (e2 : s2 = vg_u1 s1 55 33 m1) (e3 : s3 = vg_u1 s2 55 33 m2) (hr : s0.1 66 = z.1 66) (hn : ∀ j : Nat, (j : Int) < i.toInt → z.1 66 j ≠ u) (h1 : (z.1 55 33).toInt ≤ i.toInt) (h2 : m.toInt = 12) (h3 : m2.toInt = 12) (h4 : (z.1 55 33).toInt = 12) : vg_asx z s3 u (Int32.ofInt 0) := by
  have hm : m.toNatClampNeg = m.toInt.toNat := rfl
  have z0 : (Int32.ofInt 0).toInt = 0 := by decide
  have hKC : (66 : Nat) ≠ 55 := by decide
  refine ⟨?_, h4, fun j hj => hn j (by omega), fun j hj => by omega, fun j hj => ?_⟩
  · rw [e3, vg_u1_self]
    exact h3
  · rw [e3, vg_u1_ne hKC, e2, vg_u1_ne hKC, e1, vg_u1_if, show m.toNatClampNeg = 12 by omega, hr]
theorem vg_asx1 {z s s' : vg_S} {u i k v i' : Int32} (x : vg_asx z s u i) (ea : v = s.1 66 k.toNatClampNeg) (e : s' = vg_u1 s 66 i.toNatClampNeg v) (h0 : 0 ≤ i.toInt ∧ i.toInt < 12) (hk : k.toInt = i.toInt + 1) (hi : i'.toInt = i.toInt + 1) : vg_asx z s' u i' := by
  have hm : i.toNatClampNeg = i.toInt.toNat := rfl
  have hm' : k.toNatClampNeg = k.toInt.toNat := rfl
  obtain ⟨x1, x2, x3, x4, x5⟩ := x
  refine ⟨by rw [e, vg_u1_ne (show (55 : Nat) ≠ 66 by decide)]; exact x1, x2, x3, fun j hj => ?_, fun j hj => ?_⟩
  · rw [e, vg_u1_if]
    by_cases hw : j = i.toNatClampNeg
    · rw [if_pos hw, ea, show k.toNatClampNeg = j + 1 by omega, x5 (j + 1) (by omega)]
    · rw [if_neg hw]
      exact x4 j (by omega)
  · rw [e, vg_u1_if, if_neg (by omega)]
    exact x5 j (by omega)
theorem vg_ask_full {z s : vg_S} {u i : Int32} (x : vg_asx z s u i) (hi : i.toInt = 12) : vg_adk (z.1 55 33).toInt (z.1 66) u (s.1 55 33).toInt (s.1 66) := by
  obtain ⟨x1, x2, x3, x4, x5⟩ := x
  refine Or.inr (Or.inr ⟨fun j hj => x3 j (by omega), x2, x1, fun j hj => by rw [x4 j (by omega), if_neg (by omega)], ?_⟩)
  rw [x4 11 (by omega), if_pos rfl]
theorem vg_adk_eq {c c1 c2 : Int} {f g f1 g2 : Nat → Int32} {u : Int32} (h1 : vg_adk c f u c1 f1) (h2 : vg_adk c g u c2 g2) (hfg : ∀ j : Nat, (j : Int) < c → f j = g j) : c1 = c2 ∧ ∀ j : Nat, (j : Int) < c1 → f1 j = g2 j := by
  rcases h1 with ⟨⟨i, hi, ei⟩, a2, a3⟩ | ⟨a1, a2, a3, a4, a5⟩ | ⟨a1, a2, a3, a4, a5⟩
  · rcases h2 with ⟨-, b2, b3⟩ | ⟨b1, -⟩ | ⟨b1, -⟩
    · exact ⟨by omega, fun j hj => by rw [a3 j (by omega), b3 j (by omega)]; exact hfg j (by omega)⟩
    · exact absurd ((hfg i hi).symm.trans ei) (b1 i hi)
    · exact absurd ((hfg i hi).symm.trans ei) (b1 i hi)
  · rcases h2 with ⟨⟨i, hi, ei⟩, -⟩ | ⟨b1, b2, b3, b4, b5⟩ | ⟨b1, b2, -⟩
    · exact absurd ((hfg i hi).trans ei) (a1 i hi)
    · refine ⟨by omega, fun j hj => ?_⟩
      by_cases hw : (j : Int) < c
      · rw [a4 j hw, b4 j hw]
        exact hfg j hw
      · rw [show j = c.toNat by omega, a5, b5]
    · omega
  · rcases h2 with ⟨⟨i, hi, ei⟩, -⟩ | ⟨b1, b2, -⟩ | ⟨b1, b2, b3, b4, b5⟩
    · exact absurd ((hfg i hi).trans ei) (a1 i hi)
    · omega
    · refine ⟨by omega, fun j hj => ?_⟩
      by_cases hw : j < 11
      · rw [a4 j hw, b4 j hw]
        exact hfg (j + 1) (by omega)
      · rw [show j = 11 by omega, a5, b5]
/-! taps -/
def vg_tn (a : Int32) : Nat := if a.toInt = 0 then 3 else if a.toInt = 2 then 11 else 7
theorem vg_tn_0 {a : Int32} (h : a.toInt = 0) : vg_tn a = 3 := by rw [vg_tn, if_pos h]
theorem vg_tn_2 {a : Int32} (h : a.toInt = 2) : vg_tn a = 11 := by rw [vg_tn, if_neg (by omega), if_pos h]
theorem vg_tn_x {a : Int32} (h : ¬ a.toInt = 0) (h' : ¬ a.toInt = 2) : vg_tn a = 7 := by rw [vg_tn, if_neg h, if_neg h']
def vg_rp (a : Int32) : Nat := if a.toInt = 0 then 100 else if a.toInt = 1 then 101 else if a.toInt = 2 then 102 else 17
theorem vg_rp_0 {a : Int32} (h : a.toInt = 0) : vg_rp a = 100 := by rw [vg_rp, if_pos h]
theorem vg_rp_1 {a : Int32} (h : a.toInt = 1) : vg_rp a = 101 := by rw [vg_rp, if_neg (by omega), if_pos h]
theorem vg_rp_2 {a : Int32} (h : a.toInt = 2) : vg_rp a = 102 := by rw [vg_rp, if_neg (by omega), if_neg (by omega), if_pos h]
theorem vg_rp_3 {a : Int32} (h : ¬ a.toInt = 0) (h1 : ¬ a.toInt = 1) (h2 : ¬ a.toInt = 2) : vg_rp a = 17 := by rw [vg_rp, if_neg h, if_neg h1, if_neg h2]
def vg_tp (f : Nat → Int32) (a : Int32) (k : Nat) : Int32 := if a.toInt = 0 then ([1, 2, 1] : List Int32).getD k 0 else if a.toInt = 1 then ([-1, 0, 9, 16, 9, 0, -1] : List Int32).getD k 0 else if a.toInt = 2 then ([3, 0, -25, 0, 150, 256, 150, 0, -25, 0, 3] : List Int32).getD k 0 else f (min k (6 - k))
theorem vg_tp_0 {f : Nat → Int32} {a : Int32} {k : Nat} (h : a.toInt = 0) : vg_tp f a k = ([1, 2, 1] : List Int32).getD k 0 := by rw [vg_tp, if_pos h]
theorem vg_tp_1 {f : Nat → Int32} {a : Int32} {k : Nat} (h : a.toInt = 1) : vg_tp f a k = ([-1, 0, 9, 16, 9, 0, -1] : List Int32).getD k 0 := by rw [vg_tp, if_neg (by omega), if_pos h]
theorem vg_tp_2 {f : Nat → Int32} {a : Int32} {k : Nat} (h : a.toInt = 2) : vg_tp f a k = ([3, 0, -25, 0, 150, 256, 150, 0, -25, 0, 3] : List Int32).getD k 0 := by rw [vg_tp, if_neg (by omega), if_neg (by omega), if_pos h]
theorem vg_tp_3 {f : Nat → Int32} {a : Int32} {k : Nat} (h : ¬ a.toInt = 0) (h1 : ¬ a.toInt = 1) (h2 : ¬ a.toInt = 2) : vg_tp f a k = f (min k (6 - k)) := by rw [vg_tp, if_neg h, if_neg h1, if_neg h2]
/-- how many are not 0 -/
def vg_cnt (f : Nat → Int32) : Nat → Int32
  | 0 => Int32.ofInt 0
  | n + 1 => if (f n).toInt = 0 then vg_cnt f n else vg_cnt f n + Int32.ofInt 1
theorem vg_nx {i j : Int32} (hi : 0 ≤ i.toInt) (hj : j.toInt = i.toInt + 1) : j.toNatClampNeg = i.toNatClampNeg + 1 := by
  have h1 : i.toNatClampNeg = i.toInt.toNat := rfl
  have h2 : j.toNatClampNeg = j.toInt.toNat := rfl
  omega
theorem vg_cnt_s1 {g : Nat → Int32} {s t v i j : Int32} (h : s = vg_cnt g i.toNatClampNeg) (hv : v = g i.toNatClampNeg) (hc : ¬ v.toInt = 0) (ht : t = s + Int32.ofInt 1) (hi : 0 ≤ i.toInt) (hj : j.toInt = i.toInt + 1) : t = vg_cnt g j.toNatClampNeg := by
  rw [vg_nx hi hj, vg_cnt, ← hv, if_neg hc, ht, h]
theorem vg_cnt_s0 {g : Nat → Int32} {s v i j : Int32} (h : s = vg_cnt g i.toNatClampNeg) (hv : v = g i.toNatClampNeg) (hc : v.toInt = 0) (hi : 0 ≤ i.toInt) (hj : j.toInt = i.toInt + 1) : s = vg_cnt g j.toNatClampNeg := by
  rw [vg_nx hi hj, vg_cnt, ← hv, if_pos hc, h]
theorem vg_cnt_s2 {g : Nat → Int32} {s t v i j : Int32} (h : s = vg_cnt g i.toNatClampNeg) (hv : v = g i.toNatClampNeg) (hc : v.toInt = 0) (ht : t = s + Int32.ofInt 0) (hi : 0 ≤ i.toInt) (hj : j.toInt = i.toInt + 1) : t = vg_cnt g j.toNatClampNeg := by
  rw [vg_nx hi hj, vg_cnt, ← hv, if_pos hc, ht, h, show Int32.ofInt 0 = (0 : Int32) from rfl, Int32.add_zero]
theorem vg_cnt_to {g : Nat → Int32} {v i : Int32} {n : Nat} (h : v = vg_cnt g i.toNatClampNeg) (hn : i.toInt.toNat = n) : v = vg_cnt g n := by
  subst hn
  exact h
theorem vg_cnt_min {g : Nat → Int32} {v k : Int32} {a n : Nat} (h : v = vg_cnt g (min k.toInt.toNat a)) (hk : k.toInt = (n : Int)) (ha : a = n) : v = vg_cnt g a := by
  rw [h, show min k.toInt.toNat a = a by omega]
theorem vg_cnt_congr {f g : Nat → Int32} : ∀ {n : Nat}, (∀ j, j < n → f j = g j) → vg_cnt f n = vg_cnt g n
  | 0, _ => rfl
  | n + 1, h => by rw [vg_cnt, vg_cnt, vg_cnt_congr (n := n) (fun j hj => h j (by omega)), h n (by omega)]
theorem vg_rs_congr {f g : Nat → Int32} : ∀ {n : Nat}, (∀ j, j < n → f j = g j) → vg_rs f n = vg_rs g n
  | 0, _ => rfl
  | n + 1, h => by rw [vg_rs, vg_rs, vg_rs_congr (n := n) (fun j hj => h j (by omega)), h n (by omega)]
theorem vg_rs_nx {g : Nat → Int32} {s t v i : Int32} (h : s = vg_rs g i.toNatClampNeg) (hv : v = g i.toNatClampNeg) (ht : t = s + v) : t = vg_rs g (i.toNatClampNeg + 1) := by rw [vg_rs, ht, h, hv]
theorem vg_rs_up {g : Nat → Int32} {t i j : Int32} (h : t = vg_rs g (i.toNatClampNeg + 1)) (hi : 0 ≤ i.toInt) (hj : j.toInt = i.toInt + 1) : t = vg_rs g j.toNatClampNeg := by rw [vg_nx hi hj, h]
theorem vg_rs_to {g : Nat → Int32} {v i : Int32} {n : Nat} (h : v = vg_rs g i.toNatClampNeg) (hn : i.toInt.toNat = n) : v = vg_rs g n := by
  subst hn
  exact h
theorem vg_hb5 {g : Nat → Int32} {i v : Int32} (e : v = g i.toNatClampNeg) (h : i.toInt = 5) (hc : v.toInt = 0) : (g 5).toInt = 0 := by
  have h1 : i.toNatClampNeg = i.toInt.toNat := rfl
  rw [show i.toNatClampNeg = 5 by omega] at e
  rw [← e]
  exact hc
theorem vg_hb5n {σ : vg_S} {i v : Int32} (e : v = σ.1 17 i.toNatClampNeg) (h : i.toInt = 5) (hc : ¬ v.toInt = 0) : ¬ (σ.1 17 5).toInt = 0 := by
  have h1 : i.toNatClampNeg = i.toInt.toNat := rfl
  rw [show i.toNatClampNeg = 5 by omega] at e
  rw [← e]
  exact hc
theorem vg_hbl {g : Nat → Int32} {i v : Int32} {n : Nat} (e : v = g i.toNatClampNeg) (h : i.toInt = (n : Int)) (h0 : (g n).toInt = 0) : v.toInt = 0 := by
  have h1 : i.toNatClampNeg = i.toInt.toNat := rfl
  rw [show i.toNatClampNeg = n by omega] at e
  rw [e]
  exact h0
/-- whether a tap does not break a half-band -/
def vg_hbk (g : Nat → Int32) (m : Int) (k : Int) : Prop := k = m ∨ ¬ (k - m) % 2 = 0 ∨ (g k.toNat).toInt = 0
def vg_hbr (g : Nat → Int32) (m n : Int) (v : Int32) : Prop := (v.toInt = 1 ∧ ∀ k : Int, 0 ≤ k → k < n → vg_hbk g m k) ∨ (v.toInt = 0 ∧ ∃ k : Int, 0 ≤ k ∧ k < n ∧ ¬ vg_hbk g m k)
theorem vg_hbr0 {g : Nat → Int32} {m : Int} : vg_hbr g m (Int32.ofInt 0).toInt (Int32.ofInt 1) := by
  have z0 : (Int32.ofInt 0).toInt = 0 := by decide
  exact Or.inl ⟨by decide, fun k h1 h2 => by omega⟩
theorem vg_hbs0 {g : Nat → Int32} {m n n' : Int} {v : Int32} (h : vg_hbr g m n v) (hv : v.toInt = 0) (hn : n' = n + 1) : vg_hbr g m n' (Int32.ofInt 0) := by
  rcases h with ⟨h1, -⟩ | ⟨-, k, h1, h2, h3⟩
  · omega
  · exact Or.inr ⟨by decide, k, h1, by omega, h3⟩
theorem vg_hbs1 {g : Nat → Int32} {m n n' : Int} {v : Int32} (h : vg_hbr g m n v) (hv : ¬ v.toInt = 0) (h0 : 0 ≤ n) (hn : n' = n + 1) (hk : vg_hbk g m n) : vg_hbr g m n' (Int32.ofInt 1) := by
  rcases h with ⟨-, h1⟩ | ⟨h1, -⟩
  · refine Or.inl ⟨by decide, fun k h2 h3 => ?_⟩
    by_cases hw : k = n
    · rw [hw]
      exact hk
    · exact h1 k h2 (by omega)
  · exact absurd h1 hv
theorem vg_hbs2 {g : Nat → Int32} {m n' : Int} {i w : Int32} (hq : w = g i.toNatClampNeg) (hw : ¬ w.toInt = 0) (h0 : 0 ≤ i.toInt) (hn : n' = i.toInt + 1) (h1 : ¬ i.toInt = m) (h2 : (i.toInt - m) % 2 = 0) : vg_hbr g m n' (Int32.ofInt 0) := by
  refine Or.inr ⟨by decide, i.toInt, h0, by omega, ?_⟩
  rintro (h | h | h)
  · exact h1 h
  · exact h h2
  · have h9 : i.toInt.toNat = i.toNatClampNeg := rfl
    rw [h9, ← hq] at h
    exact hw h
theorem vg_hbt {g : Nat → Int32} {i w : Int32} (hq : w = g i.toNatClampNeg) (hw : w.toInt = 0) : (g i.toInt.toNat).toInt = 0 := by
  have h9 : i.toInt.toNat = i.toNatClampNeg := rfl
  rw [h9, ← hq]
  exact hw
theorem vg_hbr_to {g : Nat → Int32} {m n m' n' : Int} {v w : Int32} (h : vg_hbr g m n v) (hm : m = m' ∧ n = n') (hw : (v.toInt = 0 ∧ w.toInt = 0) ∨ (¬ v.toInt = 0 ∧ w.toInt = 1)) : vg_hbr g m' n' w := by
  obtain ⟨e1, e2⟩ := hm
  subst e1
  subst e2
  rcases h with ⟨h1, h2⟩ | ⟨h1, h2⟩
  · exact Or.inl ⟨by omega, h2⟩
  · exact Or.inr ⟨by omega, h2⟩
theorem vg_par_all : ∀ n : Fin 33, ((Int32.ofInt ((n.val : Int) - 16) - Int32.ofInt ((n.val : Int) - 16) / Int32.ofInt 2 * Int32.ofInt 2).toInt = 0 ↔ ((n.val : Int) - 16) % 2 = 0) := by decide +kernel
theorem vg_par {x v : Int32} (e : v = x - x / Int32.ofInt 2 * Int32.ofInt 2) (h1 : -16 ≤ x.toInt) (h2 : x.toInt ≤ 16) : v.toInt = 0 ↔ x.toInt % 2 = 0 := by
  have h := vg_par_all ⟨(x.toInt + 16).toNat, by omega⟩
  have h3 : (((⟨(x.toInt + 16).toNat, by omega⟩ : Fin 33).val : Int) - 16) = x.toInt := by
    show (((x.toInt + 16).toNat : Nat) : Int) - 16 = x.toInt
    omega
  rw [h3, Int32.ofInt_toInt, ← e] at h
  exact h
theorem vg_own4 {s0 s1 s2 s3 s4 s5 : vg_S} {a b c d sh : Int32} (e1 : s1 = vg_u1 s0 61 (Int32.ofInt 0).toNatClampNeg a) (e2 : s2 = vg_u1 s1 61 (Int32.ofInt 1).toNatClampNeg b) (e3 : s3 = vg_u1 s2 61 (Int32.ofInt 2).toNatClampNeg c) (e4 : s4 = vg_u1 s3 61 (Int32.ofInt 3).toNatClampNeg d) (e5 : s5 = vg_u1 s4 55 21 sh) : s5.1 55 21 = sh ∧ s5.1 61 0 = a ∧ s5.1 61 1 = b ∧ s5.1 61 2 = c ∧ s5.1 61 3 = d := by
  have n0 : (Int32.ofInt 0).toNatClampNeg = 0 := by decide
  have n1 : (Int32.ofInt 1).toNatClampNeg = 1 := by decide
  have n2 : (Int32.ofInt 2).toNatClampNeg = 2 := by decide
  have n3 : (Int32.ofInt 3).toNatClampNeg = 3 := by decide
  rw [n0] at e1
  rw [n1] at e2
  rw [n2] at e3
  rw [n3] at e4
  refine ⟨by rw [e5]; exact vg_u1_self, ?_⟩
  rw [e5, vg_u1_ne (show (61 : Nat) ≠ 55 by decide), e4]
  refine ⟨?_, ?_, ?_, vg_u1_self⟩ <;> rw [vg_u1_if, if_neg (by decide)]
  all_goals rw [e3, vg_u1_if]
  all_goals first | (rw [if_pos rfl]; done) | rw [if_neg (by decide), e2, vg_u1_if]
  all_goals first | (rw [if_pos rfl]; done) | rw [if_neg (by decide), e1, vg_u1_if]
  all_goals rw [if_pos rfl]
/-! what a comb answers to a single 1 -/
def vg_ps (f : Nat → Int32) (i : Nat) : Nat → Int32
  | 0 => Int32.ofInt 0
  | n + 1 => vg_ps f i n + (if n ≤ i then f (i - n) else Int32.ofInt 0)
def vg_cc (R : Nat) : Nat → Nat → Int32
  | 0, i => if i = 0 then Int32.ofInt 1 else Int32.ofInt 0
  | k + 1, i => vg_ps (vg_cc R k) i R
theorem vg_add0 {x : Int32} : x + Int32.ofInt 0 = x := by
  rw [show Int32.ofInt 0 = (0 : Int32) from rfl, Int32.add_zero]
theorem vg_ps_over {f : Nat → Int32} {i n : Nat} : ∀ m : Nat, i < n → vg_ps f i (n + m) = vg_ps f i n
  | 0, _ => rfl
  | m + 1, h => by rw [← Nat.add_assoc, vg_ps, if_neg (by omega), vg_add0, vg_ps_over m h]
theorem vg_ps_ge {f : Nat → Int32} {i n m : Nat} (h : i < n) (h' : n ≤ m) : vg_ps f i m = vg_ps f i n := by
  rw [show m = n + (m - n) by omega, vg_ps_over _ h]
theorem vg_ps_congr {f g : Nat → Int32} {i : Nat} : ∀ {n : Nat}, (∀ j, j ≤ i → f j = g j) → vg_ps f i n = vg_ps g i n
  | 0, _ => rfl
  | n + 1, h => by
    rw [vg_ps, vg_ps, vg_ps_congr (n := n) h]
    split
    · rw [h _ (by omega)]
    · rfl
def vg_lres (o r : Int32) : Int := o.toInt * (r.toInt - 1)
theorem vg_lres_mk {o r x y v : Int32} (e : v = x * y) (hx : x.toInt = o.toInt) (hy : y.toInt = r.toInt - 1) (h1 : 1 ≤ o.toInt ∧ o.toInt ≤ 5) (h2 : 1 ≤ r.toInt ∧ r.toInt ≤ 16) : v.toInt = vg_lres o r ∧ 0 ≤ v.toInt ∧ v.toInt ≤ 75 := by
  have p1 : 0 ≤ x.toInt * y.toInt := Int.mul_nonneg (by omega) (by omega)
  have p2 : x.toInt * y.toInt ≤ 5 * 15 := Int.mul_le_mul (by omega) (by omega) (by omega) (by omega)
  have p3 := vg_mul e (by omega) (by omega)
  have p4 : x.toInt * y.toInt = vg_lres o r := by rw [hx, hy, vg_lres]
  omega
def vg_fb (z s : vg_S) (i : Int32) : Prop := (∀ j : Nat, (j : Int) ≤ i.toInt → s.1 15 j = z.1 15 j) ∧ (∀ j : Nat, i.toInt < (j : Int) → j < 76 → s.1 15 j = vg_ps (z.1 15) j (z.1 12 1).toNatClampNeg)
theorem vg_fb0 {z : vg_S} {i : Int32} (h : i.toInt = 75) : vg_fb z z i := ⟨fun _ _ => rfl, fun j h1 h2 => by omega⟩
theorem vg_fb_in {z s : vg_S} {i l2 l3 x v t l3' : Int32} (h : vg_fb z s i) (h2 : l2 = vg_ps (z.1 15) i.toNatClampNeg l3.toNatClampNeg) (ea : v = s.1 15 x.toNatClampNeg) (hx : x.toInt = i.toInt - l3.toInt) (ht : t = l2 + v) (h0 : 0 ≤ l3.toInt) (h1 : l3.toInt ≤ i.toInt) (hl : l3'.toInt = l3.toInt + 1) : t = vg_ps (z.1 15) i.toNatClampNeg l3'.toNatClampNeg := by
  have e1 : x.toNatClampNeg = x.toInt.toNat := rfl
  have e2 : i.toNatClampNeg = i.toInt.toNat := rfl
  have e3 : l3.toNatClampNeg = l3.toInt.toNat := rfl
  rw [vg_nx h0 hl, vg_ps, if_pos (by omega), ht, h2, ea, h.1 _ (by omega), show x.toNatClampNeg = i.toNatClampNeg - l3.toNatClampNeg by omega]
theorem vg_fb_nx {z s s' : vg_S} {i i' l2 l3 : Int32} (h : vg_fb z s i) (h2 : l2 = vg_ps (z.1 15) i.toNatClampNeg l3.toNatClampNeg) (e : s' = vg_u1 s 15 i.toNatClampNeg l2) (h0 : 0 ≤ i.toInt) (hi : i'.toInt = i.toInt - 1) (h3 : 0 ≤ l3.toInt) (hl : l3.toInt = (z.1 12 1).toInt ∨ (l3.toInt = i.toInt + 1 ∧ l3.toInt ≤ (z.1 12 1).toInt)) : vg_fb z s' i' := by
  have e2 : i.toNatClampNeg = i.toInt.toNat := rfl
  have e3 : l3.toNatClampNeg = l3.toInt.toNat := rfl
  have e4 : (z.1 12 1).toNatClampNeg = (z.1 12 1).toInt.toNat := rfl
  refine ⟨fun j hj => ?_, fun j hj hk => ?_⟩
  · rw [e, vg_u1_if, if_neg (by omega)]
    exact h.1 j (by omega)
  · rw [e, vg_u1_if]
    by_cases hw : j = i.toNatClampNeg
    · rw [if_pos hw, h2, hw]
      rcases hl with hl | ⟨hl, hl2⟩
      · rw [show l3.toNatClampNeg = (z.1 12 1).toNatClampNeg by omega]
      · exact (vg_ps_ge (by omega) (by omega)).symm
    · rw [if_neg hw]
      exact h.2 j (by omega) hk
theorem vg_cc0 {R : Nat} {s s' : vg_S} (h : ∀ j : Nat, j < 76 → s.1 15 j = Int32.ofInt 0) (e : s' = vg_u1 s 15 (Int32.ofInt 0).toNatClampNeg (Int32.ofInt 1)) : ∀ j : Nat, j < 76 → s'.1 15 j = vg_cc R (Int32.ofInt 0).toNatClampNeg j := by
  have n0 : (Int32.ofInt 0).toNatClampNeg = 0 := by decide
  rw [n0] at e ⊢
  intro j hj
  rw [e, vg_u1_if, vg_cc]
  split
  · rfl
  · exact h j hj
theorem vg_cc1 {R : Nat} {s t : vg_S} {l l' : Int32} (h : ∀ j : Nat, j < 76 → s.1 15 j = vg_cc R l.toNatClampNeg j) (q : ∀ j : Nat, j < 76 → t.1 15 j = vg_ps (s.1 15) j (s.1 12 1).toNatClampNeg) (hR : (s.1 12 1).toNatClampNeg = R) (h0 : 0 ≤ l.toInt) (hl : l'.toInt = l.toInt + 1) : ∀ j : Nat, j < 76 → t.1 15 j = vg_cc R l'.toNatClampNeg j := by
  intro j hj
  rw [q j hj, hR, vg_nx h0 hl, vg_cc]
  exact vg_ps_congr (fun i hi => h i (by omega))
theorem vg_cc_at {R : Nat} {s : vg_S} {l o a v : Int32} (h : ∀ j : Nat, j < 76 → s.1 15 j = vg_cc R l.toNatClampNeg j) (ea : v = s.1 15 a.toNatClampNeg) (hl : l.toInt = o.toInt) (h0 : 0 ≤ a.toInt ∧ a.toInt ≤ 75) : v = vg_cc R o.toNatClampNeg a.toNatClampNeg := by
  have e2 : a.toNatClampNeg = a.toInt.toNat := rfl
  rw [ea, h _ (by omega), vg_eqi hl]
/-- how many numbers it answers -/
def vg_mn (R : Int) : Nat → Int
  | 0 => 1
  | k + 1 => vg_mn R k + (R - 1)
theorem vg_mn_mul (R : Int) : ∀ k : Nat, vg_mn R k = 1 + (k : Int) * (R - 1)
  | 0 => by simp [vg_mn]
  | k + 1 => by
    rw [vg_mn, vg_mn_mul R k, Int.natCast_succ, Int.add_mul, Int.one_mul, Int.add_assoc]
theorem vg_mn_up {R : Int} {l i j : Int32} (h : l.toInt = vg_mn R (i.toNatClampNeg + 1)) (hi : 0 ≤ i.toInt) (hj : j.toInt = i.toInt + 1) : l.toInt = vg_mn R j.toNatClampNeg := by rw [vg_nx hi hj, h]
theorem vg_mn_add {R : Int} {l l' : Int32} {k : Nat} (h : l.toInt = vg_mn R k) (h' : l'.toInt = l.toInt + R - 1) : l'.toInt = vg_mn R (k + 1) := by
  rw [vg_mn]
  omega
theorem vg_mn_at {R : Int} {l i o : Int32} (h : l.toInt = vg_mn R i.toNatClampNeg) (hi : i.toInt = o.toInt) : l.toInt = vg_mn R o.toNatClampNeg := by rw [← vg_eqi hi, h]
theorem vg_ps_zero {f : Nat → Int32} {i : Nat} : ∀ n : Nat, (∀ j, j < n → j ≤ i → f (i - j) = Int32.ofInt 0) → vg_ps f i n = Int32.ofInt 0
  | 0, _ => rfl
  | n + 1, h => by
    rw [vg_ps, vg_ps_zero n (fun j hj => h j (by omega))]
    split
    · rw [h n (by omega) (by assumption), vg_add0]
    · rw [vg_add0]
theorem vg_cc_sup {r : Int32} (hr : 1 ≤ r.toInt) : ∀ (k i : Nat), vg_mn r.toInt k ≤ (i : Int) → vg_cc r.toNatClampNeg k i = Int32.ofInt 0
  | 0, i, h => by
    rw [vg_mn] at h
    rw [vg_cc, if_neg (by omega)]
  | k + 1, i, h => by
    have e2 : r.toNatClampNeg = r.toInt.toNat := rfl
    rw [vg_mn] at h
    rw [vg_cc]
    exact vg_ps_zero _ (fun j h1 h2 => vg_cc_sup hr k _ (by omega))
def vg_rA (R : Nat) (s : vg_S) (k : Nat) (m : Int) : Prop := ∀ j : Nat, (j : Int) < m → s.1 62 j = vg_cc R k j
def vg_rB (R : Nat) (s : vg_S) (k : Nat) (m : Int) : Prop := ∀ j : Nat, (j : Int) < m → s.1 63 j = vg_cc R k j
theorem vg_rA0 {R : Nat} {s s' : vg_S} (e : s' = vg_u1 s 62 (Int32.ofInt 0).toNatClampNeg (Int32.ofInt 1)) : vg_rA R s' (Int32.ofInt 0).toNatClampNeg (Int32.ofInt 1).toInt := by
  have n0 : (Int32.ofInt 0).toNatClampNeg = 0 := by decide
  have z1 : (Int32.ofInt 1).toInt = 1 := by decide
  rw [n0] at e ⊢
  intro j hj
  have hj0 : j = 0 := by omega
  subst hj0
  rw [e, vg_u1_self, vg_cc, if_pos rfl]
theorem vg_rAv {R : Nat} {s : vg_S} {k : Nat} : vg_rA R s k (Int32.ofInt 0).toInt := fun j hj => by
  have z0 : (Int32.ofInt 0).toInt = 0 := by decide
  omega
theorem vg_rB0 {R : Nat} {s : vg_S} {k : Nat} : vg_rB R s k (Int32.ofInt 0).toInt := fun j hj => by
  have z0 : (Int32.ofInt 0).toInt = 0 := by decide
  omega
theorem vg_rA_up {R : Nat} {s : vg_S} {i j : Int32} {m m' : Int} (h : vg_rA R s (i.toNatClampNeg + 1) m) (hi : 0 ≤ i.toInt) (hj : j.toInt = i.toInt + 1) (hm : m' ≤ m) : vg_rA R s j.toNatClampNeg m' := by
  rw [vg_nx hi hj]
  exact fun q hq => h q (by omega)
theorem vg_rB_le {R : Nat} {s : vg_S} {k : Nat} {m m' : Int} (h : vg_rB R s k m) (hm : m' ≤ m) : vg_rB R s k m' := fun q hq => h q (by omega)
theorem vg_rB_nx {r : Int32} {s : vg_S} {k : Nat} {i i' q : Int32} (h : vg_rB r.toNatClampNeg s (k + 1) i.toInt) (hc : s.1 63 i.toNatClampNeg = vg_ps (vg_cc r.toNatClampNeg k) i.toNatClampNeg q.toNatClampNeg) (hq : q.toInt = r.toInt) (h0 : 0 ≤ i.toInt) (hi : i'.toInt = i.toInt + 1) : vg_rB r.toNatClampNeg s (k + 1) i'.toInt := fun j hj => by
  have e2 : i.toNatClampNeg = i.toInt.toNat := rfl
  by_cases hw : j = i.toNatClampNeg
  · rw [hw, hc, vg_eqi hq, vg_cc]
  · exact h j (by omega)
theorem vg_rA_63 {R : Nat} {s s' : vg_S} {k i : Nat} {m : Int} {x : Int32} (h : vg_rA R s k m) (e : s' = vg_u1 s 63 i x) : vg_rA R s' k m := fun j hj => by
  rw [e, vg_u1_ne (show (62 : Nat) ≠ 63 by decide)]
  exact h j hj
theorem vg_rB_62 {R : Nat} {s s' : vg_S} {k i : Nat} {m : Int} {x : Int32} (h : vg_rB R s k m) (e : s' = vg_u1 s 62 i x) : vg_rB R s' k m := fun j hj => by
  rw [e, vg_u1_ne (show (63 : Nat) ≠ 62 by decide)]
  exact h j hj
theorem vg_rB_63 {R : Nat} {s s' : vg_S} {k : Nat} {i x : Int32} (h : vg_rB R s k i.toInt) (e : s' = vg_u1 s 63 i.toNatClampNeg x) (h0 : 0 ≤ i.toInt) : vg_rB R s' k i.toInt := fun j hj => by
  have e2 : i.toNatClampNeg = i.toInt.toNat := rfl
  rw [e, vg_u1_if, if_neg (by omega)]
  exact h j hj
theorem vg_C0 {f : Nat → Int32} {s s' : vg_S} {i : Int32} (e : s' = vg_u1 s 63 i.toNatClampNeg (Int32.ofInt 0)) : s'.1 63 i.toNatClampNeg = vg_ps f i.toNatClampNeg (Int32.ofInt 0).toNatClampNeg := by
  rw [e, vg_u1_self]
  rfl
theorem vg_C1A {R : Nat} {s s' : vg_S} {k : Nat} {i q q' x u w t : Int32} {m : Int} (hA : vg_rA R s k m) (hc : s.1 63 i.toNatClampNeg = vg_ps (vg_cc R k) i.toNatClampNeg q.toNatClampNeg) (eu : u = s.1 63 i.toNatClampNeg) (ew : w = s.1 62 x.toNatClampNeg) (et : t = u + w) (e : s' = vg_u1 s 63 i.toNatClampNeg t) (hx : x.toInt = i.toInt - q.toInt) (h0 : 0 ≤ q.toInt) (h1 : 0 ≤ x.toInt) (h2 : x.toInt < m) (hq : q'.toInt = q.toInt + 1) : s'.1 63 i.toNatClampNeg = vg_ps (vg_cc R k) i.toNatClampNeg q'.toNatClampNeg := by
  have e1 : x.toNatClampNeg = x.toInt.toNat := rfl
  have e2 : i.toNatClampNeg = i.toInt.toNat := rfl
  have e3 : q.toNatClampNeg = q.toInt.toNat := rfl
  rw [e, vg_u1_self, vg_nx h0 hq, vg_ps, if_pos (by omega), et, eu, hc, ew, hA _ (by omega), show x.toNatClampNeg = i.toNatClampNeg - q.toNatClampNeg by omega]
theorem vg_C1B {r : Int32} {s s' : vg_S} {k : Nat} {i q q' u t l : Int32} (hm : l.toInt = vg_mn r.toInt k) (hc : s.1 63 i.toNatClampNeg = vg_ps (vg_cc r.toNatClampNeg k) i.toNatClampNeg q.toNatClampNeg) (eu : u = s.1 63 i.toNatClampNeg) (et : t = u + Int32.ofInt 0) (e : s' = vg_u1 s 63 i.toNatClampNeg t) (h0 : 0 ≤ q.toInt) (hr : 1 ≤ r.toInt) (h1 : 0 ≤ i.toInt) (h2 : i.toInt - q.toInt < 0 ∨ l.toInt ≤ i.toInt - q.toInt) (hq : q'.toInt = q.toInt + 1) : s'.1 63 i.toNatClampNeg = vg_ps (vg_cc r.toNatClampNeg k) i.toNatClampNeg q'.toNatClampNeg := by
  have e2 : i.toNatClampNeg = i.toInt.toNat := rfl
  have e3 : q.toNatClampNeg = q.toInt.toNat := rfl
  rw [e, vg_u1_self, vg_nx h0 hq, vg_ps, et, eu, hc]
  split
  · rw [vg_cc_sup hr k _ (by omega)]
  · rfl
theorem vg_rA_nx {R : Nat} {s s' : vg_S} {k : Nat} {i i' v : Int32} {m : Int} (h : vg_rA R s k i.toInt) (hB : vg_rB R s k m) (ea : v = s.1 63 i.toNatClampNeg) (e : s' = vg_u1 s 62 i.toNatClampNeg v) (h0 : 0 ≤ i.toInt) (h1 : i.toInt < m) (hi : i'.toInt = i.toInt + 1) : vg_rA R s' k i'.toInt := fun j hj => by
  have e2 : i.toNatClampNeg = i.toInt.toNat := rfl
  rw [e, vg_u1_if]
  by_cases hw : j = i.toNatClampNeg
  · rw [if_pos hw, ea, hw, hB _ (by omega)]
  · rw [if_neg hw]
    exact h j (by omega)
theorem vg_rA_at {R : Nat} {s : vg_S} {l o a v : Int32} {m : Int} (h : vg_rA R s l.toNatClampNeg m) (ea : v = s.1 62 a.toNatClampNeg) (hl : l.toInt = o.toInt) (h0 : 0 ≤ a.toInt) (h1 : a.toInt < m) : v = vg_cc R o.toNatClampNeg a.toNatClampNeg := by
  have e2 : a.toNatClampNeg = a.toInt.toNat := rfl
  rw [ea, h _ (by omega), vg_eqi hl]
