/-! the pattern of a tone -/
def q_pf (O : Nat → Int32) (l p : Int) : Nat → Int32 := fun i => O (l + (i : Int) % p).toNat
theorem q_pf_per {O : Nat → Int32} {l p : Int} (hp : 1 ≤ p) (i : Nat) : q_pf O l p (i + p.toNat) = q_pf O l p i := by
  unfold q_pf
  rw [show ((i + p.toNat : Nat) : Int) = (i : Int) + p by omega, Int.add_emod_right]
theorem q_pf_mod {O : Nat → Int32} {l p : Int} (hp : 1 ≤ p) (i j : Nat) : q_pf O l p (i % p.toNat + j) = q_pf O l p (i + j) := by
  unfold q_pf
  have h1 : ((i % p.toNat + j : Nat) : Int) % p = ((i + j : Nat) : Int) % p := by
    rw [show ((i % p.toNat + j : Nat) : Int) = ((i % p.toNat : Nat) : Int) + (j : Int) by omega, show ((i + j : Nat) : Int) = (i : Int) + (j : Int) by omega, Int.natCast_emod, show ((p.toNat : Nat) : Int) = p by omega, Int.emod_add_emod]
  rw [h1]
theorem q_pf_cg {O O' : Nat → Int32} {l p : Int} (hl : 0 ≤ l) (hp : 1 ≤ p) (h : ∀ j : Nat, (j : Int) < l + p → O j = O' j) : q_pf O l p = q_pf O' l p := by
  funext i
  unfold q_pf
  have h1 := Int.emod_nonneg (i : Int) (show p ≠ 0 by omega)
  have h2 := Int.emod_lt_of_pos (i : Int) (show 0 < p by omega)
  exact h _ (by omega)
/-- how often an out is followed by another one -/
def q_ch (f : Nat → Int32) : Nat → Nat
  | 0 => 0
  | n + 1 => q_ch f n + if (f n).toInt = (f (n + 1)).toInt then 0 else 1
theorem q_ch_0 {f : Nat → Int32} : ∀ n : Nat, q_ch f n = 0 → ∀ j : Nat, j ≤ n → f j = f 0
  | 0, _, j, hj => by rw [show j = 0 by omega]
  | n + 1, h, j, hj => by
    rw [q_ch] at h
    by_cases hc : (f n).toInt = (f (n + 1)).toInt
    · rw [if_pos hc] at h
      have ih := q_ch_0 n (by omega)
      by_cases hjn : j = n + 1
      · rw [hjn, ← vg_eqi hc]
        exact ih n (by omega)
      · exact ih j (by omega)
    · rw [if_neg hc] at h
      omega
theorem q_ch_1 {f : Nat → Int32} : ∀ n : Nat, (∀ j : Nat, j ≤ n → f j = f 0) → q_ch f n = 0
  | 0, _ => rfl
  | n + 1, h => by rw [q_ch, q_ch_1 n (fun j hj => h j (by omega)), h n (by omega), h (n + 1) (by omega), if_pos rfl]
theorem q_ch_le {f : Nat → Int32} : ∀ n : Nat, q_ch f n ≤ n
  | 0 => Nat.le_refl 0
  | n + 1 => by
    have := q_ch_le (f := f) n
    rw [q_ch]
    split <;> omega
/-- how many unlike ones -/
def q_fr (f : Nat → Int32) (k : Nat) : Nat → Bool
  | 0 => true
  | j + 1 => q_fr f k j && !(decide ((f j).toInt = (f k).toInt))
def q_ul (f : Nat → Int32) : Nat → Nat
  | 0 => 0
  | n + 1 => q_ul f n + if q_fr f n n = true then 1 else 0
theorem q_ul_le {f : Nat → Int32} : ∀ n : Nat, q_ul f n ≤ n
  | 0 => Nat.le_refl 0
  | n + 1 => by
    have := q_ul_le (f := f) n
    rw [q_ul]
    split <;> omega
theorem q_fr_ex {f : Nat → Int32} {k : Nat} : ∀ n : Nat, q_fr f k n = true ↔ ∀ j : Nat, j < n → ¬ (f j).toInt = (f k).toInt
  | 0 => ⟨fun _ j hj => absurd hj (by omega), fun _ => rfl⟩
  | n + 1 => by
    have ih := q_fr_ex (f := f) (k := k) n
    rw [q_fr, Bool.and_eq_true, ih, Bool.not_eq_true', decide_eq_false_iff_not]
    constructor
    · rintro ⟨h1, h2⟩ j hj
      by_cases hjn : j = n
      · rw [hjn]; exact h2
      · exact h1 j (by omega)
    · intro h
      exact ⟨fun j hj => h j (by omega), h n (by omega)⟩
/-- bits that are set -/
def q_or (f : Nat → Int32) : Nat → Int32
  | 0 => Int32.ofInt 0
  | n + 1 => q_or f n ||| (Int32.ofInt 1 <<< (f n &&& (31 : Int32)))
def q_bn2 (x : Nat) : Nat := x
/-- as many bits as the JDK counts -/
def q_bc1 (x : Int32) : Int32 := x - ((x.toUInt32 >>> ((Int32.ofInt 1).toUInt32 &&& Int32.toUInt32 31)).toInt32 &&& Int32.ofInt 1431655765)
def q_bc2' (x : Int32) : Int32 := (x &&& Int32.ofInt 858993459) + ((x.toUInt32 >>> ((Int32.ofInt 2).toUInt32 &&& Int32.toUInt32 31)).toInt32 &&& Int32.ofInt 858993459)
def q_bc3 (x : Int32) : Int32 := (x + (x.toUInt32 >>> ((Int32.ofInt 4).toUInt32 &&& Int32.toUInt32 31)).toInt32) &&& Int32.ofInt 252645135
def q_bc4 (x : Int32) : Int32 := x + (x.toUInt32 >>> ((Int32.ofInt 8).toUInt32 &&& Int32.toUInt32 31)).toInt32
def q_bc5 (x : Int32) : Int32 := x + (x.toUInt32 >>> ((Int32.ofInt 16).toUInt32 &&& Int32.toUInt32 31)).toInt32
def q_bcn (x : Int32) : Int32 := q_bc5 (q_bc4 (q_bc3 (q_bc2' (q_bc1 x)))) &&& Int32.ofInt 63
/-- the same of natural numbers -/
def q_Fn (x : Nat) : Nat :=
  let a := x - ((x >>> 1) &&& 1431655765)
  let b := (a &&& 858993459) + ((a >>> 2) &&& 858993459)
  let c := (b + (b >>> 4)) &&& 252645135
  let d := c + (c >>> 8)
  (d + (d >>> 16)) &&& 63
def q_tst (n : Nat) : Bool := Nat.beq (q_Fn (2 * n)) (q_Fn n) && Nat.beq (q_Fn (2 * n + 1)) (q_Fn n + 1)
def q_all : Nat → Nat → Bool
  | 0, lo => q_tst lo
  | k + 1, lo => q_all k lo && q_all k (lo + 2 ^ k)
theorem q_all_ok : ∀ (k lo : Nat), q_all k lo = true → ∀ n : Nat, lo ≤ n → n < lo + 2 ^ k → q_tst n = true
  | 0, lo, h, n, h1, h2 => by
    rw [show n = lo by omega]
    exact h
  | k + 1, lo, h, n, h1, h2 => by
    rw [q_all, Bool.and_eq_true] at h
    have hp : 2 ^ (k + 1) = 2 ^ k + 2 ^ k := by rw [Nat.pow_succ]; omega
    by_cases hn : n < lo + 2 ^ k
    · exact q_all_ok k lo h.1 n h1 hn
    · exact q_all_ok k (lo + 2 ^ k) h.2 n (by omega) (by omega)
set_option maxRecDepth 100000 in
theorem q_all_16 : q_all 16 0 = true := by decide +kernel
theorem q_F2 {n : Nat} (h : n < 65536) : q_Fn (2 * n) = q_Fn n ∧ q_Fn (2 * n + 1) = q_Fn n + 1 := by
  have h1 := q_all_ok 16 0 q_all_16 n (by omega) (by omega)
  rw [q_tst, Bool.and_eq_true] at h1
  exact ⟨Nat.eq_of_beq_eq_true h1.1, Nat.eq_of_beq_eq_true h1.2⟩
/-- bits that are set -/
def q_pc (x : Nat) : Nat → Nat
  | 0 => 0
  | k + 1 => q_pc x k + (x.testBit k).toNat
theorem q_pc_s {x : Nat} : ∀ k : Nat, q_pc x (k + 1) = x % 2 + q_pc (x / 2) k
  | 0 => by
    show 0 + (x.testBit 0).toNat = x % 2 + 0
    rw [Nat.testBit_zero]
    rcases (show x % 2 = 0 ∨ x % 2 = 1 by omega) with h | h <;> simp [h]
  | k + 1 => by
    rw [q_pc, q_pc_s k, q_pc, Nat.testBit_succ]
    omega
theorem q_F_pc : ∀ (k x : Nat), k ≤ 17 → x < 2 ^ k → q_Fn x = q_pc x k
  | 0, x, _, h => by
    rw [show x = 0 by omega]
    decide
  | k + 1, x, hk, h => by
    have hp : 2 ^ (k + 1) = 2 * 2 ^ k := by rw [Nat.pow_succ]; omega
    have hx : x / 2 < 2 ^ k := by omega
    have hb : 2 ^ k ≤ 2 ^ 16 := Nat.pow_le_pow_right (by decide) (by omega)
    have h2 := q_F2 (n := x / 2) (by omega)
    have ih := q_F_pc k (x / 2) (by omega) hx
    rw [q_pc_s]
    rcases (show x % 2 = 0 ∨ x % 2 = 1 by omega) with q | q
    · rw [show x = 2 * (x / 2) by omega, h2.1, ih, show 2 * (x / 2) % 2 = 0 by omega, show 2 * (x / 2) / 2 = x / 2 by omega]
      omega
    · rw [show x = 2 * (x / 2) + 1 by omega, h2.2, ih, show (2 * (x / 2) + 1) % 2 = 1 by omega, show (2 * (x / 2) + 1) / 2 = x / 2 by omega]
      omega
theorem q_pc_or {x y : Nat} : ∀ k : Nat, q_pc (x ||| 2 ^ y) k = q_pc x k + if y < k ∧ x.testBit y = false then 1 else 0
  | 0 => by
    rw [if_neg (by omega)]
    rfl
  | k + 1 => by
    rw [q_pc, q_pc, q_pc_or k, Nat.testBit_or, Nat.testBit_two_pow]
    by_cases hy : y = k
    · subst hy
      rw [if_neg (by omega)]
      cases hb : x.testBit y <;> simp
    · by_cases hc : y < k ∧ x.testBit y = false
      · rw [if_pos hc, if_pos ⟨by omega, hc.2⟩]
        simp [hy]
        omega
      · rw [if_neg hc, if_neg (by intro q; exact hc ⟨by omega, q.2⟩)]
        simp [hy]
/-- the bits as natural numbers -/
def q_N (x : Int32) : Nat := x.toBitVec.toNat
theorem q_N_lt (x : Int32) : q_N x < 4294967296 := x.toBitVec.isLt
theorem q_N_or {x y : Int32} : q_N (x ||| y) = q_N x ||| q_N y := by
  show (x.toBitVec ||| y.toBitVec).toNat = _
  rw [BitVec.toNat_or]
  rfl
theorem q_N_and {x y : Int32} : q_N (x &&& y) = q_N x &&& q_N y := by
  show (x.toBitVec &&& y.toBitVec).toNat = _
  rw [BitVec.toNat_and]
  rfl
theorem q_N_add {x y : Int32} (h : q_N x + q_N y < 4294967296) : q_N (x + y) = q_N x + q_N y := by
  show (x.toBitVec + y.toBitVec).toNat = _
  rw [BitVec.toNat_add]
  exact Nat.mod_eq_of_lt h
theorem q_N_sub {x y : Int32} (h : q_N y ≤ q_N x) : q_N (x - y) = q_N x - q_N y := by
  show (x.toBitVec - y.toBitVec).toNat = _
  rw [BitVec.toNat_sub_of_le h]
  rfl
theorem q_N_shr {x : Int32} {c : UInt32} {k : Nat} (hc : c.toNat % 32 = k) : q_N (x.toUInt32 >>> c).toInt32 = q_N x >>> k := by
  show (x.toUInt32 >>> c).toNat = _
  rw [UInt32.toNat_shiftRight, hc]
  rfl
theorem q_N_i {x : Int32} (h : q_N x < 2147483648) : x.toInt = (q_N x : Int) := by
  show x.toBitVec.toInt = _
  rw [BitVec.toInt_eq_toNat_cond]
  have h2 : x.toBitVec.toNat < 2147483648 := h
  rw [if_pos (by omega)]
  rfl
theorem q_bcn_F {x : Int32} (h : q_N x < 131072) : (q_bcn x).toInt = (q_Fn (q_N x) : Int) := by
  have s1 : ((Int32.ofInt 1).toUInt32 &&& Int32.toUInt32 31).toNat % 32 = 1 := by decide
  have s2 : ((Int32.ofInt 2).toUInt32 &&& Int32.toUInt32 31).toNat % 32 = 2 := by decide
  have s4 : ((Int32.ofInt 4).toUInt32 &&& Int32.toUInt32 31).toNat % 32 = 4 := by decide
  have s8 : ((Int32.ofInt 8).toUInt32 &&& Int32.toUInt32 31).toNat % 32 = 8 := by decide
  have s16 : ((Int32.ofInt 16).toUInt32 &&& Int32.toUInt32 31).toNat % 32 = 16 := by decide
  have m5 : q_N (Int32.ofInt 1431655765) = 1431655765 := by decide
  have m3 : q_N (Int32.ofInt 858993459) = 858993459 := by decide
  have m0 : q_N (Int32.ofInt 252645135) = 252645135 := by decide
  have m6 : q_N (Int32.ofInt 63) = 63 := by decide
  -- first
  obtain ⟨a, ha⟩ : ∃ a, a = q_bc1 x := ⟨_, rfl⟩
  have na : q_N a = q_N x - ((q_N x >>> 1) &&& 1431655765) := by
    have e : q_N ((x.toUInt32 >>> ((Int32.ofInt 1).toUInt32 &&& Int32.toUInt32 31)).toInt32 &&& Int32.ofInt 1431655765) = (q_N x >>> 1) &&& 1431655765 := by rw [q_N_and, q_N_shr s1, m5]
    have l1 : (q_N x >>> 1) &&& 1431655765 ≤ q_N x >>> 1 := Nat.and_le_left
    have l2 : q_N x >>> 1 ≤ q_N x := by rw [Nat.shiftRight_eq_div_pow]; exact Nat.div_le_self _ _
    rw [ha, q_bc1, q_N_sub (by rw [e]; omega), e]
  have la : q_N a < 131072 := by omega
  obtain ⟨b, hb⟩ : ∃ b, b = q_bc2' a := ⟨_, rfl⟩
  have t1 : q_N a &&& 858993459 ≤ 858993459 := Nat.and_le_right
  have t2 : (q_N a >>> 2) &&& 858993459 ≤ 858993459 := Nat.and_le_right
  have nb : q_N b = (q_N a &&& 858993459) + ((q_N a >>> 2) &&& 858993459) := by
    rw [hb, q_bc2', q_N_add (by rw [q_N_and, q_N_and, q_N_shr s2, m3]; omega), q_N_and, q_N_and, q_N_shr s2, m3]
  obtain ⟨c, hc⟩ : ∃ c, c = q_bc3 b := ⟨_, rfl⟩
  have lb : q_N b ≤ 1717986918 := by omega
  have t3 : q_N b >>> 4 ≤ q_N b / 16 := by rw [Nat.shiftRight_eq_div_pow]; exact Nat.le_refl _
  have nc : q_N c = (q_N b + (q_N b >>> 4)) &&& 252645135 := by
    rw [hc, q_bc3, q_N_and, q_N_add (by rw [q_N_shr s4]; omega), q_N_shr s4, m0]
  have lc : q_N c ≤ 252645135 := by rw [nc]; exact Nat.and_le_right
  obtain ⟨d, hd⟩ : ∃ d, d = q_bc4 c := ⟨_, rfl⟩
  have t4 : q_N c >>> 8 ≤ q_N c / 256 := by rw [Nat.shiftRight_eq_div_pow]; exact Nat.le_refl _
  have nd : q_N d = q_N c + (q_N c >>> 8) := by
    rw [hd, q_bc4, q_N_add (by rw [q_N_shr s8]; omega), q_N_shr s8]
  obtain ⟨e, he⟩ : ∃ e, e = q_bc5 d := ⟨_, rfl⟩
  have t5 : q_N d >>> 16 ≤ q_N d / 65536 := by rw [Nat.shiftRight_eq_div_pow]; exact Nat.le_refl _
  have ne : q_N e = q_N d + (q_N d >>> 16) := by
    rw [he, q_bc5, q_N_add (by rw [q_N_shr s16]; omega), q_N_shr s16]
  have nf : q_N (q_bcn x) = q_Fn (q_N x) := by
    rw [q_bcn, ← ha, ← hb, ← hc, ← hd, ← he, q_N_and, m6, ne, nd, nc, nb, na]
    rfl
  rw [q_N_i, nf]
  rw [q_bcn, q_N_and, m6]
  have : q_N (q_bc5 (q_bc4 (q_bc3 (q_bc2' (q_bc1 x))))) &&& 63 ≤ 63 := Nat.and_le_right
  omega
theorem q_shl_N {y : Int32} (h : 0 ≤ y.toInt ∧ y.toInt ≤ 16) : q_N (Int32.ofInt 1 <<< (y &&& (31 : Int32))) = 2 ^ y.toInt.toNat := by
  rcases (show y.toInt = 0 ∨ y.toInt = 1 ∨ y.toInt = 2 ∨ y.toInt = 3 ∨ y.toInt = 4 ∨ y.toInt = 5 ∨ y.toInt = 6 ∨ y.toInt = 7 ∨ y.toInt = 8 ∨ y.toInt = 9 ∨ y.toInt = 10 ∨ y.toInt = 11 ∨ y.toInt = 12 ∨ y.toInt = 13 ∨ y.toInt = 14 ∨ y.toInt = 15 ∨ y.toInt = 16 by omega) with q | q | q | q | q | q | q | q | q | q | q | q | q | q | q | q | q <;> rw [q, q_lit q] <;> decide
/-- as many unlike ones as bits -/
theorem q_or_bits {f : Nat → Int32} (hf : ∀ i : Nat, 0 ≤ (f i).toInt ∧ (f i).toInt ≤ 16) : ∀ n : Nat, q_N (q_or f n) < 2 ^ 17 ∧ (∀ y : Nat, (q_N (q_or f n)).testBit y = true ↔ ∃ i : Nat, i < n ∧ (f i).toInt = (y : Int)) ∧ q_pc (q_N (q_or f n)) 17 = q_ul f n
  | 0 => by
    have h0 : q_N (q_or f 0) = 0 := by show q_N (Int32.ofInt 0) = 0; decide
    rw [h0]
    refine ⟨by decide, fun y => ?_, by show q_pc 0 17 = 0; decide⟩
    rw [Nat.zero_testBit]
    constructor
    · intro q; cases q
    · rintro ⟨i, hi, -⟩; omega
  | n + 1 => by
    obtain ⟨i1, i2, i3⟩ := q_or_bits hf n
    have hr := hf n
    have hN : q_N (q_or f (n + 1)) = q_N (q_or f n) ||| 2 ^ (f n).toInt.toNat := by rw [q_or, q_N_or, q_shl_N hr]
    rw [hN]
    refine ⟨Nat.or_lt_two_pow i1 (Nat.pow_lt_pow_right (by decide) (by omega)), fun y => ?_, ?_⟩
    · rw [Nat.testBit_or, Bool.or_eq_true, i2 y, Nat.testBit_two_pow, decide_eq_true_eq]
      constructor
      · rintro (⟨i, hi, he⟩ | he)
        · exact ⟨i, by omega, he⟩
        · exact ⟨n, by omega, by omega⟩
      · rintro ⟨i, hi, he⟩
        by_cases hin : i = n
        · right
          rw [hin] at he
          omega
        · exact Or.inl ⟨i, by omega, he⟩
    · rw [q_pc_or, i3, q_ul]
      have hq : (q_N (q_or f n)).testBit (f n).toInt.toNat = false ↔ q_fr f n n = true := by
        rw [q_fr_ex, ← Bool.not_eq_true, i2]
        constructor
        · intro g j hj he
          exact g ⟨j, hj, by omega⟩
        · rintro g ⟨j, hj, he⟩
          exact g j hj (by omega)
      by_cases hc : q_fr f n n = true
      · rw [if_pos hc, if_pos ⟨by omega, hq.mpr hc⟩]
      · rw [if_neg hc, if_neg (fun q => hc (hq.mp q.2))]
theorem q_bcn_ul {f : Nat → Int32} (hf : ∀ i : Nat, 0 ≤ (f i).toInt ∧ (f i).toInt ≤ 16) (n : Nat) : (q_bcn (q_or f n)).toInt = (q_ul f n : Int) := by
  have h := q_or_bits hf n
  rw [q_bcn_F (by have := h.1; omega), q_F_pc 17 _ (by decide) h.1, h.2.2]
