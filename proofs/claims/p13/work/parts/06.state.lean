/-! the places of the class's cells (0 to 54) and the reference's (55 to 67); what always holds; what most calls keep -/
def vg_sh : List vg_C := [.inr (10, [0, 0, 0, 3, 5, 9, 14, 18, 20, 21, 22, 24, 28, 33]), .inr (7, [0, 0, 0, 0, 4]), .inl (0, 16, []), .inr (5, [6, 7, 8, 0, 0, 0, 0, 0, 0, 1, 1, 1, 1, 1]), .inr (6, [0, 0, 0, 0, 0, 0, 0, 0]), .inl (0, 4, []), .inl (0, 6, []), .inr (2, [0, 0, 0, 0, 10, 11, 12, 13, 1, 1, 1]), .inl (0, 16, []), .inl (0, 16, []), .inl (0, 16, []), .inl (0, 16, []), .inr (1, [0, 0, 0, 0, 15, 16, 0, 0, 1, 17]), .inl (1, 5, []), .inl (1, 5, []), .inl (0, 76, []), .inr (8, [19, 0]), .inl (0, 7, []), .inl (2, 3, [35, 37, 39]), .inl (3, 7, [41, 43, 45, 47, 49, 51, 53]), .inr (0, [23, 0]), .inl (0, 12, []), .inr (5, [25, 26, 27, 0, 0, 0, 0, 0, 0, 1, 1, 1, 1, 1]), .inr (6, [0, 0, 0, 0, 0, 0, 0, 0]), .inl (0, 4, []), .inl (0, 6, []), .inr (2, [0, 0, 0, 0, 29, 30, 31, 32, 1, 1, 1]), .inl (0, 16, []), .inl (0, 16, []), .inl (0, 16, []), .inl (0, 16, []), .inr (9, [34, 35, 36, 0, 0, 0]), .inl (0, 1000, []), .inl (0, 10010, []), .inl (0, 2048, []), .inr (3, [0, 38, 0, 0]), .inl (0, 16, []), .inr (3, [0, 40, 0, 0]), .inl (0, 16, []), .inr (3, [0, 42, 0, 0]), .inl (0, 16, []), .inr (4, [44, 0, 0, 0]), .inl (0, 64, []), .inr (4, [46, 0, 0, 0]), .inl (0, 64, []), .inr (4, [48, 0, 0, 0]), .inl (0, 64, []), .inr (4, [50, 0, 0, 0]), .inl (0, 64, []), .inr (4, [52, 0, 0, 0]), .inl (0, 64, []), .inr (4, [54, 0, 0, 0]), .inl (0, 64, []), .inr (4, [56, 0, 0, 0]), .inl (0, 64, []), .inr (11, [58, 59, 0, 0, 0, 0, 0, 0, 0, 0, 0, 0, 0, 0, 0, 0, 0, 0, 0, 0, 0, 0, 60, 61, 62, 63, 64, 65, 66, 67, 0, 0, 68, 0, 69]), .inl (1, 481, []), .inl (1, 481, []), .inl (0, 16, []), .inl (0, 16, []), .inl (0, 3, []), .inl (0, 4, []), .inl (0, 80, []), .inl (0, 80, []), .inl (1, 17017, []), .inl (0, 1000, []), .inl (0, 13, []), .inl (1, 481, [])]
def vg_shb : List vg_C → Bool
  | [] => true
  | .inl (t, _, _) :: r => Nat.ble t 3 && vg_shb r
  | .inr _ :: r => vg_shb r
theorem vg_shb_go : ∀ (sh : List vg_C), vg_shb sh = true → ∀ r t n rs, vg_nth sh r = some (.inl (t + 2, n, rs)) → t = 0 ∨ t = 1
  | [], _, r, t, n, rs, h => by cases h
  | .inl (t0, n0, r0) :: l, hb, 0, t, n, rs, h => by
    simp only [vg_shb, Bool.and_eq_true] at hb
    have := Nat.le_of_ble_eq_true hb.1
    simp only [vg_nth, Option.some.injEq, Sum.inl.injEq, Prod.mk.injEq] at h
    omega
  | .inr x :: l, hb, 0, t, n, rs, h => by cases h
  | .inl (t0, n0, r0) :: l, hb, r + 1, t, n, rs, h => by
    simp only [vg_shb, Bool.and_eq_true] at hb
    exact vg_shb_go l hb.2 r t n rs h
  | .inr x :: l, hb, r + 1, t, n, rs, h => vg_shb_go l hb r t n rs h
theorem vg_sh_ok : ∀ r t n rs, vg_nth vg_sh r = some (.inl (t + 2, n, rs)) → t = 0 ∨ t = 1 := vg_shb_go vg_sh (by decide +kernel)
/-! numbers -/
theorem vg_add {x y v : Int32} (e : v = x + y) (h1 : -2147483648 ≤ x.toInt + y.toInt) (h2 : x.toInt + y.toInt ≤ 2147483647) : v.toInt = x.toInt + y.toInt := by
  rw [e, Int32.toInt_add]
  simp only [Int.bmod]
  omega
theorem vg_sub {x y v : Int32} (e : v = x - y) (h1 : -2147483648 ≤ x.toInt - y.toInt) (h2 : x.toInt - y.toInt ≤ 2147483647) : v.toInt = x.toInt - y.toInt := by
  rw [e, Int32.toInt_sub]
  simp only [Int.bmod]
  omega
theorem vg_mul {x y v : Int32} (e : v = x * y) (h1 : -2147483648 ≤ x.toInt * y.toInt) (h2 : x.toInt * y.toInt ≤ 2147483647) : v.toInt = x.toInt * y.toInt := by
  rw [e, Int32.toInt_mul]
  generalize x.toInt * y.toInt = z at h1 h2
  simp only [Int.bmod]
  omega
theorem vg_and {x y v : Int32} (e : v = x &&& y) (h : 0 ≤ y.toInt) : 0 ≤ v.toInt ∧ v.toInt ≤ y.toInt := by
  subst e
  have hy : y.toBitVec.msb = false := by
    rw [BitVec.msb_eq_false_iff_two_mul_lt]
    have h2 : y.toInt = y.toBitVec.toInt := rfl
    rw [h2, BitVec.toInt_eq_toNat_cond] at h
    split at h
    · assumption
    · have := y.toBitVec.isLt
      omega
  have hle : (x &&& y).toBitVec.toNat ≤ y.toBitVec.toNat := by
    show (x.toBitVec &&& y.toBitVec).toNat ≤ _
    rw [BitVec.toNat_and]
    exact Nat.and_le_right
  have hz : (x &&& y).toBitVec.msb = false := by
    rw [BitVec.msb_eq_false_iff_two_mul_lt] at hy ⊢
    omega
  have e1 : (x &&& y).toInt = ((x &&& y).toBitVec.toNat : Int) := by
    show (x &&& y).toBitVec.toInt = _
    exact BitVec.toInt_eq_toNat_of_msb hz
  have e2 : y.toInt = (y.toBitVec.toNat : Int) := by
    show y.toBitVec.toInt = _
    exact BitVec.toInt_eq_toNat_of_msb hy
  rw [e1, e2]
  omega
theorem vg_rng (x : Int32) : -2147483648 ≤ x.toInt ∧ x.toInt ≤ 2147483647 := by
  have h1 := Int32.le_toInt x
  have h2 := Int32.toInt_lt x
  omega
theorem vg_div {x y v : Int32} (e : v = x / y) (hx : 0 ≤ x.toInt) (hy : 0 < y.toInt) : v.toInt = x.toInt / y.toInt := by
  have h2 := vg_rng x
  rw [e, Int32.toInt_div, Int.tdiv_eq_ediv_of_nonneg hx]
  have h3 : x.toInt / y.toInt ≤ x.toInt := Int.ediv_le_self _ hx
  have h4 : 0 ≤ x.toInt / y.toInt := Int.ediv_nonneg hx (by omega)
  generalize x.toInt / y.toInt = z at h3 h4
  simp only [Int.bmod]
  omega
theorem vg_rem {x y v : Int32} (e : v = x - x / y * y) (hx : 0 ≤ x.toInt) (hy : 0 < y.toInt) : v.toInt = x.toInt % y.toInt ∧ 0 ≤ v.toInt ∧ v.toInt < y.toInt := by
  have h2 := vg_rng x
  have hd := vg_div (v := x / y) rfl hx hy
  have hem := Int.emod_add_mul_ediv x.toInt y.toInt
  have hm0 := Int.emod_nonneg x.toInt (by omega : y.toInt ≠ 0)
  have hm1 := Int.emod_lt_of_pos x.toInt hy
  have h5 : 0 ≤ x.toInt / y.toInt := Int.ediv_nonneg hx (by omega)
  have h6 : x.toInt / y.toInt * y.toInt = y.toInt * (x.toInt / y.toInt) := Int.mul_comm _ _
  have hp : 0 ≤ x.toInt / y.toInt * y.toInt := Int.mul_nonneg h5 (by omega)
  have hm := vg_mul (x := x / y) (y := y) (v := x / y * y) rfl (by rw [hd]; omega) (by rw [hd]; omega)
  rw [hd] at hm
  have hs := vg_sub (x := x) (y := x / y * y) (v := v) e (by rw [hm]; omega) (by rw [hm]; omega)
  rw [hs, hm]
  refine ⟨by omega, by omega, by omega⟩
theorem vg_l2i {x : Int64} {v : Int32} (e : v = x.toInt32) (h1 : -2147483648 ≤ x.toInt) (h2 : x.toInt ≤ 2147483647) : v.toInt = x.toInt := by
  rw [e, Int64.toInt_toInt32]
  simp only [Int.bmod]
  omega
theorem vg_i2l {x : Int32} {v : Int64} (e : v = x.toInt64) : v.toInt = x.toInt := by rw [e, Int32.toInt_toInt64]
theorem vg_ladd {x y v : Int64} (e : v = x + y) (h1 : -9223372036854775808 ≤ x.toInt + y.toInt) (h2 : x.toInt + y.toInt ≤ 9223372036854775807) : v.toInt = x.toInt + y.toInt := by
  rw [e, Int64.toInt_add]
  simp only [Int.bmod]
  omega
theorem vg_eqi {x y : Int32} (h : x.toInt = y.toInt) : x = y := Int32.toInt_inj.mp h
theorem vg_cn (x : Int32) : (x.toNatClampNeg : Int) = if 0 ≤ x.toInt then x.toInt else 0 := by
  have : x.toNatClampNeg = x.toInt.toNat := rfl
  split <;> omega
theorem vg_01 {x : Int32} (h1 : 0 ≤ x.toInt) (h2 : x.toInt ≤ 1) : x = 0 ∨ x = 1 := by
  rcases (show x.toInt = 0 ∨ x.toInt = 1 by omega) with h | h
  · exact Or.inl (vg_eqi (by rw [h]; rfl))
  · exact Or.inr (vg_eqi (by rw [h]; rfl))
theorem vg_of01 {x : Int32} (h : x = 0 ∨ x = 1) : 0 ≤ x.toInt ∧ x.toInt ≤ 1 := by
  rcases h with rfl | rfl <;> decide
def vg_cons : List (Nat × Nat × Int × Int) := [(0, 2, 0, 3), (1, 3, 1, 1000), (4, 1, 1, 4), (4, 2, 1, 5000), (4, 3, 2, 17), (4, 4, 1, 60000), (4, 5, 0, 1), (4, 6, 0, 5000), (23, 1, 1, 4), (23, 2, 1, 5000), (23, 3, 2, 17), (23, 4, 1, 60000), (23, 5, 0, 1), (23, 6, 0, 5000), (7, 0, 1, 16), (26, 0, 1, 16), (12, 0, 1, 5), (12, 1, 1, 16), (12, 2, 8, 32), (20, 1, 0, 12), (41, 2, 0, 48), (43, 2, 0, 48), (45, 2, 0, 48), (47, 2, 0, 48), (49, 2, 0, 48), (51, 2, 0, 48), (53, 2, 0, 48), (55, 6, 1, 1000), (55, 8, 1, 4), (55, 10, 2, 17), (55, 12, 0, 5000), (55, 16, 1, 5), (55, 17, 1, 16), (55, 20, 0, 3), (55, 33, 0, 12)]
/-- how many elements the reference has -/
def vg_me (σ : vg_S) : Int32 := if (σ.1 55 7).toInt = 2 then (σ.1 55 10 - Int32.ofInt 1) * ((Int32.ofInt 1 <<< (σ.1 55 8 &&& (31 : Int32))) - Int32.ofInt 1) else σ.1 55 10 - Int32.ofInt 1
def Iv (σ : vg_S) : Prop := (∀ q ∈ vg_cons, q.2.2.1 ≤ (σ.1 q.1 q.2.1).toInt ∧ (σ.1 q.1 q.2.1).toInt ≤ q.2.2.2) ∧ 1 ≤ (vg_me σ).toInt ∧ (vg_me σ).toInt ≤ 16
theorem Iv.at {σ : vg_S} (h : Iv σ) (n : Nat) {q : Nat × Nat × Int × Int} (hq : vg_nth vg_cons n = some q) : q.2.2.1 ≤ (σ.1 q.1 q.2.1).toInt ∧ (σ.1 q.1 q.2.1).toInt ≤ q.2.2.2 := h.1 q (by rw [vg_nth_eq] at hq; exact List.mem_of_getElem? hq)
/-- slots that no word speaks of -/
def vg_fr (k i : Nat) : Bool := vg_cons.all (fun q => !(Nat.beq q.1 k && Nat.beq q.2.1 i)) && !(Nat.beq k 55 && Nat.beq i 7)
/-- rows that no word speaks of -/
def vg_fa (k : Nat) : Bool := vg_cons.all (fun q => !(Nat.beq q.1 k)) && !(Nat.beq k 55)
theorem vg_me_eq {σ σ' : vg_S} (h7 : σ'.1 55 7 = σ.1 55 7) (h8 : σ'.1 55 8 = σ.1 55 8) (h10 : σ'.1 55 10 = σ.1 55 10) : vg_me σ' = vg_me σ := by
  unfold vg_me
  rw [h7, h8, h10]
theorem vg_beq {a b : Nat} (h : a ≠ b) : Nat.beq a b = false := by
  cases hb : Nat.beq a b with
  | false => rfl
  | true => exact (h (Nat.eq_of_beq_eq_true hb)).elim
theorem vg_u1_at {σ : vg_S} {k i : Nat} {x : Int32} {a b : Nat} (h : ¬ (a = k ∧ b = i)) : (vg_u1 σ k i x).1 a b = σ.1 a b := by
  simp only [vg_u1, vg_w1, upd]
  split
  · rename_i ha
    subst ha
    show (if b = i then x else σ.1 a b) = _
    rw [if_neg (fun hb => h ⟨rfl, hb⟩)]
  · rfl
theorem vg_u1_self {σ : vg_S} {k i : Nat} {x : Int32} : (vg_u1 σ k i x).1 k i = x := by simp [vg_u1, vg_w1, upd]
theorem vg_u2_at {σ : vg_S} {k i : Nat} {x : Int64} {a b : Nat} (h : ¬ (a = k ∧ b = i)) : (vg_u2 σ k i x).2 a b = σ.2 a b := by
  simp only [vg_u2, vg_w2, vp_updL]
  split
  · rename_i ha
    subst ha
    show (if b = i then x else σ.2 a b) = _
    rw [if_neg (fun hb => h ⟨rfl, hb⟩)]
  · rfl
theorem vg_u2_self {σ : vg_S} {k i : Nat} {x : Int64} : (vg_u2 σ k i x).2 k i = x := by simp [vg_u2, vg_w2, vp_updL]
theorem vg_u1_ne {σ : vg_S} {k i : Nat} {x : Int32} {a : Nat} (h : a ≠ k) : (vg_u1 σ k i x).1 a = σ.1 a := by simp only [vg_u1, vg_w1]; rw [if_neg h]
theorem vg_u2_1 {σ : vg_S} {k i : Nat} {x : Int64} : (vg_u2 σ k i x).1 = σ.1 := rfl
theorem vg_w1_at {σ : vg_S} {k : Nat} {f : Nat → Int32} {a : Nat} (h : a ≠ k) : (vg_w1 σ k f).1 a = σ.1 a := by simp only [vg_w1]; rw [if_neg h]
theorem Iv.of {σ σ' : vg_S} (h : Iv σ) (he : ∀ q ∈ vg_cons, σ'.1 q.1 q.2.1 = σ.1 q.1 q.2.1) (h7 : σ'.1 55 7 = σ.1 55 7) : Iv σ' := by
  refine ⟨fun q hq => by rw [he q hq]; exact h.1 q hq, ?_⟩
  rw [vg_me_eq h7 (he (55, 8, 1, 4) (by decide)) (he (55, 10, 2, 17) (by decide))]
  exact h.2
theorem Iv.u1 {σ σ' : vg_S} {k i : Nat} {x : Int32} (h : Iv σ) (e : σ' = vg_u1 σ k i x) (hf : vg_fr k i = true) : Iv σ' := by
  subst e
  simp only [vg_fr, Bool.and_eq_true, List.all_eq_true, Bool.not_eq_true', Bool.and_eq_false_iff] at hf
  refine h.of (fun q hq => vg_u1_at ?_) (vg_u1_at ?_)
  · rintro ⟨h1, h2⟩
    rcases hf.1 q hq with h3 | h3
    · rw [h1] at h3; simp at h3
    · rw [h2] at h3; simp at h3
  · rintro ⟨rfl, rfl⟩
    rcases hf.2 with h3 | h3 <;> simp at h3
theorem Iv.a1 {σ σ' : vg_S} {k i : Nat} {x : Int32} (h : Iv σ) (e : σ' = vg_u1 σ k i x) (hf : vg_fa k = true) : Iv σ' := by
  subst e
  simp only [vg_fa, Bool.and_eq_true, List.all_eq_true, Bool.not_eq_true'] at hf
  refine h.of (fun q hq => vg_u1_at ?_) (vg_u1_at ?_)
  · rintro ⟨h1, h2⟩
    have h3 := hf.1 q hq
    rw [h1] at h3; simp at h3
  · rintro ⟨rfl, rfl⟩
    have h3 := hf.2
    simp at h3
theorem Iv.w1 {σ σ' : vg_S} {k : Nat} {f : Nat → Int32} (h : Iv σ) (e : σ' = vg_w1 σ k f) (hf : vg_fa k = true) : Iv σ' := by
  subst e
  simp only [vg_fa, Bool.and_eq_true, List.all_eq_true, Bool.not_eq_true'] at hf
  refine h.of (fun q hq => ?_) ?_
  · have h3 := hf.1 q hq
    simp only [vg_w1]
    rw [if_neg]
    intro h1
    rw [h1] at h3; simp at h3
  · have h3 := hf.2
    simp only [vg_w1]
    rw [if_neg]
    intro h1
    rw [← h1] at h3; simp at h3
theorem Iv.u2 {σ σ' : vg_S} {k i : Nat} {x : Int64} (h : Iv σ) (e : σ' = vg_u2 σ k i x) : Iv σ' := by
  subst e
  exact h.of (fun q hq => rfl) rfl
/-- a slot with a word (not the reference's loop, order, levels) gets a number that keeps it -/
def vg_cb (k i : Nat) (lo hi : Int) : Bool := vg_cons.all (fun q => !(Nat.beq q.1 k && Nat.beq q.2.1 i) || (decide (q.2.2.1 = lo) && decide (q.2.2.2 = hi))) && !(Nat.beq k 55 && (Nat.beq i 7 || Nat.beq i 8 || Nat.beq i 10))
theorem Iv.c1 {σ σ' : vg_S} {k i : Nat} {x : Int32} {lo hi : Int} (h : Iv σ) (e : σ' = vg_u1 σ k i x) (hf : vg_cb k i lo hi = true) (h1 : lo ≤ x.toInt) (h2 : x.toInt ≤ hi) : Iv σ' := by
  subst e
  simp only [vg_cb, Bool.and_eq_true, List.all_eq_true, Bool.not_eq_true', Bool.or_eq_true, decide_eq_true_eq, Bool.and_eq_false_iff, Bool.or_eq_false_iff] at hf
  refine ⟨fun q hq => ?_, ?_⟩
  · by_cases hq2 : q.1 = k ∧ q.2.1 = i
    · rcases hf.1 q hq with h3 | h3
      · rcases h3 with h3 | h3
        · rw [hq2.1] at h3; simp at h3
        · rw [hq2.2] at h3; simp at h3
      · rw [hq2.1, hq2.2, vg_u1_self, h3.1, h3.2]
        exact ⟨h1, h2⟩
    · rw [vg_u1_at hq2]
      exact h.1 q hq
  · have ne : ∀ j, (j = 7 ∨ j = 8 ∨ j = 10) → ¬ (55 = k ∧ j = i) := by
      rintro j hj ⟨rfl, rfl⟩
      rcases hf.2 with h3 | h3
      · simp at h3
      · rcases hj with rfl | rfl | rfl <;> simp at h3
    rw [vg_me_eq (vg_u1_at (ne 7 (by omega))) (vg_u1_at (ne 8 (by omega))) (vg_u1_at (ne 10 (by omega)))]
    exact h.2
theorem Iv_0_2 {σ : vg_S} (h : Iv σ) : 0 ≤ (σ.1 0 2).toInt ∧ (σ.1 0 2).toInt ≤ 3 := h.at 0 rfl
theorem Iv_1_3 {σ : vg_S} (h : Iv σ) : 1 ≤ (σ.1 1 3).toInt ∧ (σ.1 1 3).toInt ≤ 1000 := h.at 1 rfl
theorem Iv_4_1 {σ : vg_S} (h : Iv σ) : 1 ≤ (σ.1 4 1).toInt ∧ (σ.1 4 1).toInt ≤ 4 := h.at 2 rfl
theorem Iv_4_2 {σ : vg_S} (h : Iv σ) : 1 ≤ (σ.1 4 2).toInt ∧ (σ.1 4 2).toInt ≤ 5000 := h.at 3 rfl
theorem Iv_4_3 {σ : vg_S} (h : Iv σ) : 2 ≤ (σ.1 4 3).toInt ∧ (σ.1 4 3).toInt ≤ 17 := h.at 4 rfl
theorem Iv_4_4 {σ : vg_S} (h : Iv σ) : 1 ≤ (σ.1 4 4).toInt ∧ (σ.1 4 4).toInt ≤ 60000 := h.at 5 rfl
theorem Iv_4_5 {σ : vg_S} (h : Iv σ) : 0 ≤ (σ.1 4 5).toInt ∧ (σ.1 4 5).toInt ≤ 1 := h.at 6 rfl
theorem Iv_4_6 {σ : vg_S} (h : Iv σ) : 0 ≤ (σ.1 4 6).toInt ∧ (σ.1 4 6).toInt ≤ 5000 := h.at 7 rfl
theorem Iv_23_1 {σ : vg_S} (h : Iv σ) : 1 ≤ (σ.1 23 1).toInt ∧ (σ.1 23 1).toInt ≤ 4 := h.at 8 rfl
theorem Iv_23_2 {σ : vg_S} (h : Iv σ) : 1 ≤ (σ.1 23 2).toInt ∧ (σ.1 23 2).toInt ≤ 5000 := h.at 9 rfl
theorem Iv_23_3 {σ : vg_S} (h : Iv σ) : 2 ≤ (σ.1 23 3).toInt ∧ (σ.1 23 3).toInt ≤ 17 := h.at 10 rfl
theorem Iv_23_4 {σ : vg_S} (h : Iv σ) : 1 ≤ (σ.1 23 4).toInt ∧ (σ.1 23 4).toInt ≤ 60000 := h.at 11 rfl
theorem Iv_23_5 {σ : vg_S} (h : Iv σ) : 0 ≤ (σ.1 23 5).toInt ∧ (σ.1 23 5).toInt ≤ 1 := h.at 12 rfl
theorem Iv_23_6 {σ : vg_S} (h : Iv σ) : 0 ≤ (σ.1 23 6).toInt ∧ (σ.1 23 6).toInt ≤ 5000 := h.at 13 rfl
theorem Iv_7_0 {σ : vg_S} (h : Iv σ) : 1 ≤ (σ.1 7 0).toInt ∧ (σ.1 7 0).toInt ≤ 16 := h.at 14 rfl
theorem Iv_26_0 {σ : vg_S} (h : Iv σ) : 1 ≤ (σ.1 26 0).toInt ∧ (σ.1 26 0).toInt ≤ 16 := h.at 15 rfl
theorem Iv_12_0 {σ : vg_S} (h : Iv σ) : 1 ≤ (σ.1 12 0).toInt ∧ (σ.1 12 0).toInt ≤ 5 := h.at 16 rfl
theorem Iv_12_1 {σ : vg_S} (h : Iv σ) : 1 ≤ (σ.1 12 1).toInt ∧ (σ.1 12 1).toInt ≤ 16 := h.at 17 rfl
theorem Iv_12_2 {σ : vg_S} (h : Iv σ) : 8 ≤ (σ.1 12 2).toInt ∧ (σ.1 12 2).toInt ≤ 32 := h.at 18 rfl
theorem Iv_20_1 {σ : vg_S} (h : Iv σ) : 0 ≤ (σ.1 20 1).toInt ∧ (σ.1 20 1).toInt ≤ 12 := h.at 19 rfl
theorem Iv_41_2 {σ : vg_S} (h : Iv σ) : 0 ≤ (σ.1 41 2).toInt ∧ (σ.1 41 2).toInt ≤ 48 := h.at 20 rfl
theorem Iv_43_2 {σ : vg_S} (h : Iv σ) : 0 ≤ (σ.1 43 2).toInt ∧ (σ.1 43 2).toInt ≤ 48 := h.at 21 rfl
theorem Iv_45_2 {σ : vg_S} (h : Iv σ) : 0 ≤ (σ.1 45 2).toInt ∧ (σ.1 45 2).toInt ≤ 48 := h.at 22 rfl
theorem Iv_47_2 {σ : vg_S} (h : Iv σ) : 0 ≤ (σ.1 47 2).toInt ∧ (σ.1 47 2).toInt ≤ 48 := h.at 23 rfl
theorem Iv_49_2 {σ : vg_S} (h : Iv σ) : 0 ≤ (σ.1 49 2).toInt ∧ (σ.1 49 2).toInt ≤ 48 := h.at 24 rfl
theorem Iv_51_2 {σ : vg_S} (h : Iv σ) : 0 ≤ (σ.1 51 2).toInt ∧ (σ.1 51 2).toInt ≤ 48 := h.at 25 rfl
theorem Iv_53_2 {σ : vg_S} (h : Iv σ) : 0 ≤ (σ.1 53 2).toInt ∧ (σ.1 53 2).toInt ≤ 48 := h.at 26 rfl
theorem Iv_55_6 {σ : vg_S} (h : Iv σ) : 1 ≤ (σ.1 55 6).toInt ∧ (σ.1 55 6).toInt ≤ 1000 := h.at 27 rfl
theorem Iv_55_8 {σ : vg_S} (h : Iv σ) : 1 ≤ (σ.1 55 8).toInt ∧ (σ.1 55 8).toInt ≤ 4 := h.at 28 rfl
theorem Iv_55_10 {σ : vg_S} (h : Iv σ) : 2 ≤ (σ.1 55 10).toInt ∧ (σ.1 55 10).toInt ≤ 17 := h.at 29 rfl
theorem Iv_55_12 {σ : vg_S} (h : Iv σ) : 0 ≤ (σ.1 55 12).toInt ∧ (σ.1 55 12).toInt ≤ 5000 := h.at 30 rfl
theorem Iv_55_16 {σ : vg_S} (h : Iv σ) : 1 ≤ (σ.1 55 16).toInt ∧ (σ.1 55 16).toInt ≤ 5 := h.at 31 rfl
theorem Iv_55_17 {σ : vg_S} (h : Iv σ) : 1 ≤ (σ.1 55 17).toInt ∧ (σ.1 55 17).toInt ≤ 16 := h.at 32 rfl
theorem Iv_55_20 {σ : vg_S} (h : Iv σ) : 0 ≤ (σ.1 55 20).toInt ∧ (σ.1 55 20).toInt ≤ 3 := h.at 33 rfl
theorem Iv_55_33 {σ : vg_S} (h : Iv σ) : 0 ≤ (σ.1 55 33).toInt ∧ (σ.1 55 33).toInt ≤ 12 := h.at 34 rfl
/-- ints that most calls keep -/
def vg_kp (k i : Nat) : Bool := match k with
  | 0 => Nat.beq i 1 || Nat.beq i 2
  | 4 => Nat.beq i 0 || Nat.beq i 1 || Nat.beq i 2 || Nat.beq i 3 || Nat.beq i 4 || Nat.beq i 5 || Nat.beq i 6 || Nat.beq i 7
  | 7 => Nat.beq i 0 || Nat.beq i 1
  | 8 => true
  | 12 => Nat.beq i 0 || Nat.beq i 1 || Nat.beq i 2 || Nat.beq i 3
  | 16 => Nat.beq i 1
  | 17 => true
  | 20 => Nat.beq i 1
  | 21 => true
  | 31 => Nat.beq i 3 || Nat.beq i 4 || Nat.beq i 5
  | 34 => true
  | 35 => Nat.beq i 0
  | 37 => Nat.beq i 0
  | 39 => Nat.beq i 0
  | 55 => Nat.beq i 7 || Nat.beq i 8 || Nat.beq i 9 || Nat.beq i 10 || Nat.beq i 12 || Nat.beq i 13 || Nat.beq i 14 || Nat.beq i 15 || Nat.beq i 16 || Nat.beq i 17 || Nat.beq i 18 || Nat.beq i 19 || Nat.beq i 20 || Nat.beq i 21 || Nat.beq i 30 || Nat.beq i 31 || Nat.beq i 33
  | 59 => true
  | 60 => true
  | 61 => true
  | 66 => true
  | _ => false
/-- longs that most calls keep: the reference's clock, and it in the copies -/
def vg_kq (k i : Nat) : Bool := Nat.beq i 0 && (Nat.beq k 56 || Nat.beq k 57 || Nat.beq k 67)
def vg_q1 (k i : Nat) : Bool := Nat.beq i 0 && Nat.beq k 56
def vg_q2 (k i : Nat) : Bool := Nat.beq i 0 && (Nat.beq k 57 || Nat.beq k 67)
def vg_kr (k i : Nat) : Bool := (!(Nat.beq k 34) && !(Nat.beq k 31)) && vg_kp k i
def vg_kc (k i : Nat) : Bool := !(Nat.beq k 34) && vg_kp k i
def vg_ka (k i : Nat) : Bool := (!(Nat.beq k 20) && !(Nat.beq k 21)) && vg_kp k i
def vg_k0 (_ _ : Nat) : Bool := false
def Kx (P Q : Nat → Nat → Bool) (σ σ' : vg_S) : Prop := (∀ k i, P k i = true → σ'.1 k i = σ.1 k i) ∧ ∀ k i, Q k i = true → σ'.2 k i = σ.2 k i
abbrev Kp : vg_S → vg_S → Prop := Kx vg_kp vg_kq
abbrev Kr : vg_S → vg_S → Prop := Kx vg_kr vg_kq
abbrev Kc : vg_S → vg_S → Prop := Kx vg_kc vg_kq
abbrev Ka : vg_S → vg_S → Prop := Kx vg_ka vg_kq
abbrev Ks : vg_S → vg_S → Prop := Kx vg_k0 vg_kq
def vg_kt (k i : Nat) : Bool := !(Nat.beq k 55 && (Nat.beq i 30 || Nat.beq i 31)) && vg_kp k i
abbrev Kt : vg_S → vg_S → Prop := Kx vg_kt vg_q1
abbrev Kn : vg_S → vg_S → Prop := Kx vg_kt vg_k0
abbrev Ku : vg_S → vg_S → Prop := Kx vg_k0 vg_q1
abbrev Kg : vg_S → vg_S → Prop := Kx vg_kp vg_q2
theorem Kx.rf {P Q : Nat → Nat → Bool} {σ : vg_S} : Kx P Q σ σ := ⟨fun _ _ _ => rfl, fun _ _ _ => rfl⟩
theorem Kx.tr {P Q : Nat → Nat → Bool} {σ σ' σ'' : vg_S} (h : Kx P Q σ σ') (h2 : Kx P Q σ' σ'') : Kx P Q σ σ'' := ⟨fun k i hk => (h2.1 k i hk).trans (h.1 k i hk), fun k i hk => (h2.2 k i hk).trans (h.2 k i hk)⟩
theorem Kx.u1 {P Q : Nat → Nat → Bool} {σ σ' σ'' : vg_S} {k i : Nat} {x : Int32} (h : Kx P Q σ σ') (e : σ'' = vg_u1 σ' k i x) (hk : P k i = false) : Kx P Q σ σ'' := by
  subst e
  refine ⟨fun a b hab => ?_, h.2⟩
  rw [vg_u1_at (by rintro ⟨rfl, rfl⟩; rw [hab] at hk; cases hk)]
  exact h.1 a b hab
theorem Kx.w1 {P Q : Nat → Nat → Bool} {σ σ' σ'' : vg_S} {k : Nat} {f : Nat → Int32} (h : Kx P Q σ σ') (e : σ'' = vg_w1 σ' k f) (hk : ∀ i, P k i = false) : Kx P Q σ σ'' := by
  subst e
  refine ⟨fun a b hab => ?_, h.2⟩
  simp only [vg_w1]
  rw [if_neg (by rintro rfl; rw [hk] at hab; cases hab)]
  exact h.1 a b hab
theorem Kx.u2 {P Q : Nat → Nat → Bool} {σ σ' σ'' : vg_S} {k i : Nat} {x : Int64} (h : Kx P Q σ σ') (e : σ'' = vg_u2 σ' k i x) (hk : Q k i = false) : Kx P Q σ σ'' := by
  subst e
  refine ⟨h.1, fun a b hab => ?_⟩
  rw [vg_u2_at (by rintro ⟨rfl, rfl⟩; rw [hab] at hk; cases hk)]
  exact h.2 a b hab
theorem Kx.wk {P Q P' Q' : Nat → Nat → Bool} {σ σ' : vg_S} (h : Kx P Q σ σ') (hP : ∀ k i, P' k i = true → P k i = true) (hQ : ∀ k i, Q' k i = true → Q k i = true) : Kx P' Q' σ σ' := ⟨fun k i hk => h.1 k i (hP k i hk), fun k i hk => h.2 k i (hQ k i hk)⟩
theorem vg_kr_kp (k i : Nat) (h : vg_kr k i = true) : vg_kp k i = true := by
  simp only [vg_kr, Bool.and_eq_true] at h
  exact h.2
theorem vg_q1_kq (k i : Nat) (h : vg_q1 k i = true) : vg_kq k i = true := by
  simp only [vg_q1, vg_kq, Bool.and_eq_true, Bool.or_eq_true] at h ⊢
  exact ⟨h.1, Or.inl (Or.inl h.2)⟩
theorem vg_q2_kq (k i : Nat) (h : vg_q2 k i = true) : vg_kq k i = true := by
  simp only [vg_q2, vg_kq, Bool.and_eq_true, Bool.or_eq_true] at h ⊢
  exact ⟨h.1, h.2.elim (fun q => Or.inl (Or.inr q)) Or.inr⟩
theorem vg_kr_kc (k i : Nat) (h : vg_kr k i = true) : vg_kc k i = true := by
  simp only [vg_kr, vg_kc, Bool.and_eq_true] at h ⊢
  exact ⟨h.1.1, h.2⟩
theorem vg_kc_kp (k i : Nat) (h : vg_kc k i = true) : vg_kp k i = true := by
  simp only [vg_kc, Bool.and_eq_true] at h
  exact h.2
theorem vg_ka_kp (k i : Nat) (h : vg_ka k i = true) : vg_kp k i = true := by
  simp only [vg_ka, Bool.and_eq_true] at h
  exact h.2
theorem vg_kt_kp (k i : Nat) (h : vg_kt k i = true) : vg_kp k i = true := by
  simp only [vg_kt, Bool.and_eq_true] at h
  exact h.2
theorem Kx.pk {Q : Nat → Nat → Bool} {σ σ' : vg_S} (h : Kx vg_kp Q σ σ') : Kx vg_kt Q σ σ' := h.wk vg_kt_kp (fun _ _ q => q)
theorem Kx.qn {P Q : Nat → Nat → Bool} {σ σ' : vg_S} (h : Kx P Q σ σ') : Kx P vg_k0 σ σ' := h.wk (fun _ _ q => q) (fun _ _ q => by cases q)
theorem Kx.cr {Q : Nat → Nat → Bool} {σ σ' : vg_S} (h : Kx vg_kc Q σ σ') : Kx vg_kr Q σ σ' := h.wk vg_kr_kc (fun _ _ q => q)
theorem Kx.pc {Q : Nat → Nat → Bool} {σ σ' : vg_S} (h : Kx vg_kp Q σ σ') : Kx vg_kc Q σ σ' := h.wk vg_kc_kp (fun _ _ q => q)
theorem Kx.pa {Q : Nat → Nat → Bool} {σ σ' : vg_S} (h : Kx vg_kp Q σ σ') : Kx vg_ka Q σ σ' := h.wk vg_ka_kp (fun _ _ q => q)
theorem Kx.pr {σ σ' : vg_S} (h : Kp σ σ') : Kr σ σ' := h.wk vg_kr_kp (fun _ _ q => q)
theorem Kx.ps {Q : Nat → Nat → Bool} {P : Nat → Nat → Bool} {σ σ' : vg_S} (h : Kx P Q σ σ') : Kx vg_k0 Q σ σ' := h.wk (fun _ _ q => by cases q) (fun _ _ q => q)
theorem Kx.pt {P : Nat → Nat → Bool} {σ σ' : vg_S} (h : Kx P vg_kq σ σ') : Kx P vg_q1 σ σ' := h.wk (fun _ _ q => q) vg_q1_kq
theorem Kx.pg {P : Nat → Nat → Bool} {σ σ' : vg_S} (h : Kx P vg_kq σ σ') : Kx P vg_q2 σ σ' := h.wk (fun _ _ q => q) vg_q2_kq
theorem vg_kq_pos {k : Nat} {x : Int32} (h : 0 < x.toInt) : vg_kq k x.toNatClampNeg = false ∧ vg_q1 k x.toNatClampNeg = false ∧ vg_q2 k x.toNatClampNeg = false := by
  have : x.toNatClampNeg = x.toInt.toNat := rfl
  have hb := vg_beq (a := x.toNatClampNeg) (b := 0) (by omega)
  refine ⟨?_, ?_, ?_⟩
  · simp only [vg_kq, hb, Bool.false_and]
  · simp only [vg_q1, hb, Bool.false_and]
  · simp only [vg_q2, hb, Bool.false_and]
theorem vg_kq_no {k i : Nat} (h : Nat.beq k 56 = false ∧ Nat.beq k 57 = false ∧ Nat.beq k 67 = false) : vg_kq k i = false ∧ vg_q1 k i = false ∧ vg_q2 k i = false := by
  refine ⟨?_, ?_, ?_⟩
  · simp [vg_kq, h.1, h.2.1, h.2.2]
  · simp [vg_q1, h.1]
  · simp [vg_q2, h.2.1, h.2.2]
theorem vg_shl1 {x y v : Int32} (e : v = x <<< (y &&& 31)) (hx : x.toInt = 1) (h1 : 1 ≤ y.toInt) (h2 : y.toInt ≤ 4) : 2 ≤ v.toInt ∧ v.toInt ≤ 16 ∧ ((y.toInt = 1 ∧ v.toInt = 2) ∨ (y.toInt = 2 ∧ v.toInt = 4) ∨ (y.toInt = 3 ∧ v.toInt = 8) ∨ (y.toInt = 4 ∧ v.toInt = 16)) := by
  have hx1 : x = 1 := vg_eqi (by rw [hx]; rfl)
  subst hx1
  rcases (show y.toInt = 1 ∨ y.toInt = 2 ∨ y.toInt = 3 ∨ y.toInt = 4 by omega) with h | h | h | h
  · have : y = 1 := vg_eqi (by rw [h]; rfl)
    subst this
    subst e
    decide
  · have : y = 2 := vg_eqi (by rw [h]; rfl)
    subst this
    subst e
    decide
  · have : y = 3 := vg_eqi (by rw [h]; rfl)
    subst this
    subst e
    decide
  · have : y = 4 := vg_eqi (by rw [h]; rfl)
    subst this
    subst e
    decide
theorem vg_mulr {x y v : Int32} (e : v = x * y) (h1 : 1 ≤ x.toInt) (h2 : x.toInt ≤ 16) (h3 : 1 ≤ y.toInt) (h4 : y.toInt ≤ 15) : v.toInt = x.toInt * y.toInt ∧ 1 ≤ v.toInt ∧ v.toInt ≤ 240 := by
  have a1 : 1 * 1 ≤ x.toInt * y.toInt := Int.mul_le_mul h1 h3 (by omega) (by omega)
  have a2 : x.toInt * y.toInt ≤ 16 * 15 := Int.mul_le_mul h2 h4 (by omega) (by omega)
  have := vg_mul e (by omega) (by omega)
  omega
theorem vg_xor_sign {x y v : Int32} (e : v = x ^^^ y) (hy : 0 ≤ y.toInt) : 0 ≤ v.toInt ↔ 0 ≤ x.toInt := by
  subst e
  have key : ∀ z : Int32, 0 ≤ z.toInt ↔ z.toBitVec.msb = false := by
    intro z
    show 0 ≤ z.toBitVec.toInt ↔ _
    rw [BitVec.toInt_eq_msb_cond]
    have := z.toBitVec.isLt
    cases hm : z.toBitVec.msb
    · simp
    · simp
      omega
  rw [key, key]
  rw [key] at hy
  show (x.toBitVec ^^^ y.toBitVec).msb = false ↔ _
  rw [BitVec.msb_xor, hy]
  simp
theorem vg_remn {x y v : Int32} (e : v = x - x / y * y) (hx : x.toInt < 0) (hy : 0 < y.toInt) : - y.toInt < v.toInt ∧ v.toInt ≤ 0 := by
  have h2 := vg_rng x
  have h2y := vg_rng y
  have hd : (x / y).toInt = x.toInt.tdiv y.toInt := by
    rw [Int32.toInt_div]
    have hq : x.toInt.tdiv y.toInt = - ((- x.toInt) / y.toInt) := by
      rw [← Int.tdiv_eq_ediv_of_nonneg (by omega), Int.neg_tdiv, Int.neg_neg]
    rw [hq]
    have h3 : (- x.toInt) / y.toInt ≤ - x.toInt := Int.ediv_le_self _ (by omega)
    have h4 : 0 ≤ (- x.toInt) / y.toInt := Int.ediv_nonneg (by omega) (by omega)
    generalize (- x.toInt) / y.toInt = z at h3 h4
    simp only [Int.bmod]
    omega
  have hq : x.toInt.tdiv y.toInt = - ((- x.toInt) / y.toInt) := by
    rw [← Int.tdiv_eq_ediv_of_nonneg (by omega), Int.neg_tdiv, Int.neg_neg]
  have hem := Int.emod_add_mul_ediv (- x.toInt) y.toInt
  have hm0 := Int.emod_nonneg (- x.toInt) (by omega : y.toInt ≠ 0)
  have hm1 := Int.emod_lt_of_pos (- x.toInt) hy
  have h5 : 0 ≤ (- x.toInt) / y.toInt := Int.ediv_nonneg (by omega) (by omega)
  have hp : 0 ≤ y.toInt * ((- x.toInt) / y.toInt) := Int.mul_nonneg (by omega) h5
  have hmm : (x / y).toInt * y.toInt = - (y.toInt * ((- x.toInt) / y.toInt)) := by rw [hd, hq, Int.neg_mul, Int.mul_comm]
  have hm := vg_mul (x := x / y) (y := y) (v := x / y * y) rfl (by rw [hmm]; omega) (by rw [hmm]; omega)
  rw [hmm] at hm
  have hs := vg_sub (x := x) (y := x / y * y) (v := v) e (by rw [hm]; omega) (by rw [hm]; omega)
  rw [hs, hm]
  omega
theorem vg_remx {x y v : Int32} (e : v = x - x / y * y) (hy : 0 < y.toInt) : (0 ≤ x.toInt ∧ 0 ≤ v.toInt ∧ v.toInt < y.toInt) ∨ (x.toInt < 0 ∧ - y.toInt < v.toInt ∧ v.toInt ≤ 0) := by
  by_cases hx : 0 ≤ x.toInt
  · exact Or.inl ⟨hx, (vg_rem e hx hy).2⟩
  · exact Or.inr ⟨by omega, vg_remn e (by omega) hy⟩
theorem vg_fst {σ : vg_S} {k : Nat} {i v c : Int32} (h : ∀ j : Nat, (j : Int) < i.toInt → σ.1 k j = c) (hi : 0 ≤ i.toInt) (e : v.toInt = i.toInt + 1) {j : Nat} (hj : (j : Int) < v.toInt) : (vg_u1 σ k i.toNatClampNeg c).1 k j = c := by
  have h9 : i.toNatClampNeg = i.toInt.toNat := rfl
  by_cases hji : j = i.toNatClampNeg
  · subst hji
    exact vg_u1_self
  · rw [vg_u1_at (fun q => hji q.2)]
    exact h j (by omega)
theorem vg_cells1 {σ : vg_S} {k i : Nat} {x : Int32} {B : Int} (h : ∀ j : Nat, j < 2048 → 0 ≤ (σ.1 k j).toInt ∧ (σ.1 k j).toInt ≤ B) (hx : 0 ≤ x.toInt ∧ x.toInt ≤ B + 1) (j : Nat) (hj : j < 2048) : 0 ≤ ((vg_u1 σ k i x).1 k j).toInt ∧ ((vg_u1 σ k i x).1 k j).toInt ≤ B + 1 := by
  by_cases hji : j = i
  · subst hji
    rw [vg_u1_self]
    exact hx
  · rw [vg_u1_at (fun q => hji q.2)]
    have := h j hj
    omega
theorem vg_inGW {i : Nat} {w : Cond} (h : vg_nth lw_tbl i = some w) (hg : goodWord w = true) : w ∈ vg_GW := by
  rw [vg_nth_eq] at h
  exact List.mem_filter.mpr ⟨List.mem_of_getElem? h, hg⟩
/-- of the claim's own room: a method's places hold -/
abbrev vg_Hp (G : vg_G) : Prop := ∀ i j, i < vg_sh.length → j < vg_sh.length → G.2.2 i = G.2.2 j → i = j
/-- a slot that a call may set -/
def vg_hit : Nat × Option Nat → Nat → Nat → Bool
  | (a, none), k, _ => Nat.beq k a
  | (a, some j), k, i => Nat.beq k a && Nat.beq i j
def vg_px (ex : List (Nat × Option Nat)) (k i : Nat) : Bool := !(ex.any (fun e => vg_hit e k i)) && vg_kp k i
theorem Kx.px {ex : List (Nat × Option Nat)} {Q : Nat → Nat → Bool} {σ σ' : vg_S} (h : Kx vg_kp Q σ σ') : Kx (vg_px ex) Q σ σ' := h.wk (fun k i hk => by simp only [vg_px, Bool.and_eq_true] at hk; exact hk.2) (fun _ _ q => q)
theorem Kx.xx {ex ex' : List (Nat × Option Nat)} {Q : Nat → Nat → Bool} {σ σ' : vg_S} (h : Kx (vg_px ex) Q σ σ') (hs : ∀ e ∈ ex, e ∈ ex') : Kx (vg_px ex') Q σ σ' := h.wk (fun k i hk => by
  simp only [vg_px, Bool.and_eq_true, Bool.not_eq_true', List.any_eq_false] at hk ⊢
  exact ⟨fun e he => hk.1 e (hs e he), hk.2⟩) (fun _ _ q => q)
def vg_e_X0_forget : List (Nat × Option Nat) := [(20, some 1)]
abbrev K_X0_forget : vg_S → vg_S → Prop := Kx (vg_px vg_e_X0_forget) vg_kq
def vg_e_X0_add : List (Nat × Option Nat) := [(20, some 1), (21, none)]
abbrev K_X0_add : vg_S → vg_S → Prop := Kx (vg_px vg_e_X0_add) vg_kq
def vg_e_X10_loop : List (Nat × Option Nat) := [(4, some 0), (4, some 1), (4, some 2), (4, some 3), (4, some 4), (4, some 5), (7, some 0), (20, some 1)]
abbrev K_X10_loop : vg_S → vg_S → Prop := Kx (vg_px vg_e_X10_loop) vg_kq
def vg_e_X10_dither : List (Nat × Option Nat) := [(4, some 6), (4, some 7)]
abbrev K_X10_dither : vg_S → vg_S → Prop := Kx (vg_px vg_e_X10_dither) vg_kq
def vg_e_X10_way : List (Nat × Option Nat) := [(7, some 1)]
abbrev K_X10_way : vg_S → vg_S → Prop := Kx (vg_px vg_e_X10_way) vg_kq
def vg_e_X10_deviation : List (Nat × Option Nat) := [(8, none)]
abbrev K_X10_deviation : vg_S → vg_S → Prop := Kx (vg_px vg_e_X10_deviation) vg_kq
def vg_e_X10_comb : List (Nat × Option Nat) := [(12, some 0), (12, some 1), (12, some 2), (12, some 3)]
abbrev K_X10_comb : vg_S → vg_S → Prop := Kx (vg_px vg_e_X10_comb) vg_kq
def vg_e_X10_taps : List (Nat × Option Nat) := [(17, none), (16, some 1)]
abbrev K_X10_taps : vg_S → vg_S → Prop := Kx (vg_px vg_e_X10_taps) vg_kq
def vg_e_X10_folds : List (Nat × Option Nat) := [(0, some 2), (35, some 0), (37, some 0), (39, some 0)]
abbrev K_X10_folds : vg_S → vg_S → Prop := Kx (vg_px vg_e_X10_folds) vg_kq
def vg_e_X10_clocks : List (Nat × Option Nat) := [(0, some 1)]
abbrev K_X10_clocks : vg_S → vg_S → Prop := Kx (vg_px vg_e_X10_clocks) vg_kq
def vg_e_X10_tone : List (Nat × Option Nat) := [(20, some 1), (21, none), (31, none), (34, none)]
abbrev K_X10_tone : vg_S → vg_S → Prop := Kx (vg_px vg_e_X10_tone) vg_kq
def vg_e_X11_loop : List (Nat × Option Nat) := [(55, some 7), (55, some 8), (55, some 9), (55, some 10), (55, some 14), (55, some 33)]
abbrev K_X11_loop : vg_S → vg_S → Prop := Kx (vg_px vg_e_X11_loop) vg_kq
def vg_e_X11_dither : List (Nat × Option Nat) := [(55, some 12), (55, some 13)]
abbrev K_X11_dither : vg_S → vg_S → Prop := Kx (vg_px vg_e_X11_dither) vg_kq
def vg_e_X11_way : List (Nat × Option Nat) := [(55, some 15)]
abbrev K_X11_way : vg_S → vg_S → Prop := Kx (vg_px vg_e_X11_way) vg_kq
def vg_e_X11_deviation : List (Nat × Option Nat) := [(59, none)]
abbrev K_X11_deviation : vg_S → vg_S → Prop := Kx (vg_px vg_e_X11_deviation) vg_kq
def vg_e_X11_comb : List (Nat × Option Nat) := [(55, some 16), (55, some 17), (55, some 18), (55, some 19)]
abbrev K_X11_comb : vg_S → vg_S → Prop := Kx (vg_px vg_e_X11_comb) vg_kq
def vg_e_X11_taps : List (Nat × Option Nat) := [(61, none), (55, some 21)]
abbrev K_X11_taps : vg_S → vg_S → Prop := Kx (vg_px vg_e_X11_taps) vg_kq
def vg_e_X11_folds_ : List (Nat × Option Nat) := [(55, some 20), (60, none)]
abbrev K_X11_folds_ : vg_S → vg_S → Prop := Kx (vg_px vg_e_X11_folds_) vg_kq
def vg_e_X11_asks : List (Nat × Option Nat) := [(66, none), (55, some 33)]
abbrev K_X11_asks : vg_S → vg_S → Prop := Kx (vg_px vg_e_X11_asks) vg_kq
def vg_e_X11_tone : List (Nat × Option Nat) := [(66, none), (55, some 33), (55, some 30), (55, some 31)]
abbrev K_X11_tone : vg_S → vg_S → Prop := Kx (vg_px vg_e_X11_tone) vg_q1
def vg_e_X11_ahead : List (Nat × Option Nat) := [(55, some 15), (55, some 30), (55, some 31)]
abbrev K_X11_ahead : vg_S → vg_S → Prop := Kx (vg_px vg_e_X11_ahead) vg_q1
def vg_e_X11_aheadm : List (Nat × Option Nat) := [(55, some 15), (55, some 30), (55, some 31)]
abbrev K_X11_aheadm : vg_S → vg_S → Prop := Kx (vg_px vg_e_X11_aheadm) vg_k0
theorem Kx.rx {Q : Nat → Nat → Bool} {σ σ' : vg_S} (h : Kx vg_kr Q σ σ') : Kx (vg_px vg_e_X10_tone) Q σ σ' := h.wk (fun k i hk => by
  simp only [vg_px, vg_e_X10_tone, List.any_cons, List.any_nil, vg_hit, vg_kr, Bool.and_eq_true, Bool.not_eq_true', Bool.or_eq_false_iff] at hk ⊢
  exact ⟨⟨hk.1.2.2.2.1, hk.1.2.2.1⟩, hk.2⟩) (fun _ _ q => q)
theorem Kx.tx {Q : Nat → Nat → Bool} {σ σ' : vg_S} (h : Kx vg_kt Q σ σ') : Kx (vg_px vg_e_X11_tone) Q σ σ' := h.wk (fun k i hk => by
  simp only [vg_px, vg_e_X11_tone, List.any_cons, List.any_nil, vg_hit, vg_kt, Bool.and_eq_true, Bool.not_eq_true', Bool.or_eq_false_iff, Bool.and_eq_false_iff] at hk ⊢
  refine ⟨?_, hk.2⟩
  rcases hk.1.2.2.1 with h1 | h1
  · exact Or.inl h1
  · rcases hk.1.2.2.2.1 with h2 | h2
    · exact Or.inl h2
    · exact Or.inr ⟨h1, h2⟩) (fun _ _ q => q)
