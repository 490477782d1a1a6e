/-! the class's counts out of the reference's -/
theorem vg_lmul {x y v : Int64} (e : v = x * y) (h1 : -9223372036854775808 ≤ x.toInt * y.toInt) (h2 : x.toInt * y.toInt ≤ 9223372036854775807) : v.toInt = x.toInt * y.toInt := by
  rw [e, Int64.toInt_mul]
  generalize x.toInt * y.toInt = z at h1 h2
  simp only [Int.bmod]
  omega
theorem vg_lsub {x y v : Int64} (e : v = x - y) (h1 : -9223372036854775808 ≤ x.toInt - y.toInt) (h2 : x.toInt - y.toInt ≤ 9223372036854775807) : v.toInt = x.toInt - y.toInt := by
  rw [e, Int64.toInt_sub]
  simp only [Int.bmod]
  omega
theorem vg_ldiv {x y : Int64} (hx : 0 ≤ x.toInt) (hx2 : x.toInt ≤ 4000000000) (hy : 0 < y.toInt) : (x / y).toInt = x.toInt / y.toInt := by
  rw [Int64.toInt_div, Int.tdiv_eq_ediv_of_nonneg hx]
  have h3 : x.toInt / y.toInt ≤ x.toInt := Int.ediv_le_self _ hx
  have h4 : 0 ≤ x.toInt / y.toInt := Int.ediv_nonneg hx (by omega)
  generalize x.toInt / y.toInt = z at h3 h4
  simp only [Int.bmod]
  omega
theorem vg_lrem {x y : Int64} (hx : 0 ≤ x.toInt) (hx2 : x.toInt ≤ 4000000000) (hy : 0 < y.toInt) : (x - x / y * y).toInt = x.toInt % y.toInt := by
  have hd := vg_ldiv hx hx2 hy
  have hem := Int.emod_add_mul_ediv x.toInt y.toInt
  have hm0 := Int.emod_nonneg x.toInt (by omega : y.toInt ≠ 0)
  have hm1 := Int.emod_lt_of_pos x.toInt hy
  have h5 : 0 ≤ x.toInt / y.toInt := Int.ediv_nonneg hx (by omega)
  have h6 : x.toInt / y.toInt * y.toInt = y.toInt * (x.toInt / y.toInt) := Int.mul_comm _ _
  have hp : 0 ≤ x.toInt / y.toInt * y.toInt := Int.mul_nonneg h5 (by omega)
  have hm := vg_lmul (x := x / y) (y := y) (v := x / y * y) rfl (by rw [hd]; omega) (by rw [hd]; omega)
  rw [hd] at hm
  have hs := vg_lsub (x := x) (y := x / y * y) rfl (by rw [hm]; omega) (by rw [hm]; omega)
  rw [hs, hm]
  omega
theorem lg_cmp_0 {x y : Int64} : (lg_cmp x y).toInt = 0 ↔ x = y := by
  unfold lg_cmp
  split
  · rename_i h
    refine ⟨fun q => absurd q (by decide), fun q => ?_⟩
    rw [q] at h
    exact absurd h Int64.lt_irrefl
  · split
    · rename_i h
      exact ⟨fun _ => h, fun _ => by decide⟩
    · rename_i h
      exact ⟨fun q => absurd q (by decide), fun q => absurd q h⟩
theorem vr_rm_0 {x : Int64} {r : Int32} (hx : 0 ≤ x.toInt) (hx2 : x.toInt ≤ 4000000000) (hr : 0 < r.toInt) : vr_rm x r = 0 ↔ x.toInt % r.toInt = 0 := by
  have hr2 : r.toInt64.toInt = r.toInt := Int32.toInt_toInt64 r
  have h := vg_lrem (x := x) (y := r.toInt64) hx hx2 (by omega)
  rw [hr2] at h
  have h0 : (Int64.ofNat 0).toInt = 0 := by decide
  unfold vr_rm
  rw [lg_cmp_0]
  constructor
  · intro q
    rw [← h, q, h0]
  · intro q
    apply Int64.toInt_inj.mp
    rw [h, q, h0]
theorem vr_od_0 {x : Int64} (hx : 0 ≤ x.toInt) (hx2 : x.toInt ≤ 4000000000) : vr_od x = 0 ↔ x.toInt % 2 = 1 := by
  have h2 : (Int64.ofInt 2).toInt = 2 := by decide
  have h := vg_lrem (x := x) (y := Int64.ofInt 2) hx hx2 (by omega)
  rw [h2] at h
  have h1 : (Int64.ofNat 1).toInt = 1 := by decide
  unfold vr_od
  rw [lg_cmp_0]
  constructor
  · intro q
    rw [← h, q, h1]
  · intro q
    apply Int64.toInt_inj.mp
    rw [h, q, h1]
def vm (r : Int) (R : Nat → Int64) : Nat → Int32 := fun i => if i < 7 then (R i).toInt32 else if i = 7 then Int32.ofInt ((R 7).toInt % r) else if i ≤ 10 then Int32.ofInt ((R i).toInt % 2) else 0
def vkb (K : Int) (R : Nat → Int64) : Prop := ∀ q : Nat, 7 ≤ q → q ≤ 10 → 0 ≤ (R q).toInt ∧ (R q).toInt ≤ K
theorem vi_of {x : Int} (h1 : 0 ≤ x) (h2 : x ≤ 1000) : (Int32.ofInt x).toInt = x := by
  rw [Int32.toInt_ofInt, show Int32.size = 4294967296 from rfl]
  simp only [Int.bmod]
  omega
theorem kset_ne {α : Type} {C : Nat → α} {i j : Nat} {x : α} (h : ¬ j = i) : kset C i x j = C j := if_neg h
theorem vm_lo {r : Int} {R : Nat → Int64} {i : Nat} (h : i < 7) : vm r R i = (R i).toInt32 := if_pos h
theorem vm_7 {r : Int} {R : Nat → Int64} : vm r R 7 = Int32.ofInt ((R 7).toInt % r) := by rw [vm, if_neg (by omega), if_pos rfl]
theorem vm_hi {r : Int} {R : Nat → Int64} {i : Nat} (h : 8 ≤ i) (h2 : i ≤ 10) : vm r R i = Int32.ofInt ((R i).toInt % 2) := by rw [vm, if_neg (by omega), if_neg (by omega), if_pos h2]
theorem vm_no {r : Int} {R : Nat → Int64} {i : Nat} (h : ¬ i ≤ 10) : vm r R i = 0 := by rw [vm, if_neg (by omega), if_neg (by omega), if_neg h]
theorem vm_set {r : Int} {R : Nat → Int64} {q : Nat} {x : Int64} (hq : q ≤ 10) : vm r (kset R q x) = kset (vm r R) q (vm r (kset R q x) q) := by
  funext i
  by_cases h : i = q
  · rw [h]
    simp only [kset]
    rw [if_pos trivial]
  · rw [kset_ne h]
    by_cases h1 : i < 7
    · rw [vm_lo h1, vm_lo h1, kset_ne h]
    · by_cases h2 : i = 7
      · subst h2
        rw [vm_7, vm_7, kset_ne h]
      · by_cases h3 : i ≤ 10
        · rw [vm_hi (by omega) h3, vm_hi (by omega) h3, kset_ne h]
        · rw [vm_no h3, vm_no h3]
theorem vm_bg {r st : Int} {R : Nat → Int64} : vm r (kb2 (Int64.ofNat 0) st 3 R) = kb2 (Int32.ofInt 0) st 3 (vm r R) := by
  have z0 : (Int64.ofNat 0).toInt = 0 := by decide
  funext i
  by_cases hc : (i < 7 ∧ st ≤ (i : Int)) ∨ (i = 7 ∧ st ≤ 3) ∨ (8 ≤ i ∧ i ≤ 10 ∧ (i : Int) < 8 + 3 ∧ st + 4 ≤ (i : Int))
  · have e1 : kb2 (Int32.ofInt 0) st 3 (vm r R) i = Int32.ofInt 0 := if_pos hc
    have e2 : kb2 (Int64.ofNat 0) st 3 R i = Int64.ofNat 0 := if_pos hc
    rw [e1]
    by_cases h1 : i < 7
    · rw [vm_lo h1, e2]
      rfl
    · by_cases h2 : i = 7
      · subst h2
        rw [vm_7, e2, z0, Int.zero_emod]
      · rw [vm_hi (by omega) (by omega), e2, z0]
        rfl
  · have e1 : kb2 (Int32.ofInt 0) st 3 (vm r R) i = vm r R i := if_neg hc
    have e2 : kb2 (Int64.ofNat 0) st 3 R i = R i := if_neg hc
    rw [e1]
    by_cases h1 : i < 7
    · rw [vm_lo h1, vm_lo h1, e2]
    · by_cases h2 : i = 7
      · subst h2
        rw [vm_7, vm_7, e2]
      · by_cases h3 : i ≤ 10
        · rw [vm_hi (by omega) h3, vm_hi (by omega) h3, e2]
        · rw [vm_no h3, vm_no h3]
theorem vm_bg3 {r r' st : Int} {R : Nat → Int64} (h : st ≤ 3) : kb2 (Int32.ofInt 0) st 3 (vm r R) = kb2 (Int32.ofInt 0) st 3 (vm r' R) := by
  funext i
  simp only [kb2]
  split
  · rfl
  · rename_i hc
    by_cases h1 : i < 7
    · rw [vm_lo h1, vm_lo h1]
    · by_cases h2 : i = 7
      · exact absurd (Or.inr (Or.inl ⟨h2, h⟩)) hc
      · by_cases h3 : i ≤ 10
        · rw [vm_hi (by omega) h3, vm_hi (by omega) h3]
        · rw [vm_no h3, vm_no h3]
theorem vkb_bg {K K' st : Int} {R : Nat → Int64} (h : vkb K R) (hK : K ≤ K') (h0 : 0 ≤ K') : vkb K' (kb2 (Int64.ofNat 0) st 3 R) := fun q h1 h2 => by
  have z0 : (Int64.ofNat 0).toInt = 0 := by decide
  have h3 := h q h1 h2
  simp only [kb2]
  split
  · omega
  · omega
theorem vkb_le {K K' : Int} {R : Nat → Int64} (h : vkb K R) (hK : K ≤ K') : vkb K' R := fun q h1 h2 => by
  have h3 := h q h1 h2
  omega
theorem vr_inc_at {R : Nat → Int64} {q : Nat} : vr_inc R q q = R q + Int64.ofNat 1 := by simp only [vr_inc, kset, if_true]
theorem vm_inc {r : Int} {R : Nat → Int64} {q : Nat} (hq : q < 7) : vk_inc (vm r R) q = vm r (vr_inc R q) := by
  rw [vr_inc, vm_set (by omega), vk_inc]
  congr 1
  rw [vm_lo hq, vm_lo hq]
  show _ = (kset R q (R q + Int64.ofNat 1) q).toInt32
  simp only [kset, if_true]
  rw [Int64.toInt32_add]
  rfl
theorem vr_add1 {x : Int64} (h : 0 ≤ x.toInt ∧ x.toInt ≤ 4000000000) : (x + Int64.ofNat 1).toInt = x.toInt + 1 := by
  have h1 : (Int64.ofNat 1).toInt = 1 := by decide
  have := vg_ladd (x := x) (y := Int64.ofNat 1) rfl (by omega) (by omega)
  omega
theorem vm_fl {r : Int} {R : Nat → Int64} {q : Nat} (h8 : 8 ≤ q) (h10 : q ≤ 10) (hb : 0 ≤ (R q).toInt ∧ (R q).toInt ≤ 3000000000) : kset (vm r R) q (vk_fl (vm r R q)) = vm r (vr_inc R q) ∧ ((vm r R q).toInt = 0 ↔ vr_od (vr_inc R q q) = 0) := by
  have e := vr_add1 (x := R q) (by omega)
  have hm : (vm r R q).toInt = (R q).toInt % 2 := by
    rw [vm_hi h8 h10]
    exact vi_of (by omega) (by omega)
  constructor
  · rw [vr_inc, vm_set (by omega)]
    congr 1
    rw [vm_hi (R := kset R q _) h8 h10]
    show _ = Int32.ofInt ((kset R q (R q + Int64.ofNat 1) q).toInt % 2)
    simp only [kset, if_true]
    rw [e, vk_fl, hm]
    split
    · rw [show ((R q).toInt + 1) % 2 = 1 by omega]
    · rw [show ((R q).toInt + 1) % 2 = 0 by omega]
  · rw [hm, vr_inc_at, vr_od_0 (by omega) (by omega), e]
    omega
theorem vm_emod {x r : Int} (hr : 0 < r) (hx : 0 ≤ x) : ((x + 1) % r = 0 ∧ x % r = r - 1) ∨ ((x + 1) % r = x % r + 1 ∧ x % r + 1 < r) := by
  have h1 := Int.emod_nonneg x (show r ≠ 0 by omega)
  have h2 := Int.emod_lt_of_pos x hr
  have h3 := Int.emod_add_mul_ediv x r
  by_cases h : x % r = r - 1
  · refine Or.inl ⟨?_, h⟩
    have h4 : x + 1 = r * (x / r + 1) := by
      rw [Int.mul_add, Int.mul_one]
      omega
    rw [h4, Int.mul_emod_right]
  · refine Or.inr ⟨?_, by omega⟩
    have h4 : x + 1 = (x % r + 1) + r * (x / r) := by omega
    rw [h4, Int.add_mul_emod_self_left]
    exact Int.emod_eq_of_lt (by omega) (by omega)
theorem vm_tk {r : Int32} {R : Nat → Int64} (hr : 1 ≤ r.toInt ∧ r.toInt ≤ 16) (hb : 0 ≤ (R 7).toInt ∧ (R 7).toInt ≤ 3000000000) : vk_tk r.toInt (vm r.toInt R) = vm r.toInt (vr_inc R 7) ∧ ((vm r.toInt R 7 + Int32.ofInt 1).toInt < r.toInt ↔ ¬ vr_rm (vr_inc R 7 7) r = 0) := by
  have e := vr_add1 (x := R 7) (by omega)
  have z1 : (Int32.ofInt 1).toInt = 1 := by decide
  have hm0 := Int.emod_nonneg (R 7).toInt (show r.toInt ≠ 0 by omega)
  have hm1 := Int.emod_lt_of_pos (R 7).toInt (show 0 < r.toInt by omega)
  have hm : (vm r.toInt R 7).toInt = (R 7).toInt % r.toInt := by
    rw [vm_7]
    exact vi_of (by omega) (by omega)
  have ha := vg_add (x := vm r.toInt R 7) (y := Int32.ofInt 1) rfl (by omega) (by omega)
  have hc := vm_emod (x := (R 7).toInt) (r := r.toInt) (by omega) (by omega)
  have h2 : vm r.toInt (vr_inc R 7) 7 = Int32.ofInt (((R 7).toInt + 1) % r.toInt) := by
    rw [vm_7, vr_inc_at, e]
  have h4 := vm_set (r := r.toInt) (R := R) (q := 7) (x := R 7 + Int64.ofNat 1) (by omega)
  constructor
  · rw [vk_tk]
    by_cases hlt : (vm r.toInt R 7 + Int32.ofInt 1).toInt < r.toInt
    · rw [if_pos hlt, vk_inc]
      have h3 : vm r.toInt R 7 + Int32.ofInt 1 = vm r.toInt (vr_inc R 7) 7 := by
        rw [h2]
        apply vg_eqi
        rw [vi_of (by omega) (by omega)]
        omega
      rw [h3, vr_inc]
      exact h4.symm
    · rw [if_neg hlt]
      have h3 : Int32.ofInt 0 = vm r.toInt (vr_inc R 7) 7 := by
        rw [h2, show ((R 7).toInt + 1) % r.toInt = 0 by omega]
      rw [h3, vr_inc]
      exact h4.symm
  · rw [vr_inc_at, vr_rm_0 (by omega) (by omega) (by omega), e]
    omega
theorem vkb_inc {K : Int} {R : Nat → Int64} {q : Nat} (h : vkb K R) (hq : q < 7) : vkb K (vr_inc R q) := fun i h1 h2 => by
  have h3 := h i h1 h2
  simp only [vr_inc, kset]
  rw [if_neg (by omega)]
  exact h3
/-- 7 to 10 by one at most, each once -/
def vkc (K : Int) (n : Nat) (R : Nat → Int64) : Prop := ∀ q : Nat, 7 ≤ q → q ≤ 10 → 0 ≤ (R q).toInt ∧ (R q).toInt ≤ K + 1 ∧ (n ≤ q → (R q).toInt ≤ K)
theorem vkc_inc {K : Int} {R : Nat → Int64} {n : Nat} (h : vkc K n R) (hn : 7 ≤ n ∧ n ≤ 10) (hK : K ≤ 2000000000) : vkc K (n + 1) (vr_inc R n) := fun q h1 h2 => by
  have h3 := h q h1 h2
  by_cases hq : q = n
  · subst hq
    rw [vr_inc_at, vr_add1 (by omega)]
    omega
  · simp only [vr_inc, kset]
    rw [if_neg hq]
    omega
theorem vkc_lo {K : Int} {R : Nat → Int64} {n q : Nat} (h : vkc K n R) (hq : q < 7) : vkc K n (vr_inc R q) := fun i h1 h2 => by
  have h3 := h i h1 h2
  simp only [vr_inc, kset]
  rw [if_neg (by omega)]
  exact h3
theorem vm_ff {r m K : Int} (hK : K ≤ 2000000000) : ∀ (n : Nat) (R : Nat → Int64), n ≤ 3 → vkc K (11 - n) R → vk_ff m n (vm r R) = vm r (vr_ff m n R) ∧ vkb (K + 1) (vr_ff m n R)
  | 0, R, _, h => ⟨rfl, fun q h1 h2 => by have h3 := h q h1 h2; simp only [vr_ff]; omega⟩
  | n + 1, R, hn, h => by
    have hb := h (10 - n) (by omega) (by omega)
    obtain ⟨f1, f2⟩ := vm_fl (r := r) (R := R) (q := 10 - n) (by omega) (by omega) (by omega)
    rw [vk_ff, vr_ff]
    by_cases hm : ((2 - n : Nat) : Int) < m
    · rw [if_pos hm, if_pos hm, f1]
      have hc := vkc_inc (n := 10 - n) (by rw [show 11 - (n + 1) = 10 - n by omega] at h; exact h) (by omega) hK
      by_cases ho : vr_od (vr_inc R (10 - n) (10 - n)) = 0
      · rw [if_pos ho, if_pos (f2.mpr ho)]
        exact ⟨rfl, fun q h1 h2 => by have h3 := hc q h1 h2; omega⟩
      · rw [if_neg ho, if_neg (fun q => ho (f2.mp q)), vm_inc (by omega)]
        exact vm_ff hK n _ (by omega) (vkc_lo (by rw [show 11 - n = 10 - n + 1 by omega]; exact hc) (by omega))
    · rw [if_neg hm, if_neg hm]
      exact ⟨rfl, fun q h1 h2 => by have h3 := h q h1 h2; omega⟩
theorem vm_step {r : Int32} {m K : Int} {R : Nat → Int64} (hr : 1 ≤ r.toInt ∧ r.toInt ≤ 16) (hK : K ≤ 2000000000) (h : vkb K R) : vk_step r.toInt m (vm r.toInt R) = vm r.toInt (vr_step r m R) ∧ vkb (K + 1) (vr_step r m R) := by
  rw [vk_step, vr_step, vm_inc (by omega), vm_inc (by omega), vm_inc (by omega)]
  have h3 := vkb_inc (q := 2) (vkb_inc (q := 1) (vkb_inc (q := 0) h (by omega)) (by omega)) (by omega)
  generalize vr_inc (vr_inc (vr_inc R 0) 1) 2 = R3 at h3
  have h7 := h3 7 (by omega) (by omega)
  obtain ⟨t1, t2⟩ := vm_tk (R := R3) hr (by omega)
  have hc : vkc K 8 (vr_inc R3 7) := vkc_inc (n := 7) (fun q h1 h2 => by have h4 := h3 q h1 h2; omega) (by omega) hK
  rw [vk_comb, vr_comb, t1, vr_tk]
  by_cases ho : vr_rm (vr_inc R3 7 7) r = 0
  · rw [if_pos ho, if_pos ho, if_neg (fun q => t2.mp q ho), vm_inc (by omega)]
    exact vm_ff hK 3 _ (by omega) (vkc_lo hc (by omega))
  · rw [if_neg ho, if_neg ho, if_pos (t2.mpr ho)]
    exact ⟨rfl, fun q h1 h2 => by have h4 := hc q h1 h2; omega⟩
theorem vm_it {r : Int32} {m : Int} (hr : 1 ≤ r.toInt ∧ r.toInt ≤ 16) : ∀ (n : Nat) (K : Int) (R : Nat → Int64), K + (n : Int) ≤ 2000000000 → vkb K R → vk_it r.toInt m n (vm r.toInt R) = vm r.toInt (vr_it r m n R) ∧ vkb (K + (n : Int)) (vr_it r m n R)
  | 0, K, R, _, h => ⟨rfl, vkb_le h (by omega)⟩
  | n + 1, K, R, hK, h => by
    obtain ⟨h1, h2⟩ := vm_it hr n K R (by omega) h
    rw [vk_it, vr_it, h1]
    obtain ⟨h3, h4⟩ := vm_step (m := m) hr (by omega) h2
    exact ⟨h3, vkb_le h4 (by omega)⟩
/-! work -/
theorem vg_cnt_mh {g : Nat → Int32} {v k : Int32} {a : Nat} (h : v = vg_cnt g (min k.toInt.toNat a)) (hk : k.toInt = ((a / 2 + 1 : Nat) : Int) ∧ a / 2 + 1 ≤ a) : v = vg_cnt g (a / 2 + 1) := by
  rw [h, show min k.toInt.toNat a = a / 2 + 1 by omega]
def vg_fk (σ : vg_S) (a : Int32) : Int32 := if a.toInt = 0 then σ.1 35 0 else if a.toInt = 1 then σ.1 37 0 else σ.1 39 0
theorem vg_fk_0 {σ : vg_S} {a : Int32} (h : a.toInt = 0) : vg_fk σ a = σ.1 35 0 := by rw [vg_fk, if_pos h]
theorem vg_fk_1 {σ : vg_S} {a : Int32} (h : a.toInt = 1) : vg_fk σ a = σ.1 37 0 := by rw [vg_fk, if_neg (by omega), if_pos h]
theorem vg_fk_2 {σ : vg_S} {a : Int32} (h : ¬ a.toInt = 0) (h1 : ¬ a.toInt = 1) : vg_fk σ a = σ.1 39 0 := by rw [vg_fk, if_neg h, if_neg h1]
def vg_each (w : Int32) (g : Nat → Int32) (n : Nat) : Int32 := if w.toInt = 0 then vg_cnt g n else vg_cnt g (n / 2 + 1)
theorem vg_each_0 {w : Int32} {g : Nat → Int32} {n : Nat} (h : w.toInt = 0) : vg_each w g n = vg_cnt g n := by rw [vg_each, if_pos h]
theorem vg_each_1 {w : Int32} {g : Nat → Int32} {n : Nat} (h : ¬ w.toInt = 0) : vg_each w g n = vg_cnt g (n / 2 + 1) := by rw [vg_each, if_neg h]
def vg_eachr (w : Int32) (g : Nat → Int32) (n : Nat) : Int32 := if w.toInt = 0 then vg_cnt g n else (vg_cnt g n + Int32.ofInt 1) / Int32.ofInt 2
theorem vg_eachr_0 {w : Int32} {g : Nat → Int32} {n : Nat} (h : w.toInt = 0) : vg_eachr w g n = vg_cnt g n := by rw [vg_eachr, if_pos h]
theorem vg_eachr_1 {w : Int32} {g : Nat → Int32} {n : Nat} (h : ¬ w.toInt = 0) : vg_eachr w g n = (vg_cnt g n + Int32.ofInt 1) / Int32.ofInt 2 := by rw [vg_eachr, if_neg h]
theorem vk_wkm {s : vg_S} {a v : Int32} {k i q : Nat} (e : v = s.1 k i) (h : vk_pl q = (k, i) ∧ q < 11) (ha : (q : Int) = 4 + a.toInt) (h0 : 0 ≤ a.toInt) : v = (vk s).1 (4 + a.toNatClampNeg) := by
  have h1 : a.toNatClampNeg = a.toInt.toNat := rfl
  rw [e, show 4 + a.toNatClampNeg = q by omega]
  exact (vk_at rfl h).symm
theorem vr_wkm {s : vg_S} {a ix v : Int32} (e : v = (s.2 56 ix.toNatClampNeg).toInt32) (h : ix.toInt = 20 + a.toInt) (ha : 0 ≤ a.toInt ∧ a.toInt ≤ 2) : v = ((vk s).2 (4 + a.toNatClampNeg)).toInt32 := by
  have e1 : a.toNatClampNeg = a.toInt.toNat := rfl
  rw [e, vk_ar (q := 4 + a.toNatClampNeg) (s := s) (x := s.2 56 ix.toNatClampNeg) rfl rfl (by omega)]
theorem vg_sym7 {g : Nat → Int32} (h4 : g 4 = g 2) (h5 : g 5 = g 1) (h6 : g 6 = g 0) : vg_cnt g 4 = (vg_cnt g 7 + Int32.ofInt 1) / Int32.ofInt 2 := by
  simp only [vg_cnt, h4, h5, h6]
  by_cases a : (g 0).toInt = 0 <;> by_cases b : (g 1).toInt = 0 <;> by_cases c : (g 2).toInt = 0 <;> by_cases d : (g 3).toInt = 0 <;> simp only [a, b, c, d, if_true, if_false] <;> decide
theorem vg_symt {f : Nat → Int32} {K : Int32} : vg_cnt (vg_tp f K) (vg_tn K / 2 + 1) = (vg_cnt (vg_tp f K) (vg_tn K) + Int32.ofInt 1) / Int32.ofInt 2 := by
  by_cases h0 : K.toInt = 0
  · rw [vg_tn_0 h0, vg_cnt_congr (f := vg_tp f K) (g := fun j => ([1, 2, 1] : List Int32).getD j 0) (n := 3 / 2 + 1) (fun j _ => vg_tp_0 h0), vg_cnt_congr (f := vg_tp f K) (g := fun j => ([1, 2, 1] : List Int32).getD j 0) (n := 3) (fun j _ => vg_tp_0 h0)]
    decide
  · by_cases h2 : K.toInt = 2
    · rw [vg_tn_2 h2, vg_cnt_congr (f := vg_tp f K) (g := fun j => ([3, 0, -25, 0, 150, 256, 150, 0, -25, 0, 3] : List Int32).getD j 0) (n := 11 / 2 + 1) (fun j _ => vg_tp_2 h2), vg_cnt_congr (f := vg_tp f K) (g := fun j => ([3, 0, -25, 0, 150, 256, 150, 0, -25, 0, 3] : List Int32).getD j 0) (n := 11) (fun j _ => vg_tp_2 h2)]
      decide
    · rw [vg_tn_x h0 h2]
      by_cases h1 : K.toInt = 1
      · refine vg_sym7 ?_ ?_ ?_ <;> rw [vg_tp_1 h1, vg_tp_1 h1] <;> rfl
      · refine vg_sym7 ?_ ?_ ?_ <;> rw [vg_tp_3 h0 h1 h2, vg_tp_3 h0 h1 h2] <;> rfl
