/-! counts: 0 to 6 how many the stages told, 7 how many the comb took, 8 to 10 how many the folds took -/
def vk_pl (j : Nat) : Nat × Nat := match j with
  | 0 => (41, 3)
  | 1 => (43, 3)
  | 2 => (45, 3)
  | 3 => (47, 3)
  | 4 => (49, 3)
  | 5 => (51, 3)
  | 6 => (53, 3)
  | 7 => (12, 6)
  | 8 => (35, 3)
  | 9 => (37, 3)
  | _ => (39, 3)
def vk_pr (j : Nat) : Nat := match j with
  | 0 => 16
  | 1 => 17
  | 2 => 18
  | 3 => 19
  | 4 => 20
  | 5 => 21
  | 6 => 22
  | 7 => 13
  | 8 => 108
  | 9 => 109
  | _ => 110
def vk_c (σ : vg_S) : Nat → Int32 := fun j => if j < 11 then σ.1 (vk_pl j).1 (vk_pl j).2 else 0
def vk_r (σ : vg_S) : Nat → Int64 := fun j => if j < 11 then σ.2 56 (vk_pr j) else 0
def vk (σ : vg_S) : (Nat → Int32) × (Nat → Int64) := (vk_c σ, vk_r σ)
def vk_no (k i : Nat) : Bool := match k with
  | 41 => !(Nat.beq i 3)
  | 43 => !(Nat.beq i 3)
  | 45 => !(Nat.beq i 3)
  | 47 => !(Nat.beq i 3)
  | 49 => !(Nat.beq i 3)
  | 51 => !(Nat.beq i 3)
  | 53 => !(Nat.beq i 3)
  | 12 => !(Nat.beq i 6)
  | 35 => !(Nat.beq i 3)
  | 37 => !(Nat.beq i 3)
  | 39 => !(Nat.beq i 3)
  | _ => true
theorem vk_11 {j : Nat} (hj : j < 11) : j = 0 ∨ j = 1 ∨ j = 2 ∨ j = 3 ∨ j = 4 ∨ j = 5 ∨ j = 6 ∨ j = 7 ∨ j = 8 ∨ j = 9 ∨ j = 10 := by omega
theorem vk_no_ok {k i j : Nat} (h : vk_no k i = true) (hj : j < 11) : ¬ ((vk_pl j).1 = k ∧ (vk_pl j).2 = i) := by
  rintro ⟨rfl, rfl⟩
  rcases vk_11 hj with rfl | rfl | rfl | rfl | rfl | rfl | rfl | rfl | rfl | rfl | rfl <;> exact absurd h (by decide)
theorem vk_pl_inj : ∀ j : Nat, j < 11 → ∀ q : Nat, q < 11 → vk_pl j = vk_pl q → j = q := by decide
theorem vk_c_u1 {s : vg_S} {k i : Nat} {x : Int32} (h : vk_no k i = true) : vk_c (vg_u1 s k i x) = vk_c s := by
  funext j
  simp only [vk_c]
  split
  · rename_i hj
    exact vg_u1_at (vk_no_ok h hj)
  · rfl
theorem vk_k1 {s ns : vg_S} {E : (Nat → Int32) × (Nat → Int64)} {k i : Nat} {x : Int32} (hc : vk s = E) (e : ns = vg_u1 s k i x) (h : vk_no k i = true) : vk ns = E := by
  rw [e, ← hc, vk, vk_c_u1 h]
  rfl
/-! rows of counts -/
def kset {α : Type} (C : Nat → α) (i : Nat) (x : α) : Nat → α := fun j => if j = i then x else C j
def vk_inc (C : Nat → Int32) (i : Nat) : Nat → Int32 := kset C i (C i + Int32.ofInt 1)
def vr_inc (R : Nat → Int64) (i : Nat) : Nat → Int64 := kset R i (R i + Int64.ofNat 1)
theorem kset_kset {α : Type} {C : Nat → α} {i : Nat} {x y : α} : kset (kset C i x) i y = kset C i y := by
  funext j
  simp only [kset]
  split
  · rfl
  · rfl
theorem vk_k1s {s ns : vg_S} {E : (Nat → Int32) × (Nat → Int64)} {k i q : Nat} {x : Int32} (hc : vk s = E) (e : ns = vg_u1 s k i x) (h : vk_pl q = (k, i) ∧ q < 11) : vk ns = (kset E.1 q x, E.2) := by
  rw [e, ← hc, vk, vk]
  refine Prod.ext ?_ rfl
  show vk_c (vg_u1 s k i x) = kset (vk_c s) q x
  funext j
  simp only [vk_c, kset]
  by_cases hj : j = q
  · subst hj
    rw [if_pos h.2, if_pos rfl, h.1]
    exact vg_u1_self
  · rw [if_neg hj]
    split
    · rename_i h11
      refine vg_u1_at (fun hh => hj (vk_pl_inj j h11 q h.2 ?_))
      rw [h.1]
      exact Prod.ext hh.1 hh.2
    · rfl
theorem vk_kw {s ns : vg_S} {E : (Nat → Int32) × (Nat → Int64)} {k : Nat} {f : Nat → Int32} (hc : vk s = E) (e : ns = vg_w1 s k f) (h : ∀ i, vk_no k i = true) : vk ns = E := by
  rw [e, ← hc, vk, vk]
  refine Prod.ext ?_ rfl
  show vk_c (vg_w1 s k f) = vk_c s
  funext j
  simp only [vk_c]
  split
  · rename_i hj
    rw [vg_w1_at (fun hh => vk_no_ok (h (vk_pl j).2) hj ⟨hh, rfl⟩)]
  · rfl
theorem vk_k2 {s ns : vg_S} {E : (Nat → Int32) × (Nat → Int64)} {k i : Nat} {x : Int64} (hc : vk s = E) (e : ns = vg_u2 s k i x) (h : Nat.beq k 56 = false) : vk ns = E := by
  rw [e, ← hc, vk, vk]
  refine Prod.ext rfl ?_
  show vk_r (vg_u2 s k i x) = vk_r s
  funext j
  simp only [vk_r]
  split
  · refine vg_u2_at (fun hh => ?_)
    rw [← hh.1] at h
    cases h
  · rfl
def vr_put (R : Nat → Int64) (p : Int) (x : Int64) : Nat → Int64 := fun j => if j < 11 ∧ (vk_pr j : Int) = p then x else R j
def vr_wipe (lo hi : Int) (R : Nat → Int64) : Nat → Int64 := fun j => if j < 11 ∧ lo ≤ (vk_pr j : Int) ∧ (vk_pr j : Int) < hi then Int64.ofNat 0 else R j
theorem vk_k2g {s ns : vg_S} {E : (Nat → Int32) × (Nat → Int64)} {ix : Int32} {x : Int64} (hc : vk s = E) (e : ns = vg_u2 s 56 ix.toNatClampNeg x) (h0 : 0 ≤ ix.toInt) : vk ns = (E.1, vr_put E.2 ix.toInt x) := by
  have h9 : ix.toNatClampNeg = ix.toInt.toNat := rfl
  rw [e, ← hc, vk, vk]
  refine Prod.ext rfl ?_
  show vk_r (vg_u2 s 56 ix.toNatClampNeg x) = vr_put (vk_r s) ix.toInt x
  funext j
  simp only [vk_r, vr_put]
  by_cases hj : j < 11
  · rw [if_pos hj, if_pos hj]
    by_cases hp : (vk_pr j : Int) = ix.toInt
    · rw [if_pos ⟨hj, hp⟩, show vk_pr j = ix.toNatClampNeg by omega]
      exact vg_u2_self
    · rw [if_neg (fun hh => hp hh.2)]
      exact vg_u2_at (fun hh => hp (by omega))
  · rw [if_neg hj, if_neg hj, if_neg (fun hh => hj hh.1)]
theorem vk_pr_at {q : Nat} {p : Int} (h : (q < 7 ∧ p = 16 + (q : Int)) ∨ (q = 7 ∧ p = 13) ∨ (8 ≤ q ∧ q ≤ 10 ∧ p = 100 + (q : Int))) : q < 11 ∧ (vk_pr q : Int) = p := by
  have hq : q < 11 := by omega
  refine ⟨hq, ?_⟩
  rcases vk_11 hq with rfl | rfl | rfl | rfl | rfl | rfl | rfl | rfl | rfl | rfl | rfl <;> simp only [vk_pr] <;> omega
theorem vk_pr_inj : ∀ j : Nat, j < 11 → ∀ q : Nat, q < 11 → vk_pr j = vk_pr q → j = q := by decide
theorem vr_put_set {R : Nat → Int64} {q : Nat} {p : Int} {x : Int64} (h : (q < 7 ∧ p = 16 + (q : Int)) ∨ (q = 7 ∧ p = 13) ∨ (8 ≤ q ∧ q ≤ 10 ∧ p = 100 + (q : Int))) : vr_put R p x = kset R q x := by
  obtain ⟨h1, h2⟩ := vk_pr_at h
  funext j
  simp only [vr_put, kset]
  by_cases hj : j = q
  · subst hj
    rw [if_pos ⟨h1, h2⟩, if_pos rfl]
  · rw [if_neg hj, if_neg (fun hh => hj (vk_pr_inj j hh.1 q h1 (by omega)))]
theorem vr_put_no {R : Nat → Int64} {p : Int} {x : Int64} (h : p < 13 ∨ (13 < p ∧ p < 16) ∨ (22 < p ∧ p < 108) ∨ 110 < p) : vr_put R p x = R := by
  funext j
  simp only [vr_put]
  refine if_neg (fun hh => ?_)
  obtain ⟨h1, h2⟩ := hh
  rcases vk_11 h1 with rfl | rfl | rfl | rfl | rfl | rfl | rfl | rfl | rfl | rfl | rfl <;> simp only [vk_pr] at h2 <;> omega
theorem vk_k2o {s ns : vg_S} {E : (Nat → Int32) × (Nat → Int64)} {ix : Int32} {x : Int64} (hc : vk s = E) (e : ns = vg_u2 s 56 ix.toNatClampNeg x) (h : 0 ≤ ix.toInt ∧ (ix.toInt < 13 ∨ (13 < ix.toInt ∧ ix.toInt < 16) ∨ (22 < ix.toInt ∧ ix.toInt < 108) ∨ 110 < ix.toInt)) : vk ns = E := by
  rw [vk_k2g hc e h.1, vr_put_no h.2]
theorem vk_k2s {q : Nat} {s ns : vg_S} {E : (Nat → Int32) × (Nat → Int64)} {ix : Int32} {x : Int64} (hc : vk s = E) (e : ns = vg_u2 s 56 ix.toNatClampNeg x) (h : (q < 7 ∧ ix.toInt = 16 + (q : Int)) ∨ (q = 7 ∧ ix.toInt = 13) ∨ (8 ≤ q ∧ q ≤ 10 ∧ ix.toInt = 100 + (q : Int))) : vk ns = (E.1, kset E.2 q x) := by
  rw [vk_k2g hc e (by omega), vr_put_set h]
theorem vk_k2i {q : Nat} {s ns : vg_S} {E : (Nat → Int32) × (Nat → Int64)} {ix iy : Int32} {x v : Int64} (hc : vk s = E) (hx : x = s.2 56 iy.toNatClampNeg) (hv : v = x + Int64.ofNat 1) (e : ns = vg_u2 s 56 ix.toNatClampNeg v) (h : (q < 7 ∧ ix.toInt = 16 + (q : Int)) ∨ (q = 7 ∧ ix.toInt = 13) ∨ (8 ≤ q ∧ q ≤ 10 ∧ ix.toInt = 100 + (q : Int))) (hy : iy.toInt = ix.toInt) : vk ns = (E.1, vr_inc E.2 q) := by
  have h9 : ix.toNatClampNeg = ix.toInt.toNat := rfl
  obtain ⟨h1, h2⟩ := vk_pr_at h
  have hq : E.2 q = x := by
    rw [← hc, hx, vg_eqi hy]
    show vk_r s q = _
    simp only [vk_r]
    rw [if_pos h1, show vk_pr q = ix.toNatClampNeg by omega]
  rw [vk_k2s hc e h, vr_inc, hq, hv]
theorem vr_wipe_no {R : Nat → Int64} {lo hi : Int} (h : hi ≤ 13 ∨ (14 ≤ lo ∧ hi ≤ 16) ∨ (23 ≤ lo ∧ hi ≤ 108) ∨ 111 ≤ lo) : vr_wipe lo hi R = R := by
  funext j
  simp only [vr_wipe]
  refine if_neg (fun hh => ?_)
  obtain ⟨h1, h2⟩ := hh
  rcases vk_11 h1 with rfl | rfl | rfl | rfl | rfl | rfl | rfl | rfl | rfl | rfl | rfl <;> simp only [vk_pr] at h2 <;> omega
theorem vr_wipe_7 {R : Nat → Int64} {lo hi : Int} (h : lo = 13 ∧ hi = 16) : vr_wipe lo hi R = kset R 7 (Int64.ofNat 0) := by
  funext j
  simp only [vr_wipe, kset]
  by_cases hj : j = 7
  · subst hj
    rw [if_pos rfl, if_pos ⟨by decide, by simp only [vk_pr]; omega⟩]
  · rw [if_neg hj]
    refine if_neg (fun hh => ?_)
    obtain ⟨h1, h2⟩ := hh
    rcases vk_11 h1 with rfl | rfl | rfl | rfl | rfl | rfl | rfl | rfl | rfl | rfl | rfl <;> simp only [vk_pr] at h2 <;> first | (exact hj rfl) | omega
theorem vk_wno {s t : vg_S} {E : (Nat → Int32) × (Nat → Int64)} {lo hi : Int} (h : vk t = ((vk s).1, vr_wipe lo hi (vk s).2)) (hc : vk s = E) (h' : hi ≤ 13 ∨ (14 ≤ lo ∧ hi ≤ 16) ∨ (23 ≤ lo ∧ hi ≤ 108) ∨ 111 ≤ lo) : vk t = E := by
  rw [h, vr_wipe_no h', ← hc]
theorem vk_w7 {s t : vg_S} {E : (Nat → Int32) × (Nat → Int64)} {lo hi : Int} (h : vk t = ((vk s).1, vr_wipe lo hi (vk s).2)) (hc : vk s = E) (h' : lo = 13 ∧ hi = 16) : vk t = (E.1, kset E.2 7 (Int64.ofNat 0)) := by
  rw [h, vr_wipe_7 h', hc]
theorem vr_wipe_0 {R : Nat → Int64} {lo : Int} : vr_wipe lo lo R = R := by
  funext j
  simp only [vr_wipe]
  exact if_neg (fun hh => by omega)
theorem vr_wipe_s {R : Nat → Int64} {lo p p' : Int} (h : lo ≤ p) (hp : p' = p + 1) : vr_put (vr_wipe lo p R) p (Int64.ofNat 0) = vr_wipe lo p' R := by
  funext j
  simp only [vr_put, vr_wipe]
  by_cases h1 : j < 11 ∧ (vk_pr j : Int) = p
  · rw [if_pos h1, if_pos ⟨h1.1, by omega, by omega⟩]
  · rw [if_neg h1]
    by_cases h2 : j < 11 ∧ lo ≤ (vk_pr j : Int) ∧ (vk_pr j : Int) < p
    · rw [if_pos h2, if_pos ⟨h2.1, h2.2.1, by omega⟩]
    · rw [if_neg h2, if_neg (fun hh => h2 ⟨hh.1, hh.2.1, by have h3 : ¬ (vk_pr j : Int) = p := fun q => h1 ⟨hh.1, q⟩; omega⟩)]
/-! all from a stage on begins anew -/
def kb1 {α : Type} (o : α) (st l : Int) (C : Nat → α) : Nat → α := fun i => if i < 7 ∧ st ≤ (i : Int) ∧ (i : Int) < l then o else C i
def kb2 {α : Type} (o : α) (st f : Int) (C : Nat → α) : Nat → α := fun i => if (i < 7 ∧ st ≤ (i : Int)) ∨ (i = 7 ∧ st ≤ 3) ∨ (8 ≤ i ∧ i ≤ 10 ∧ (i : Int) < 8 + f ∧ st + 4 ≤ (i : Int)) then o else C i
theorem kif {α : Type} {p q : Prop} [Decidable p] [Decidable q] {o c : α} (h : p ↔ q) : (if p then o else c) = (if q then o else c) := by
  by_cases hp : p
  · rw [if_pos hp, if_pos (h.mp hp)]
  · rw [if_neg hp, if_neg (fun hq => hp (h.mpr hq))]
theorem kset_if {α : Type} {p : Nat → Prop} [∀ i, Decidable (p i)] {o : α} {C : Nat → α} {n : Nat} : kset (fun i => if p i then o else C i) n o = fun i => if p i ∨ i = n then o else C i := by
  funext j
  simp only [kset]
  by_cases hj : j = n
  · rw [if_pos hj, if_pos (Or.inr hj)]
  · rw [if_neg hj]
    exact kif ⟨Or.inl, fun h => h.elim id (fun q => absurd q hj)⟩
theorem kb1_0 {α : Type} {o : α} {st l : Int} {C : Nat → α} (h : l ≤ st) : kb1 o st l C = C := by
  funext i
  exact if_neg (fun hh => by omega)
theorem kb1_s {α : Type} {o : α} {st l l' : Int} {n : Nat} {C : Nat → α} (h1 : st ≤ l) (h2 : l = (n : Int)) (h3 : n < 7) (h4 : l' = l + 1) : kset (kb1 o st l C) n o = kb1 o st l' C := by
  unfold kb1
  rw [kset_if]
  funext i
  exact kif (by omega)
theorem vk_at {s : vg_S} {E : (Nat → Int32) × (Nat → Int64)} {k i q : Nat} (hc : vk s = E) (h : vk_pl q = (k, i) ∧ q < 11) : E.1 q = s.1 k i := by
  rw [← hc]
  show vk_c s q = _
  simp only [vk_c]
  rw [if_pos h.2, h.1]
theorem vk_kv {s : vg_S} {E : (Nat → Int32) × (Nat → Int64)} {k i q : Nat} {x v : Int32} (hc : vk s = E) (hx : s.1 k i = x) (hv : v = x + Int32.ofInt 1) (h : vk_pl q = (k, i) ∧ q < 11) : v = E.1 q + Int32.ofInt 1 := by
  rw [vk_at hc h, hx, hv]
theorem vk_k1i {s ns : vg_S} {E : (Nat → Int32) × (Nat → Int64)} {k i q : Nat} {x v : Int32} (hc : vk s = E) (hx : s.1 k i = x) (hv : v = x + Int32.ofInt 1) (e : ns = vg_u1 s k i v) (h : vk_pl q = (k, i) ∧ q < 11) : vk ns = (vk_inc E.1 q, E.2) := by
  rw [vk_k1s hc e h, vk_inc, vk_at hc h, hx, hv]
theorem vk_l {t : vg_S} {C C' : Nat → Int32} {R : Nat → Int64} (hc : vk t = (C, R)) (h : C = C') : vk t = (C', R) := by rw [hc, h]
theorem vk_rr {t : vg_S} {C : Nat → Int32} {R R' : Nat → Int64} (hc : vk t = (C, R)) (h : R = R') : vk t = (C, R') := by rw [hc, h]
theorem kb2_0a {α : Type} {o : α} {st l : Int} {C : Nat → α} (h : 7 ≤ l) (h3 : st ≤ 3) : kset (kb1 o st l C) 7 o = kb2 o st 0 C := by
  unfold kb1 kb2
  rw [kset_if]
  funext i
  exact kif (by omega)
theorem kb2_0b {α : Type} {o : α} {st l f : Int} {C : Nat → α} (h : 7 ≤ l) (h3 : ¬ st ≤ 3) (hf : f = 0 ∨ f ≤ st - 4) : kb1 o st l C = kb2 o st f C := by
  unfold kb1 kb2
  funext i
  exact kif (by omega)
theorem kb2_0c {α : Type} {o : α} {st l f : Int} {C : Nat → α} (h : 7 ≤ l) (h3 : st ≤ 3) (hf : f = 0) : kset (kb1 o st l C) 7 o = kb2 o st f C := by
  subst hf
  exact kb2_0a h h3
theorem kb2_s {α : Type} {o : α} {st f f' : Int} {q : Nat} {C : Nat → α} (h1 : (q : Int) = 8 + f) (h2 : 0 ≤ f ∧ f < 3) (h3 : st ≤ 4 + f) (h4 : f' = f + 1) : kset (kb2 o st f C) q o = kb2 o st f' C := by
  unfold kb2
  rw [kset_if]
  funext i
  exact kif (by omega)
theorem kb2_n {α : Type} {o : α} {st f f' : Int} {C : Nat → α} (h3 : ¬ st ≤ 4 + f) (h4 : f' = f + 1) : kb2 o st f C = kb2 o st f' C := by
  unfold kb2
  funext i
  exact kif (by omega)
theorem kb2_e {α : Type} {o : α} {st f : Int} {C : Nat → α} (h : 3 ≤ f) : kb2 o st f C = kb2 o st 3 C := by
  unfold kb2
  funext i
  exact kif (by omega)
/-! a clock -/
def vk_fl (x : Int32) : Int32 := if x.toInt = 0 then Int32.ofInt 1 else Int32.ofInt 0
def vk_tk (r : Int) (C : Nat → Int32) : Nat → Int32 := if (C 7 + Int32.ofInt 1).toInt < r then vk_inc C 7 else kset C 7 (Int32.ofInt 0)
theorem vk_tk1 {r : Int} {C : Nat → Int32} (h : (C 7 + Int32.ofInt 1).toInt < r) : vk_inc C 7 = vk_tk r C := by rw [vk_tk, if_pos h]
theorem vk_tk2 {r : Int} {C : Nat → Int32} (h : ¬ (C 7 + Int32.ofInt 1).toInt < r) : kset C 7 (Int32.ofInt 0) = vk_tk r C := by rw [vk_tk, if_neg h]
/-- what is left to do of the folds, from fold 3 - n on -/
def vk_ff (m : Int) : Nat → (Nat → Int32) → (Nat → Int32)
  | 0, C => C
  | n + 1, C => if ((2 - n : Nat) : Int) < m then (if (C (10 - n)).toInt = 0 then kset C (10 - n) (vk_fl (C (10 - n))) else vk_ff m n (vk_inc (kset C (10 - n) (vk_fl (C (10 - n)))) (6 - n))) else C
def vk_comb (r m : Int) (C : Nat → Int32) : Nat → Int32 := if (C 7 + Int32.ofInt 1).toInt < r then vk_tk r C else vk_ff m 3 (vk_inc (vk_tk r C) 3)
def vk_step (r m : Int) (C : Nat → Int32) : Nat → Int32 := vk_comb r m (vk_inc (vk_inc (vk_inc C 0) 1) 2)
def vk_it (r m : Int) : Nat → (Nat → Int32) → (Nat → Int32)
  | 0, C => C
  | n + 1, C => vk_step r m (vk_it r m n C)
theorem vk_st0 {r r' m : Int} {C : Nat → Int32} (hr : r' = r) (h : (vk_inc (vk_inc (vk_inc C 0) 1) 2 7 + Int32.ofInt 1).toInt < r) : vk_tk r' (vk_inc (vk_inc (vk_inc C 0) 1) 2) = vk_step r m C := by
  rw [hr, vk_step, vk_comb, if_pos h]
theorem vk_st1 {r r' m m' : Int} {C : Nat → Int32} (hr : r' = r) (hm : m' = m) (h : ¬ (vk_inc (vk_inc (vk_inc C 0) 1) 2 7 + Int32.ofInt 1).toInt < r) : vk_ff m' 3 (vk_inc (vk_tk r' (vk_inc (vk_inc (vk_inc C 0) 1) 2)) 3) = vk_step r m C := by
  rw [hr, hm, vk_step, vk_comb, if_neg h]
theorem vk_it_s {r r' m m' : Int} {C : Nat → Int32} {l l' : Int32} (hr : r' = r) (hm : m' = m) (h0 : 0 ≤ l.toInt) (hl : l'.toInt = l.toInt + 1) : vk_step r' m' (vk_it r m l.toNatClampNeg C) = vk_it r m l'.toNatClampNeg C := by
  rw [hr, hm, vg_nx h0 hl, vk_it]
theorem vk_h1 {t : vg_S} {C : Nat → Int32} {R : Nat → Int64} (hc : vk t = (C, R)) : vk t = ((vk t).1, R) := by rw [hc]
theorem vk_h2 {t : vg_S} {C : Nat → Int32} {R : Nat → Int64} (hc : vk t = (C, R)) : vk t = (C, (vk t).2) := by rw [hc]
theorem vk_ff_nx {m : Int} {C C' X : Nat → Int32} {l l' : Int32} {f q p : Nat} (x : vk_ff m (3 - l.toNatClampNeg) C = X) (hl : l.toInt = (f : Int)) (hf : f < 3 ∧ (f : Int) < m) (hq : q = 8 + f) (hp : p = 4 + f) (hb : ¬ (C q).toInt = 0) (hl' : l'.toInt = l.toInt + 1) (hC : C' = vk_inc (kset C q (vk_fl (C q))) p) : vk_ff m (3 - l'.toNatClampNeg) C' = X := by
  have h1 : l.toNatClampNeg = l.toInt.toNat := rfl
  have h2 : l'.toNatClampNeg = l'.toInt.toNat := rfl
  rw [← x, hC, show 3 - l.toNatClampNeg = (2 - f) + 1 by omega, show 3 - l'.toNatClampNeg = 2 - f by omega, vk_ff, if_pos (by omega), show 10 - (2 - f) = q by omega, if_neg hb, show 6 - (2 - f) = p by omega]
theorem vk_ff_st {m : Int} {C X : Nat → Int32} {l : Int32} {f q : Nat} (x : vk_ff m (3 - l.toNatClampNeg) C = X) (hl : l.toInt = (f : Int)) (hf : f < 3 ∧ (f : Int) < m) (hq : q = 8 + f) (hb : (C q).toInt = 0) (h0 : 0 ≤ l.toInt) : kset C q (vk_fl (C q)) = X := by
  have h1 : l.toNatClampNeg = l.toInt.toNat := rfl
  rw [← x, show 3 - l.toNatClampNeg = (2 - f) + 1 by omega, vk_ff, if_pos (by omega), show 10 - (2 - f) = q by omega, if_pos hb]
theorem vk_ff_end {m : Int} {C X : Nat → Int32} {l : Int32} (x : vk_ff m (3 - l.toNatClampNeg) C = X) (h : m ≤ l.toInt ∧ 0 ≤ l.toInt) : C = X := by
  have h1 : l.toNatClampNeg = l.toInt.toNat := rfl
  rw [← x]
  cases hn : 3 - l.toNatClampNeg with
  | zero => rfl
  | succ n => rw [vk_ff, if_neg (by omega)]
theorem vk_toldm {s : vg_S} {a v : Int32} {k i q : Nat} (e : v = s.1 k i) (h : vk_pl q = (k, i) ∧ q < 11) (ha : a.toInt = (q : Int)) : v = (vk s).1 a.toNatClampNeg := by
  have h1 : a.toNatClampNeg = a.toInt.toNat := rfl
  rw [e, show a.toNatClampNeg = q by omega]
  exact (vk_at rfl h).symm
/-! the reference's clock -/
def vr_rm (x : Int64) (r : Int32) : Int := (lg_cmp (x - x / r.toInt64 * r.toInt64) (Int64.ofNat 0)).toInt
def vr_od (x : Int64) : Int := (lg_cmp (x - x / Int64.ofInt 2 * Int64.ofInt 2) (Int64.ofNat 1)).toInt
theorem vk_ar {q : Nat} {s : vg_S} {E : (Nat → Int32) × (Nat → Int64)} {ix : Int32} {x : Int64} (hc : vk s = E) (hx : x = s.2 56 ix.toNatClampNeg) (h : (q < 7 ∧ ix.toInt = 16 + (q : Int)) ∨ (q = 7 ∧ ix.toInt = 13) ∨ (8 ≤ q ∧ q ≤ 10 ∧ ix.toInt = 100 + (q : Int))) : x = E.2 q := by
  have h9 : ix.toNatClampNeg = ix.toInt.toNat := rfl
  obtain ⟨h1, h2⟩ := vk_pr_at h
  rw [← hc, hx]
  show _ = vk_r s q
  simp only [vk_r]
  rw [if_pos h1, show vk_pr q = ix.toNatClampNeg by omega]
theorem vr_rmk {x X v y : Int64} {r r0 c : Int32} (hx : x = X) (hv : v = x - x / y * y) (hy : y = r.toInt64) (hc : c = lg_cmp v (Int64.ofNat 0)) (hr : r = r0) : c.toInt = vr_rm X r0 := by
  subst hx
  subst hr
  subst hy
  rw [vr_rm, hc, hv]
theorem vr_odk {x X v : Int64} {c : Int32} (hx : x = X) (hv : v = x - x / Int64.ofInt 2 * Int64.ofInt 2) (hc : c = lg_cmp v (Int64.ofNat 1)) : c.toInt = vr_od X := by
  subst hx
  rw [vr_od, hc, hv]
def vr_tk (r : Int32) (R : Nat → Int64) : Nat → Int64 := if vr_rm (vr_inc R 7 7) r = 0 then vr_inc (vr_inc R 7) 3 else vr_inc R 7
theorem vr_tk1 {r : Int32} {R : Nat → Int64} (h : vr_rm (vr_inc R 7 7) r = 0) : vr_inc (vr_inc R 7) 3 = vr_tk r R := by rw [vr_tk, if_pos h]
theorem vr_tk0 {r : Int32} {R : Nat → Int64} (h : ¬ vr_rm (vr_inc R 7 7) r = 0) : vr_inc R 7 = vr_tk r R := by rw [vr_tk, if_neg h]
def vr_fd (f : Nat) (R : Nat → Int64) : Nat → Int64 := if vr_od (vr_inc R (8 + f) (8 + f)) = 0 then vr_inc R (8 + f) else vr_inc (vr_inc R (8 + f)) (4 + f)
theorem vr_fd0 {f : Nat} {R : Nat → Int64} (h : vr_od (vr_inc R (8 + f) (8 + f)) = 0) : vr_inc R (8 + f) = vr_fd f R := by rw [vr_fd, if_pos h]
theorem vr_fd1 {f : Nat} {R : Nat → Int64} (h : ¬ vr_od (vr_inc R (8 + f) (8 + f)) = 0) : vr_inc (vr_inc R (8 + f)) (4 + f) = vr_fd f R := by rw [vr_fd, if_neg h]
def vr_ff (m : Int) : Nat → (Nat → Int64) → (Nat → Int64)
  | 0, R => R
  | n + 1, R => if ((2 - n : Nat) : Int) < m then (if vr_od (vr_inc R (10 - n) (10 - n)) = 0 then vr_inc R (10 - n) else vr_ff m n (vr_inc (vr_inc R (10 - n)) (6 - n))) else R
def vr_comb (r : Int32) (m : Int) (R : Nat → Int64) : Nat → Int64 := if vr_rm (vr_inc R 7 7) r = 0 then vr_ff m 3 (vr_tk r R) else vr_tk r R
def vr_step (r : Int32) (m : Int) (R : Nat → Int64) : Nat → Int64 := vr_comb r m (vr_inc (vr_inc (vr_inc R 0) 1) 2)
def vr_it (r : Int32) (m : Int) : Nat → (Nat → Int64) → (Nat → Int64)
  | 0, R => R
  | n + 1, R => vr_step r m (vr_it r m n R)
theorem vr_it_s {r r' : Int32} {m m' : Int} {R : Nat → Int64} {l l' : Int32} (hr : r' = r) (hm : m' = m) (h0 : 0 ≤ l.toInt) (hl : l'.toInt = l.toInt + 1) : vr_step r' m' (vr_it r m l.toNatClampNeg R) = vr_it r m l'.toNatClampNeg R := by
  rw [hr, hm, vg_nx h0 hl, vr_it]
def vr_gi (m : Int) (l4 l5 : Int32) (R S : Nat → Int64) : Prop := (l4.toInt = 0 ∧ R = S) ∨ (¬ l4.toInt = 0 ∧ vr_ff m (3 - l5.toNatClampNeg) R = S)
theorem vr_g0 {z s t : vg_S} {C C' : Nat → Int32} {v : Int32} {m : Int} (hck : vk t = (C, vr_tk (s.1 55 17) (vr_inc (vr_inc (vr_inc (vk z).2 0) 1) 2))) (h3 : vk s = (C', vr_inc (vr_inc (vr_inc (vk z).2 0) 1) 2)) (h4 : s.1 55 17 = z.1 55 17) (h5 : (v.toInt = 0 ∧ ¬ vr_rm (vr_inc (vk s).2 7 7) (s.1 55 17) = 0) ∨ (v.toInt = 1 ∧ vr_rm (vr_inc (vk s).2 7 7) (s.1 55 17) = 0)) : vr_gi m v (Int32.ofInt 0) (vk t).2 (vr_step (z.1 55 17) m (vk z).2) := by
  rw [h3, h4] at h5
  rw [h4] at hck
  rw [hck]
  rcases h5 with ⟨a, b⟩ | ⟨a, b⟩
  · refine Or.inl ⟨a, ?_⟩
    rw [vr_step, vr_comb, if_neg b]
  · refine Or.inr ⟨by omega, ?_⟩
    rw [vr_step, vr_comb, if_pos b]
    rfl
theorem vr_g1 {m : Int} {l4 l5 v l5' : Int32} {s t : vg_S} {C : Nat → Int32} {S : Nat → Int64} (x : vr_gi m l4 l5 (vk s).2 S) (hck : vk t = (C, vr_fd l5.toNatClampNeg (vk s).2)) (hq : (v.toInt = 0 ∧ vr_od (vr_inc (vk s).2 (8 + l5.toNatClampNeg) (8 + l5.toNatClampNeg)) = 0) ∨ (v.toInt = 1 ∧ ¬ vr_od (vr_inc (vk s).2 (8 + l5.toNatClampNeg) (8 + l5.toNatClampNeg)) = 0)) (h1 : ¬ l4.toInt = 0) (h2 : 0 ≤ l5.toInt ∧ l5.toInt < 3 ∧ l5.toInt < m) (hl : l5'.toInt = l5.toInt + 1) : vr_gi m v l5' (vk t).2 S := by
  have e1 : l5.toNatClampNeg = l5.toInt.toNat := rfl
  have e2 : l5'.toNatClampNeg = l5'.toInt.toNat := rfl
  rcases x with ⟨a, -⟩ | ⟨-, x⟩
  · exact absurd a h1
  · rw [show 3 - l5.toNatClampNeg = (2 - l5.toNatClampNeg) + 1 by omega, vr_ff, if_pos (by omega), show 10 - (2 - l5.toNatClampNeg) = 8 + l5.toNatClampNeg by omega, show 6 - (2 - l5.toNatClampNeg) = 4 + l5.toNatClampNeg by omega] at x
    rw [hck]
    rcases hq with ⟨a, b⟩ | ⟨a, b⟩
    · rw [if_pos b] at x
      exact Or.inl ⟨a, by rw [← x]; exact (vr_fd0 b).symm⟩
    · rw [if_neg b] at x
      refine Or.inr ⟨by omega, ?_⟩
      rw [← x, show 3 - l5'.toNatClampNeg = 2 - l5.toNatClampNeg by omega]
      show vr_ff m _ (vr_fd _ _) = _
      rw [← vr_fd1 b]
theorem vr_ge {m : Int} {l4 l5 : Int32} {R S : Nat → Int64} (x : vr_gi m l4 l5 R S) (h : l4.toInt = 0 ∨ (m ≤ l5.toInt ∧ 0 ≤ l5.toInt)) : R = S := by
  have e1 : l5.toNatClampNeg = l5.toInt.toNat := rfl
  rcases x with ⟨-, x⟩ | ⟨a, x⟩
  · exact x
  · rw [← x]
    cases hn : 3 - l5.toNatClampNeg with
    | zero => rfl
    | succ n => rw [vr_ff, if_neg (by omega)]
theorem vr_toldm {s : vg_S} {a ix v : Int32} (e : v = (s.2 56 ix.toNatClampNeg).toInt32) (h : ix.toInt = 16 + a.toInt) (ha : 0 ≤ a.toInt ∧ a.toInt ≤ 6) : v = ((vk s).2 a.toNatClampNeg).toInt32 := by
  have e1 : a.toNatClampNeg = a.toInt.toNat := rfl
  rw [e, vk_ar (q := a.toNatClampNeg) (s := s) (x := s.2 56 ix.toNatClampNeg) rfl rfl (by omega)]
theorem vk_cpo {s t : vg_S} {C : Nat → Int32} {R : Nat → Int64} (h1 : t.1 = s.1) (h2 : t.2 56 = s.2 56) (hc : vk s = (C, R)) : vk t = (C, R) := by
  rw [← hc, vk, vk]
  refine Prod.ext ?_ ?_
  · show vk_c t = vk_c s
    unfold vk_c
    rw [h1]
  · show vk_r t = vk_r s
    unfold vk_r
    rw [h2]
theorem vk_pr_lt : ∀ j : Nat, j < 11 → vk_pr j < 481 := by decide
theorem vk_cpi {z s t : vg_S} {A : Nat} {C : Nat → Int32} {R : Nat → Int64} (h1 : t.1 = s.1) (h2 : ∀ j : Nat, j < 481 → t.2 56 j = s.2 A j) (h3 : ∀ j : Nat, j < 481 → s.2 A j = z.2 56 j) (hc : vk s = (C, R)) : vk t = (C, (vk z).2) := by
  refine Prod.ext ?_ ?_
  · have h4 : (vk s).1 = C := by rw [hc]
    rw [← h4]
    show vk_c t = vk_c s
    unfold vk_c
    rw [h1]
  · show vk_r t = vk_r z
    unfold vk_r
    funext j
    split
    · rename_i hj
      rw [h2 _ (vk_pr_lt j hj), h3 _ (vk_pr_lt j hj)]
    · rfl
