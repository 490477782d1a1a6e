/-! the pattern's numbers, as they are walked -/
theorem q_pf_at {O : Nat → Int32} {a lv pv r idx : Int32} {l p : Int} (y0 : r.toInt = a.toInt % pv.toInt) (e : idx = lv + r) (hx : idx.toInt = lv.toInt + r.toInt) (ha : 0 ≤ a.toInt) (hp : pv.toInt = p) (hl : lv.toInt = l) : O idx.toNatClampNeg = q_pf O l p a.toNatClampNeg := by
  have c1 : a.toNatClampNeg = a.toInt.toNat := rfl
  have c2 : idx.toNatClampNeg = idx.toInt.toNat := rfl
  unfold q_pf
  rw [c1, c2, hx, y0, hp, hl, show ((a.toInt.toNat : Nat) : Int) = a.toInt by omega]
theorem q_or1 {f : Nat → Int32} {s v w t i j : Int32} (h : s = q_or f i.toNatClampNeg) (y0 : v = f i.toNatClampNeg) (y1 : w = Int32.ofInt 1 <<< (v &&& (31 : Int32))) (y2 : t = s ||| w) (hi : 0 ≤ i.toInt) (hj : j.toInt = i.toInt + 1) : t = q_or f j.toNatClampNeg := by
  have c1 : i.toNatClampNeg = i.toInt.toNat := rfl
  have c2 : j.toNatClampNeg = j.toInt.toNat := rfl
  rw [show j.toNatClampNeg = i.toNatClampNeg + 1 by omega, q_or, y2, y1, y0, h]
theorem q_or_at {f : Nat → Int32} {s i n : Int32} (h : s = q_or f i.toNatClampNeg) (hi : i.toInt = n.toInt) : s = q_or f n.toNatClampNeg := by rw [h, vg_eqi hi]
theorem q_rs_at {f : Nat → Int32} {s i n : Int32} (h : s = vg_rs f i.toNatClampNeg) (hi : i.toInt = n.toInt) : s = vg_rs f n.toNatClampNeg := by rw [h, vg_eqi hi]
theorem q_ch1 {f : Nat → Int32} {c c' a b i j k : Int32} (h : c.toInt = (q_ch f i.toNatClampNeg : Int)) (y0 : a = f i.toNatClampNeg) (y1 : b = f k.toNatClampNeg) (hk : k.toInt = i.toInt + 1) (hi : 0 ≤ i.toInt) (hj : j.toInt = i.toInt + 1) (hc : (a.toInt = b.toInt ∧ c'.toInt = c.toInt) ∨ (¬ a.toInt = b.toInt ∧ c'.toInt = c.toInt + 1)) : c'.toInt = (q_ch f j.toNatClampNeg : Int) := by
  have c1 : i.toNatClampNeg = i.toInt.toNat := rfl
  have c2 : j.toNatClampNeg = j.toInt.toNat := rfl
  have c3 : k.toNatClampNeg = k.toInt.toNat := rfl
  rw [show k.toNatClampNeg = i.toNatClampNeg + 1 by omega] at y1
  rw [show j.toNatClampNeg = i.toNatClampNeg + 1 by omega, q_ch, ← y0, ← y1]
  rcases hc with ⟨g1, g2⟩ | ⟨g1, g2⟩
  · rw [if_pos g1]
    omega
  · rw [if_neg g1]
    omega
theorem q_ch_at {f : Nat → Int32} {c i n : Int32} (h : c.toInt = (q_ch f i.toNatClampNeg : Int)) (hi : i.toInt = n.toInt) : c.toInt = (q_ch f n.toNatClampNeg : Int) := by rw [h, vg_eqi hi]
/-- the class's run -/
def q_lcW (f : Nat → Int32) (i run lg : Int32) : Prop := q_lcI f i.toNatClampNeg run.toNatClampNeg lg.toNatClampNeg ∧ 1 ≤ run.toInt ∧ run.toInt ≤ i.toInt ∧ 1 ≤ lg.toInt ∧ lg.toInt ≤ i.toInt
theorem q_lw0 {f : Nat → Int32} : q_lcW f (Int32.ofInt 1) (Int32.ofInt 1) (Int32.ofInt 1) := by
  have z : (Int32.ofInt 1).toInt = 1 := by decide
  unfold q_lcW
  rw [q_n1]
  exact ⟨q_lc0, by omega, by omega, by omega, by omega⟩
theorem q_lw1 {f : Nat → Int32} {i run lg a b k i' run' lg' : Int32} (h : q_lcW f i run lg) (y0 : a = f i.toNatClampNeg) (y1 : b = f k.toNatClampNeg) (hk : k.toInt = i.toInt - 1) (hc : (a.toInt = b.toInt ∧ run'.toInt = run.toInt + 1) ∨ (¬ a.toInt = b.toInt ∧ run'.toInt = 1)) (hm : lg.toInt ≤ lg'.toInt ∧ run'.toInt ≤ lg'.toInt ∧ (lg'.toInt = lg.toInt ∨ lg'.toInt = run'.toInt)) (hi : i'.toInt = i.toInt + 1) : q_lcW f i' run' lg' := by
  obtain ⟨h1, h2, h3, h4, h5⟩ := h
  have c1 : i.toNatClampNeg = i.toInt.toNat := rfl
  have c2 : i'.toNatClampNeg = i'.toInt.toNat := rfl
  have c3 : k.toNatClampNeg = k.toInt.toNat := rfl
  have c4 : run.toNatClampNeg = run.toInt.toNat := rfl
  have c5 : run'.toNatClampNeg = run'.toInt.toNat := rfl
  have c6 : lg.toNatClampNeg = lg.toInt.toNat := rfl
  have c7 : lg'.toNatClampNeg = lg'.toInt.toNat := rfl
  rw [show k.toNatClampNeg = i.toNatClampNeg - 1 by omega] at y1
  refine ⟨?_, by omega, by omega, by omega, by omega⟩
  rw [show i'.toNatClampNeg = i.toNatClampNeg + 1 by omega]
  rcases hc with ⟨g1, g2⟩ | ⟨g1, g2⟩
  · rw [show run'.toNatClampNeg = run.toNatClampNeg + 1 by omega]
    exact q_lc1 h1 (by rw [← y0, ← y1]; exact vg_eqi g1) (by omega)
  · rw [show run'.toNatClampNeg = 1 by omega, show lg'.toNatClampNeg = lg.toNatClampNeg by omega]
    exact q_lc2 h1 (fun q => g1 (by rw [y0, y1, q])) (by omega)
theorem q_lw2 {f : Nat → Int32} {i run lg n : Int32} (h : q_lcW f i run lg) (hc : ¬ q_ch f n.toNatClampNeg = 0) (hi : i.toInt = 2 * n.toInt) (hn : 0 ≤ n.toInt) : q_lcE f n.toNatClampNeg lg.toNatClampNeg := by
  have c1 : i.toNatClampNeg = i.toInt.toNat := rfl
  have c2 : n.toNatClampNeg = n.toInt.toNat := rfl
  refine Or.inr ⟨hc, run.toNatClampNeg, ?_⟩
  rw [show 2 * n.toNatClampNeg = i.toNatClampNeg by omega]
  exact h.1
theorem q_lw3 {f : Nat → Int32} {c n v : Int32} (hc : c.toInt = (q_ch f n.toNatClampNeg : Int)) (hc0 : c.toInt = 0) (hv : v.toInt = n.toInt) : q_lcE f n.toNatClampNeg v.toNatClampNeg := Or.inl ⟨by omega, by rw [vg_eqi hv]⟩
/-- the reference's pattern -/
def q_oA (f : Nat → Int32) (p sum ul ch lg k : Int32) : Prop := sum = vg_rs f k.toNatClampNeg ∧ ul.toInt = (q_ul f k.toNatClampNeg : Int) ∧ ch.toInt = (q_ch f k.toNatClampNeg : Int) ∧ q_lrI f p.toNatClampNeg k.toNatClampNeg lg.toNatClampNeg ∧ 0 ≤ lg.toInt ∧ lg.toInt ≤ p.toInt ∧ k.toInt ≤ p.toInt
theorem q_oA_rng {f : Nat → Int32} {p sum ul ch lg k : Int32} (h : q_oA f p sum ul ch lg k) (hk : 0 ≤ k.toInt) : 0 ≤ ul.toInt ∧ ul.toInt ≤ k.toInt ∧ 0 ≤ ch.toInt ∧ ch.toInt ≤ k.toInt ∧ 0 ≤ lg.toInt ∧ lg.toInt ≤ p.toInt := by
  have c1 : k.toNatClampNeg = k.toInt.toNat := rfl
  have h1 := q_ul_le (f := f) k.toNatClampNeg
  have h2 := q_ch_le (f := f) k.toNatClampNeg
  obtain ⟨-, g2, g3, -, g5, g6, -⟩ := h
  omega
theorem q_oA0 {f : Nat → Int32} {p : Int32} (hp : 1 ≤ p.toInt) : q_oA f p (Int32.ofInt 0) (Int32.ofInt 0) (Int32.ofInt 0) (Int32.ofInt 0) (Int32.ofInt 0) := by
  have z : (Int32.ofInt 0).toInt = 0 := by decide
  unfold q_oA
  rw [q_n0]
  exact ⟨rfl, z, z, q_lr0, by omega, by omega, by omega⟩
def q_oB (f : Nat → Int32) (p sum ul ch lg k fi j : Int32) : Prop := sum = vg_rs f (k.toNatClampNeg + 1) ∧ ul.toInt = (q_ul f k.toNatClampNeg : Int) ∧ ch.toInt = (q_ch f (k.toNatClampNeg + 1) : Int) ∧ q_lrI f p.toNatClampNeg k.toNatClampNeg lg.toNatClampNeg ∧ 0 ≤ lg.toInt ∧ lg.toInt ≤ p.toInt ∧ k.toInt < p.toInt ∧ fi.toInt = (if q_fr f k.toNatClampNeg j.toNatClampNeg = true then 1 else 0) ∧ j.toInt ≤ k.toInt
theorem q_oB_rng {f : Nat → Int32} {p sum ul ch lg k fi j : Int32} (h : q_oB f p sum ul ch lg k fi j) (hk : 0 ≤ k.toInt) : 0 ≤ ul.toInt ∧ ul.toInt ≤ k.toInt ∧ 0 ≤ ch.toInt ∧ ch.toInt ≤ k.toInt + 1 ∧ 0 ≤ lg.toInt ∧ lg.toInt ≤ p.toInt ∧ 0 ≤ fi.toInt ∧ fi.toInt ≤ 1 ∧ k.toInt < p.toInt ∧ j.toInt ≤ k.toInt := by
  have c1 : k.toNatClampNeg = k.toInt.toNat := rfl
  have h1 := q_ul_le (f := f) k.toNatClampNeg
  have h2 := q_ch_le (f := f) (k.toNatClampNeg + 1)
  obtain ⟨-, g2, g3, -, g5, g6, g7, g8, g9⟩ := h
  split at g8 <;> omega
theorem q_oB0 {f : Nat → Int32} {p sum ul ch lg k a0 sum' a b k1 ch' fi j : Int32} (h : q_oA f p sum ul ch lg k) (hk : 0 ≤ k.toInt ∧ k.toInt < p.toInt) (y0 : a0 = f k.toNatClampNeg) (ys : sum' = sum + a0) (y1 : a = f k.toNatClampNeg) (y2 : b = f k1.toNatClampNeg) (hk1 : k1.toInt = k.toInt + 1) (hc : (a.toInt = b.toInt ∧ ch'.toInt = ch.toInt) ∨ (¬ a.toInt = b.toInt ∧ ch'.toInt = ch.toInt + 1)) (hf : fi = Int32.ofInt 1) (hj : j = Int32.ofInt 0) : q_oB f p sum' ul ch' lg k fi j := by
  obtain ⟨h1, h2, h3, h4, h5, h6, h7⟩ := h
  have c1 : k.toNatClampNeg = k.toInt.toNat := rfl
  have c2 : k1.toNatClampNeg = k1.toInt.toNat := rfl
  have z1 : (Int32.ofInt 1).toInt = 1 := by decide
  have z0 : (Int32.ofInt 0).toInt = 0 := by decide
  rw [show k1.toNatClampNeg = k.toNatClampNeg + 1 by omega] at y2
  refine ⟨by rw [vg_rs, ys, y0, h1], h2, ?_, h4, h5, h6, hk.2, ?_, by rw [hj]; omega⟩
  · rw [q_ch, ← y1, ← y2]
    rcases hc with ⟨g1, g2⟩ | ⟨g1, g2⟩
    · rw [if_pos g1]
      omega
    · rw [if_neg g1]
      omega
  · rw [hf, hj, q_n0, q_fr, if_pos rfl, z1]
theorem q_oB1 {f : Nat → Int32} {p sum ul ch lg k fi j a b fi' j' : Int32} (h : q_oB f p sum ul ch lg k fi j) (hj : 0 ≤ j.toInt ∧ j.toInt < k.toInt) (hc : (fi.toInt = 0 ∧ fi'.toInt = 0) ∨ (¬ fi.toInt = 0 ∧ a = f j.toNatClampNeg ∧ b = f k.toNatClampNeg ∧ ((a.toInt = b.toInt ∧ fi'.toInt = 0) ∨ (¬ a.toInt = b.toInt ∧ fi'.toInt = 1)))) (hj' : j'.toInt = j.toInt + 1) : q_oB f p sum ul ch lg k fi' j' := by
  obtain ⟨h1, h2, h3, h4, h5, h6, h7, h8, h9⟩ := h
  have c1 : j.toNatClampNeg = j.toInt.toNat := rfl
  have c2 : j'.toNatClampNeg = j'.toInt.toNat := rfl
  refine ⟨h1, h2, h3, h4, h5, h6, h7, ?_, by omega⟩
  rw [show j'.toNatClampNeg = j.toNatClampNeg + 1 by omega, q_fr]
  by_cases hq : q_fr f k.toNatClampNeg j.toNatClampNeg = true
  · rw [if_pos hq] at h8
    rw [hq, Bool.true_and]
    rcases hc with ⟨g1, g2⟩ | ⟨g1, g2, g3, g4⟩
    · omega
    · rw [← g2, ← g3]
      rcases g4 with ⟨g5, g6⟩ | ⟨g5, g6⟩
      · rw [g6]
        simp [g5]
      · rw [g6]
        simp [g5]
  · rw [if_neg hq] at h8
    have hq' : q_fr f k.toNatClampNeg j.toNatClampNeg = false := by
      cases hx : q_fr f k.toNatClampNeg j.toNatClampNeg with
      | false => rfl
      | true => exact absurd hx hq
    rw [hq', Bool.false_and, if_neg (by decide)]
    omega
def q_oC (f : Nat → Int32) (p sum ul ch lg k l : Int32) : Prop := sum = vg_rs f (k.toNatClampNeg + 1) ∧ ul.toInt = (q_ul f (k.toNatClampNeg + 1) : Int) ∧ ch.toInt = (q_ch f (k.toNatClampNeg + 1) : Int) ∧ q_lrI f p.toNatClampNeg k.toNatClampNeg lg.toNatClampNeg ∧ 0 ≤ lg.toInt ∧ lg.toInt ≤ p.toInt ∧ k.toInt < p.toInt ∧ q_er f k.toNatClampNeg l.toNatClampNeg ∧ 1 ≤ l.toInt ∧ l.toInt ≤ p.toInt
theorem q_oC_rng {f : Nat → Int32} {p sum ul ch lg k l : Int32} (h : q_oC f p sum ul ch lg k l) (hk : 0 ≤ k.toInt) : 0 ≤ ul.toInt ∧ ul.toInt ≤ k.toInt + 1 ∧ 0 ≤ ch.toInt ∧ ch.toInt ≤ k.toInt + 1 ∧ 0 ≤ lg.toInt ∧ lg.toInt ≤ p.toInt ∧ k.toInt < p.toInt ∧ 1 ≤ l.toInt ∧ l.toInt ≤ p.toInt := by
  have c1 : k.toNatClampNeg = k.toInt.toNat := rfl
  have h1 := q_ul_le (f := f) (k.toNatClampNeg + 1)
  have h2 := q_ch_le (f := f) (k.toNatClampNeg + 1)
  obtain ⟨-, g2, g3, -, g5, g6, g7, -, g9, g10⟩ := h
  omega
theorem q_oC0 {f : Nat → Int32} {p sum ul ch lg k fi j ul' l : Int32} (h : q_oB f p sum ul ch lg k fi j) (hk : 0 ≤ k.toInt) (hj : k.toInt ≤ j.toInt) (hu : (fi.toInt = 0 ∧ ul'.toInt = ul.toInt) ∨ (¬ fi.toInt = 0 ∧ ul'.toInt = ul.toInt + 1)) (hl : l = Int32.ofInt 1) : q_oC f p sum ul' ch lg k l := by
  obtain ⟨h1, h2, h3, h4, h5, h6, h7, h8, h9⟩ := h
  have z1 : (Int32.ofInt 1).toInt = 1 := by decide
  have hjk : j = k := vg_eqi (by omega)
  rw [hjk] at h8
  refine ⟨h1, ?_, h3, h4, h5, h6, h7, ?_, by rw [hl]; omega, by rw [hl]; omega⟩
  · rw [q_ul]
    by_cases hq : q_fr f k.toNatClampNeg k.toNatClampNeg = true
    · rw [if_pos hq] at h8 ⊢
      omega
    · rw [if_neg hq] at h8 ⊢
      omega
  · rw [hl, q_n1]
    intro i hi
    rw [show i = 0 by omega, Nat.add_zero]
theorem q_oC1 {f : Nat → Int32} {p sum ul ch lg k l a b kl l' : Int32} (h : q_oC f p sum ul ch lg k l) (hk : 0 ≤ k.toInt) (y0 : a = f kl.toNatClampNeg) (y1 : b = f k.toNatClampNeg) (hkl : kl.toInt = k.toInt + l.toInt) (he : a.toInt = b.toInt) (hl : l.toInt < p.toInt) (hl' : l'.toInt = l.toInt + 1) : q_oC f p sum ul ch lg k l' := by
  obtain ⟨h1, h2, h3, h4, h5, h6, h7, h8, h9, h10⟩ := h
  have c1 : k.toNatClampNeg = k.toInt.toNat := rfl
  have c2 : l.toNatClampNeg = l.toInt.toNat := rfl
  have c3 : l'.toNatClampNeg = l'.toInt.toNat := rfl
  have c4 : kl.toNatClampNeg = kl.toInt.toNat := rfl
  rw [show kl.toNatClampNeg = k.toNatClampNeg + l.toNatClampNeg by omega] at y0
  refine ⟨h1, h2, h3, h4, h5, h6, h7, fun i hi => ?_, by omega, by omega⟩
  by_cases hil : i = l.toNatClampNeg
  · rw [hil, ← y0, ← y1]
    exact vg_eqi he
  · exact h8 i (by omega)
theorem q_oA1 {f : Nat → Int32} {p sum ul ch lg k l lg' k' : Int32} (h : q_oC f p sum ul ch lg k l) (hk : 0 ≤ k.toInt) (hx : p.toInt ≤ l.toInt ∨ ∃ a b kl : Int32, a = f kl.toNatClampNeg ∧ b = f k.toNatClampNeg ∧ kl.toInt = k.toInt + l.toInt ∧ ¬ a.toInt = b.toInt) (hm : lg.toInt ≤ lg'.toInt ∧ l.toInt ≤ lg'.toInt ∧ (lg'.toInt = lg.toInt ∨ lg'.toInt = l.toInt)) (hk' : k'.toInt = k.toInt + 1) : q_oA f p sum ul ch lg' k' := by
  obtain ⟨h1, h2, h3, h4, h5, h6, h7, h8, h9, h10⟩ := h
  have c1 : k.toNatClampNeg = k.toInt.toNat := rfl
  have c2 : l.toNatClampNeg = l.toInt.toNat := rfl
  have c3 : k'.toNatClampNeg = k'.toInt.toNat := rfl
  have c5 : lg.toNatClampNeg = lg.toInt.toNat := rfl
  have c6 : lg'.toNatClampNeg = lg'.toInt.toNat := rfl
  have c7 : p.toNatClampNeg = p.toInt.toNat := rfl
  unfold q_oA
  rw [show k'.toNatClampNeg = k.toNatClampNeg + 1 by omega]
  refine ⟨h1, h2, h3, q_lr1 h4 h8 (by omega) ?_ (by omega), by omega, by omega, by omega⟩
  rcases hx with hx | ⟨a, b, kl, g1, g2, g3, g4⟩
  · exact Or.inl (by omega)
  · have c4 : kl.toNatClampNeg = kl.toInt.toNat := rfl
    rw [show kl.toNatClampNeg = k.toNatClampNeg + l.toNatClampNeg by omega] at g1
    exact Or.inr (fun q => g4 (by rw [g1, g2, q]))
def q_oR (f : Nat → Int32) (p w v : Int32) : Prop := (w.toInt = 2 ∧ v = vg_rs f p.toNatClampNeg) ∨ (w.toInt = 3 ∧ v.toInt = (q_ul f p.toNatClampNeg : Int)) ∨ (w.toInt = 4 ∧ v.toInt = (q_ch f p.toNatClampNeg : Int)) ∨ (¬ w.toInt = 2 ∧ ¬ w.toInt = 3 ∧ ¬ w.toInt = 4 ∧ q_lrI f p.toNatClampNeg p.toNatClampNeg v.toNatClampNeg ∧ 0 ≤ v.toInt)
theorem q_oR1 {f : Nat → Int32} {p sum ul ch lg k w : Int32} (h : q_oA f p sum ul ch lg k) (hk : p.toInt ≤ k.toInt) : (w.toInt = 2 → q_oR f p w sum) ∧ (w.toInt = 3 → q_oR f p w ul) ∧ (w.toInt = 4 → q_oR f p w ch) ∧ (¬ w.toInt = 2 → ¬ w.toInt = 3 → ¬ w.toInt = 4 → q_oR f p w lg) := by
  obtain ⟨h1, h2, h3, h4, h5, h6, h7⟩ := h
  have hkp : k = p := vg_eqi (by omega)
  rw [hkp] at h1 h2 h3 h4
  exact ⟨fun q => Or.inl ⟨q, h1⟩, fun q => Or.inr (Or.inl ⟨q, h2⟩), fun q => Or.inr (Or.inr (Or.inl ⟨q, h3⟩)), fun q1 q2 q3 => Or.inr (Or.inr (Or.inr ⟨q1, q2, q3, h4, h5⟩))⟩
/-! what tone answers -/
def q_cV (f : Nat → Int32) (l p w v : Int32) : Prop := (w.toInt = 0 ∧ v.toInt = l.toInt) ∨ (w.toInt = 1 ∧ v.toInt = p.toInt) ∨ (w.toInt = 2 ∧ v = vg_rs f p.toNatClampNeg) ∨ (w.toInt = 3 ∧ v = q_bcn (q_or f p.toNatClampNeg)) ∨ (w.toInt = 4 ∧ v.toInt = (q_ch f p.toNatClampNeg : Int)) ∨ (w.toInt = 5 ∧ q_lcE f p.toNatClampNeg v.toNatClampNeg ∧ 0 ≤ v.toInt)
def q_tvC (P : q_P) (u w v : Int32) : Prop := (q_ds P u 1001 ∧ v.toInt = -1) ∨ ∃ l p : Int32, q_rd P u l.toInt p.toInt ∧ q_cV (q_pf (q_out P u) l.toInt p.toInt) l p w v
def q_tvR (P : q_P) (u w v : Int32) : Prop := (q_ds P u 1001 ∧ v.toInt = -1) ∨ ∃ l p : Int32, q_rd P u l.toInt p.toInt ∧ ((w.toInt = 0 ∧ v.toInt = l.toInt) ∨ (w.toInt = 1 ∧ v.toInt = p.toInt) ∨ (¬ w.toInt = 0 ∧ ¬ w.toInt = 1 ∧ q_oR (q_pf (q_out P u) l.toInt p.toInt) p w v))
theorem q_tv_eq {P : q_P} {u w v v' : Int32} (hP : q_ok P) (h : q_tvC P u w v) (g : q_tvR P u w v') : v.toInt = v'.toInt := by
  rcases h with ⟨h1, h2⟩ | ⟨l, p, h1, h2⟩ <;> rcases g with ⟨g1, g2⟩ | ⟨l', p', g1, g2⟩
  · omega
  · exact (q_rd_n g1 h1).elim
  · exact (q_rd_n h1 g1).elim
  · have hu := q_rd_u h1 g1
    have hl : l = l' := vg_eqi hu.1
    have hp : p = p' := vg_eqi hu.2
    subst hl
    subst hp
    have hp1 := h1.2.1
    have hf : ∀ i : Nat, 0 ≤ (q_pf (q_out P u) l.toInt p.toInt i).toInt ∧ (q_pf (q_out P u) l.toInt p.toInt i).toInt ≤ 16 := fun i => q_out_rng hP _
    have hul := q_bcn_ul hf p.toNatClampNeg
    have hrun : ∀ a b : Nat, q_lcE (q_pf (q_out P u) l.toInt p.toInt) p.toNatClampNeg a → q_lrI (q_pf (q_out P u) l.toInt p.toInt) p.toNatClampNeg p.toNatClampNeg b → a = b := fun a b => q_run_eq hp1
    generalize q_pf (q_out P u) l.toInt p.toInt = f at *
    rcases h2 with ⟨a1, a2⟩ | ⟨a1, a2⟩ | ⟨a1, a2⟩ | ⟨a1, a2⟩ | ⟨a1, a2⟩ | ⟨a1, a2, a3⟩ <;> rcases g2 with ⟨b1, b2⟩ | ⟨b1, b2⟩ | ⟨b1, b0, b2⟩ <;> first | (exfalso; omega) | omega | skip
    all_goals rcases b2 with ⟨c1, c2⟩ | ⟨c1, c2⟩ | ⟨c1, c2⟩ | ⟨c1, c2, c3, c4, c5⟩ <;> first | (exfalso; omega) | skip
    · rw [a2, c2]
    · rw [a2, hul, c2]
    · omega
    · have := hrun _ _ a2 c4
      have d1 : v.toNatClampNeg = v.toInt.toNat := rfl
      have d2 : v'.toNatClampNeg = v'.toInt.toNat := rfl
      omega
theorem q_fR_p {s t : vg_S} {u : Int32} (h : q_fR s t u) (hc : ¬ (t.1 31 3).toInt = 0) : 1 ≤ (t.1 31 5).toInt := by
  rcases h with h | h
  · exact h.2.1.2.1
  · exact absurd h.1 hc
theorem q_tvC0 {z s t : vg_S} {u w v : Int32} (h : q_fR s t u) (hP : q_plC s 4 = q_plC z 4) (hc : (t.1 31 3).toInt = 0) (hv : v.toInt = -1) : q_tvC (q_plC z 4) u w v := by
  rw [← hP]
  rcases h with h | h
  · have := h.1
    omega
  · exact Or.inl ⟨h.2, hv⟩
theorem q_tvC1 {z s t : vg_S} {u w v : Int32} (h : q_fR s t u) (hP : q_plC s 4 = q_plC z 4) (hc : ¬ (t.1 31 3).toInt = 0) (hv : q_cV (q_pf (t.1 32) (t.1 31 4).toInt (t.1 31 5).toInt) (t.1 31 4) (t.1 31 5) w v) : q_tvC (q_plC z 4) u w v := by
  rw [← hP]
  rcases h with h | h
  · refine Or.inr ⟨t.1 31 4, t.1 31 5, h.2.1, ?_⟩
    rw [← q_pf_cg (O := t.1 32) (O' := q_out (q_plC s 4) u) h.2.1.1 h.2.1.2.1 h.2.2]
    exact hv
  · exact absurd h.1 hc
theorem q_tvR0 {z s t : vg_S} {u w v : Int32} (h : q_tR s t u) (hP : q_plR s = q_plR z) (hc : (t.1 55 31).toInt = -1) (hv : v.toInt = -1) : q_tvR (q_plR z) u w v := by
  rw [← hP]
  rcases h with h | h
  · exact Or.inl ⟨h.2, hv⟩
  · have := h.1.2.1
    omega
theorem q_tvR1 {z s t : vg_S} {u w v : Int32} (h : q_tR s t u) (hP : q_plR s = q_plR z) (hc : ¬ (t.1 55 31).toInt = -1) (hv : (w.toInt = 0 ∧ v.toInt = (t.1 55 30).toInt) ∨ (w.toInt = 1 ∧ v.toInt = (t.1 55 31).toInt) ∨ (¬ w.toInt = 0 ∧ ¬ w.toInt = 1 ∧ q_oR (q_pf (t.1 65) (t.1 55 30).toInt (t.1 55 31).toInt) (t.1 55 31) w v)) : q_tvR (q_plR z) u w v := by
  rw [← hP]
  rcases h with h | h
  · exact absurd h.1 hc
  · refine Or.inr ⟨t.1 55 30, t.1 55 31, h.1, ?_⟩
    rw [← q_pf_cg (O := t.1 65) (O' := q_out (q_plR s) u) h.1.1 h.1.2.1 h.2]
    exact hv
