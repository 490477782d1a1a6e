/-! the reference's clock of the loop, and its tones -/
theorem q_u2ne {σ : vg_S} {k i : Nat} {x : Int64} {a : Nat} (h : a ≠ k) : (vg_u2 σ k i x).2 a = σ.2 a := by simp only [vg_u2, vg_w2]; rw [if_neg h]
def q_wi (z s : vg_S) (a k : Int) : Prop := s.1 = z.1 ∧ ∀ j : Nat, s.2 56 j = if a ≤ (j : Int) ∧ (j : Int) < k then Int64.ofNat 0 else z.2 56 j
theorem q_wi0 {z : vg_S} {a : Int} : q_wi z z a a := ⟨rfl, fun j => by rw [if_neg (by omega)]⟩
theorem q_wi1 {z s s' : vg_S} {a : Int} {k k' : Int32} (h : q_wi z s a k.toInt) (ee : s' = vg_u2 s 56 k.toNatClampNeg (Int64.ofNat 0)) (h0 : 0 ≤ k.toInt) (ha : a ≤ k.toInt) (hk : k'.toInt = k.toInt + 1) : q_wi z s' a k'.toInt := by
  have c1 : k.toNatClampNeg = k.toInt.toNat := rfl
  refine ⟨by rw [ee, vg_u2_1]; exact h.1, fun j => ?_⟩
  rw [ee, q_u2if]
  by_cases hj : j = k.toNatClampNeg
  · rw [if_pos hj, if_pos (by omega)]
  · rw [if_neg hj, h.2 j]
    by_cases hc : a ≤ (j : Int) ∧ (j : Int) < k.toInt
    · rw [if_pos hc, if_pos (by omega)]
    · rw [if_neg hc, if_neg (by omega)]
theorem q_bl {z s1 s2 s3 t : vg_S} {x : Int64} {a b c d : Int} (y0 : s1 = vg_u2 z 56 (Int32.ofInt 1).toNatClampNeg x) (y1 : q_wi s1 s2 a b) (y2 : q_wi s2 s3 c d) (ee : t = vg_u2 s3 56 (Int32.ofInt 144).toNatClampNeg (Int64.ofNat 0)) (ha : a = 2) (hb : b = 10) (hc : c = 23) (hd : d = 39) : t.1 = z.1 ∧ ∀ j : Nat, (j = 2 ∨ (23 ≤ j ∧ j ≤ 38)) → t.2 56 j = Int64.ofNat 0 := by
  rw [q_m144] at ee
  refine ⟨by rw [ee, vg_u2_1, y2.1, y1.1, y0, vg_u2_1], fun j hj => ?_⟩
  rw [ee, q_u2if, if_neg (by omega), y2.2 j]
  by_cases h : 23 ≤ j
  · rw [if_pos (by omega)]
  · rw [if_neg (by omega), y1.2 j, if_pos (by omega)]
/-- a clock ahead of calm -/
def q_Z (z : vg_S) (u d : Int32) : q_Y := q_yy (q_plR z) u d (qE z) (qP z) (qV z)
def q_lv (z s : vg_S) (u d y : Int32) : Prop := s.1 = z.1 ∧ y = (q_Z z u d).1 ∧ qE s = (q_Z z u d).2.1 ∧ qP s = (q_Z z u d).2.2.1 ∧ s.2 56 144 = cond (q_Z z u d).2.2.2 (Int64.ofNat 1) (Int64.ofNat 0) ∧ qV s = q_val (z.1 55 9) (z.1 55 10) (y - q_bes (z.1 55 7) (z.1 55 8) (z.1 55 10)) ∧ (∀ j : Nat, q_un j → s.2 56 j = z.2 56 j) ∧ (qW z → qW s)
theorem q_plR_eq {s z : vg_S} (h : s.1 = z.1) : q_plR s = q_plR z := by unfold q_plR; rw [h]
theorem q_ryE {s1 s2 z : vg_S} {u d y : Int32} (h : q_ry s1 s2 y (q_yE (q_plR s1) u d (qE s1) (qP s1))) (e : s1.1 = z.1) (hK : (z.1 55 7).toInt = 0) : q_ry s1 s2 y (q_yy (q_plR s1) u d (qE s1) (qP s1) (qV s1)) := by
  rw [← q_yy0]
  · exact h
  · show ¬ (s1.1 55 7).toInt = 1
    rw [e]; omega
  · show ¬ (s1.1 55 7).toInt = 2
    rw [e]; omega
theorem q_ryS {s1 s2 z : vg_S} {u d y : Int32} (h : q_ry s1 s2 y (q_yS (q_plR s1) u d (qE s1) (qP s1) (qV s1))) (e : s1.1 = z.1) (hK : (z.1 55 7).toInt = 1) : q_ry s1 s2 y (q_yy (q_plR s1) u d (qE s1) (qP s1) (qV s1)) := by
  rw [← q_yy1]
  · exact h
  · show (s1.1 55 7).toInt = 1
    rw [e]; exact hK
theorem q_ryC {s1 s2 z : vg_S} {u d y : Int32} (h : q_ry s1 s2 y (q_yC (q_plR s1) u d (qE s1) (qP s1))) (e : s1.1 = z.1) (hK : (z.1 55 7).toInt = 2) : q_ry s1 s2 y (q_yy (q_plR s1) u d (qE s1) (qP s1) (qV s1)) := by
  rw [← q_yy2]
  · exact h
  · show (s1.1 55 7).toInt = 2
    rw [e]; exact hK
theorem q_lp0 {z s1 s2 s3 : vg_S} {u d y val : Int32} {vl : Int64} (e1 : s1 = vg_u2 z 56 (Int32.ofInt 144).toNatClampNeg (Int64.ofNat 0)) (h : q_ry s1 s2 y (q_yy (q_plR s1) u d (qE s1) (qP s1) (qV s1))) (hv : val = q_val (s2.1 55 9) (s2.1 55 10) (y - q_bes (s2.1 55 7) (s2.1 55 8) (s2.1 55 10))) (il : vl = val.toInt64) (e3 : s3 = vg_u2 s2 56 (Int32.ofInt 2).toNatClampNeg vl) : q_lv z s3 u d y := by
  rw [q_m144] at e1
  rw [q_m2] at e3
  have a0 : s1.1 = z.1 := by rw [e1, vg_u2_1]
  have ak : ∀ j : Nat, j ≠ 144 → s1.2 56 j = z.2 56 j := fun j hj => by rw [e1, q_u2if, if_neg hj]
  have a1 : qE s1 = qE z := qE_eq (fun j _ _ => ak j (by omega))
  have a2 : qP s1 = qP z := qP_eq (fun j _ _ => ak j (by omega))
  have a3 : qV s1 = qV z := by unfold qV; rw [ak 2 (by decide)]
  have a4 : s1.2 56 144 = Int64.ofNat 0 := by rw [e1]; exact vg_u2_self
  have bk : ∀ j : Nat, j ≠ 2 → s3.2 56 j = s2.2 56 j := fun j hj => by rw [e3, q_u2if, if_neg hj]
  have hP : q_plR s1 = q_plR z := q_plR_eq a0
  obtain ⟨h1, h2, h3, h4, h5, h6, h7, h8⟩ := h
  rw [hP, a1, a2, a3] at h1 h2 h3 h4
  refine ⟨by rw [e3, vg_u2_1, h5, a0], h1, ?_, ?_, ?_, ?_, fun j hj => ?_, fun w => qW_w e3 (qW_i il) (h8 (fun j hj => by rw [ak j (by omega)]; exact w j hj))⟩
  · rw [← qE_eq (fun j _ _ => bk j (by omega)) ] at h2
    exact h2
  · rw [← qP_eq (fun j _ _ => bk j (by omega)) ] at h3
    exact h3
  · rw [bk 144 (by decide), h4, a4]
    rfl
  · unfold qV
    rw [e3, vg_u2_self, il, Int32.toInt32_toInt64, hv, h5, a0]
  · rw [bk j (by unfold q_un at hj; omega), h7 j hj, ak j (by unfold q_un at hj; omega)]
def q_ld (z t : vg_S) (u d v : Int32) : Prop := t.1 = z.1 ∧ (v = (q_stp (q_plR z) u d (qE z) (qP z) (qV z)).1 ∧ qE t = (q_stp (q_plR z) u d (qE z) (qP z) (qV z)).2.1 ∧ qP t = (q_stp (q_plR z) u d (qE z) (qP z) (qV z)).2.2.1 ∧ qV t = (q_stp (q_plR z) u d (qE z) (qP z) (qV z)).2.2.2) ∧ (∀ j : Nat, q_un j → t.2 56 j = z.2 56 j) ∧ (qW z → qW t)
theorem q_ld0 {z s : vg_S} {u d y : Int32} (h : q_lv z s u d y) (hc : (z.1 55 14).toInt = 0 ∨ ¬ s.2 56 144 = Int64.ofNat 1) : q_ld z s u d y := by
  obtain ⟨h1, h2, h3, h4, h5, h6, h7, h8⟩ := h
  refine ⟨h1, ⟨h2, ?_, h4, by rw [h6, h2]; rfl⟩, h7, h8⟩
  rw [h3]
  show _ = if _ then _ else _
  rw [if_neg]
  · rfl
  · intro q
    rcases hc with hc | hc
    · exact q.1 hc
    · refine hc ?_
      rw [h5]
      have q2 : (q_Z z u d).2.2.2 = true := q.2
      rw [q2]
      rfl
theorem q_ld1 {z s t : vg_S} {u d y : Int32} {a b : Int} (h : q_lv z s u d y) (hc : ¬ (z.1 55 14).toInt = 0) (hh : s.2 56 144 = Int64.ofNat 1) (hw : q_wi s t a b) (ha : a = 23) (hb : b = 27) : q_ld z t u d y := by
  obtain ⟨h1, h2, h3, h4, h5, h6, h7, h8⟩ := h
  have hit : (q_Z z u d).2.2.2 = true := by
    cases hq : (q_Z z u d).2.2.2 with
    | true => rfl
    | false =>
      rw [hq] at h5
      rw [h5] at hh
      exact absurd hh (by decide)
  have hk : ∀ j : Nat, ¬ (23 ≤ j ∧ j ≤ 26) → t.2 56 j = s.2 56 j := fun j hj => by rw [hw.2 j, if_neg (by omega)]
  refine ⟨hw.1.trans h1, ⟨h2, ?_, ?_, ?_⟩, fun j hj => ?_, fun w j hj => ?_⟩
  · show _ = if _ then _ else _
    rw [if_pos ⟨hc, hit⟩]
    show qE t = q_z4 (q_Z z u d).2.1
    rw [← h3]
    funext j
    unfold qE q_z4
    dsimp only
    by_cases hj : j < 4
    · rw [if_pos hj, if_pos hj, hw.2, if_pos (by omega)]
      decide
    · rw [if_neg hj, if_neg hj, if_neg hj]
  · have : qP t = qP s := qP_eq (fun j _ _ => hk j (by omega))
    rw [this, h4]
    rfl
  · have : qV t = qV s := by unfold qV; rw [hk 2 (by omega)]
    rw [this, h6, h2]
    rfl
  · rw [hk j (by unfold q_un at hj; omega)]
    exact h7 j hj
  · rw [hw.2 j]
    by_cases hq : a ≤ (j : Int) ∧ (j : Int) < b
    · rw [if_pos hq]
      decide
    · rw [if_neg hq]
      exact h8 w j hj
theorem q_c1 {x y : Int64} {v : Int32} (e : v = lg_cmp x y) : (v.toInt = 0) ↔ x = y := by
  rw [e, ← lg_cmp_eq]
  constructor
  · intro h
    exact vg_eqi (by rw [h]; decide)
  · intro h
    rw [h]
    decide
/-! laid states -/
def q_lw (s : vg_S) (i : Nat) : Int64 := if i < 16 then s.2 56 (23 + i) else if (s.1 55 7).toInt = 1 then s.2 56 2 else Int64.ofNat 0
def q_la (z t : vg_S) (a : Int) : Prop := t.1 = z.1 ∧ t.2 56 = z.2 56 ∧ ∀ j : Nat, t.2 64 j = if 17 * a ≤ (j : Int) ∧ (j : Int) < 17 * a + 17 then q_lw z ((j : Int) - 17 * a).toNat else z.2 64 j
def q_laI (z s : vg_S) (a k : Int) : Prop := s.1 = z.1 ∧ s.2 56 = z.2 56 ∧ ∀ j : Nat, s.2 64 j = if 17 * a ≤ (j : Int) ∧ (j : Int) < 17 * a + k then q_lw z ((j : Int) - 17 * a).toNat else z.2 64 j
theorem q_la0 {z : vg_S} {a k : Int} (hk : k = 0) : q_laI z z a k := ⟨rfl, rfl, fun j => by rw [if_neg (by omega)]⟩
theorem q_la1 {z s s' : vg_S} {a : Int} {k ixa ixb k' : Int32} {v : Int64} (h : q_laI z s a k.toInt) (ae : v = s.2 56 ixb.toNatClampNeg) (ee : s' = vg_u2 s 64 ixa.toNatClampNeg v) (ha0 : 0 ≤ a) (h0 : 0 ≤ k.toInt) (h3 : k.toInt < 16) (ha : ixa.toInt = 17 * a + k.toInt) (hb : ixb.toInt = 23 + k.toInt) (hk : k'.toInt = k.toInt + 1) : q_laI z s' a k'.toInt := by
  have c1 : ixa.toNatClampNeg = ixa.toInt.toNat := rfl
  have c2 : ixb.toNatClampNeg = ixb.toInt.toNat := rfl
  refine ⟨by rw [ee, vg_u2_1]; exact h.1, by rw [ee, q_u2ne (by decide)]; exact h.2.1, fun j => ?_⟩
  rw [ee, q_u2if]
  by_cases hj : j = ixa.toNatClampNeg
  · rw [if_pos hj, if_pos (by omega), ae, h.2.1, q_lw, if_pos (by omega)]
    exact congrArg _ (by omega)
  · rw [if_neg hj, h.2.2 j]
    by_cases hc : 17 * a ≤ (j : Int) ∧ (j : Int) < 17 * a + k.toInt
    · rw [if_pos hc, if_pos (by omega)]
    · rw [if_neg hc, if_neg (by omega)]
theorem q_la2 {z s t : vg_S} {a k : Int} {ix : Int32} {v : Int64} (h : q_laI z s a k) (hv : v = if (z.1 55 7).toInt = 1 then z.2 56 2 else Int64.ofNat 0) (ee : t = vg_u2 s 64 ix.toNatClampNeg v) (ha0 : 0 ≤ a) (hk : k = 16) (hix : ix.toInt = 17 * a + 16) : q_la z t a := by
  have c1 : ix.toNatClampNeg = ix.toInt.toNat := rfl
  refine ⟨by rw [ee, vg_u2_1]; exact h.1, by rw [ee, q_u2ne (by decide)]; exact h.2.1, fun j => ?_⟩
  rw [ee, q_u2if]
  by_cases hj : j = ix.toNatClampNeg
  · have hn : ¬ ((j : Int) - 17 * a).toNat < 16 := by omega
    rw [if_pos hj, if_pos (by omega), hv, q_lw, if_neg hn]
  · rw [if_neg hj, h.2.2 j]
    by_cases hc : 17 * a ≤ (j : Int) ∧ (j : Int) < 17 * a + k
    · rw [if_pos hc, if_pos (by omega)]
    · rw [if_neg hc, if_neg (by omega)]
/-! tones: how far the reference is -/
def q_tI (z s : vg_S) (u : Int32) (n : Nat) : Prop := q_ag (qE s) (qP s) (qV s) (q_it (q_plR z) u n) ∧ (∀ j : Nat, j < n → s.1 65 j = q_out (q_plR z) u j) ∧ qW s ∧ ∀ j : Nat, q_un j → s.2 56 j = Int64.ofNat 0
theorem q_tI_k {z s s' : vg_S} {u : Int32} {n : Nat} (h : q_tI z s u n) (h1 : s'.1 65 = s.1 65) (h2 : s'.2 56 = s.2 56) : q_tI z s' u n := by
  have a1 : qE s' = qE s := qE_eq (fun j _ _ => by rw [h2])
  have a2 : qP s' = qP s := qP_eq (fun j _ _ => by rw [h2])
  have a3 : qV s' = qV s := by unfold qV; rw [h2]
  refine ⟨by rw [a1, a2, a3]; exact h.1, by rw [h1]; exact h.2.1, fun j hj => by rw [h2]; exact h.2.2.1 j hj, fun j hj => by rw [h2]; exact h.2.2.2 j hj⟩
theorem q_tI0 {z s : vg_S} {u : Int32} (h : ∀ j : Nat, (j = 2 ∨ (23 ≤ j ∧ j ≤ 38)) → s.2 56 j = Int64.ofNat 0) : q_tI z s u 0 := by
  have hz : (Int64.ofNat 0).toInt32 = Int32.ofInt 0 := by decide
  refine ⟨q_ag0 (fun j hj => ?_) (fun j hj => ?_) ?_, fun j hj => absurd hj (by omega), fun j hj => by rw [h j hj]; decide, fun j hj => h j (by unfold q_un at hj; omega)⟩
  · unfold qE
    rw [if_pos hj, h _ (by omega), hz]
  · have h2 := q_pi_rng j
    unfold qP
    rw [if_pos hj, h _ (by omega), hz]
  · unfold qV
    rw [h 2 (by omega), hz]
theorem q_tI1 {z s t s' s'' : vg_S} {u d v i : Int32} {n : Nat} {a : Int} (h : q_tI z s u n) (hP : q_plR s = q_plR z) (hN : (z.1 55 8).toInt ≤ 4) (hl : q_ld s t u d v) (hd : d = Int32.ofInt 0) (ee : s' = vg_u1 t 65 i.toNatClampNeg v) (hi : i.toInt = (n : Int)) (hla : q_la s' s'' a) : q_tI z s'' u (n + 1) := by
  have c1 : i.toNatClampNeg = i.toInt.toNat := rfl
  obtain ⟨l1, l2, l3, l4⟩ := hl
  rw [hP, hd] at l2
  have hs := q_ag1 (P := q_plR z) (u := u) hN h.1 l2
  have h2 : s''.2 56 = t.2 56 := by rw [hla.2.1, ee]; rfl
  have a1 : qE s'' = qE t := qE_eq (fun j _ _ => by rw [h2])
  have a2 : qP s'' = qP t := qP_eq (fun j _ _ => by rw [h2])
  have a3 : qV s'' = qV t := by unfold qV; rw [h2]
  refine ⟨by rw [a1, a2, a3]; exact hs.2, fun j hj => ?_, fun j hj => by rw [h2]; exact l4 h.2.2.1 j hj, fun j hj => by rw [h2, l3 j hj]; exact h.2.2.2 j hj⟩
  rw [hla.1, ee, vg_u1_if]
  by_cases hjn : j = n
  · rw [if_pos (by omega), hjn]
    exact hs.1
  · rw [if_neg (by omega), l1]
    exact h.2.1 j (by omega)
