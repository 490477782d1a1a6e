/-! for the reference's walks -/
theorem vg_u2_ne {σ : vg_S} {k i : Nat} {x : Int64} {a : Nat} (h : a ≠ k) : (vg_u2 σ k i x).2 a = σ.2 a := by simp only [vg_u2, vg_w2]; rw [if_neg h]
theorem vg_cpstep {z s s' : vg_S} {p q : Nat} {i v' : Int32} {v : Int64} (hx : s.1 = z.1 ∧ (∀ k, k ≠ q → s.2 k = z.2 k) ∧ (0 < i.toInt → s.2 q 0 = z.2 p 0)) (hpq : p ≠ q) (hi : 0 ≤ i.toInt) (e : v = s.2 p i.toNatClampNeg) (ee : s' = vg_u2 s q i.toNatClampNeg v) : s'.1 = z.1 ∧ (∀ k, k ≠ q → s'.2 k = z.2 k) ∧ (0 < v'.toInt → s'.2 q 0 = z.2 p 0) := by
  have h9 : i.toNatClampNeg = i.toInt.toNat := rfl
  refine ⟨?_, fun k hk => ?_, fun _ => ?_⟩
  · rw [ee]
    exact hx.1
  · rw [ee, vg_u2_ne hk]
    exact hx.2.1 k hk
  · by_cases h0 : i.toNatClampNeg = 0
    · rw [ee, h0, vg_u2_self, e, h0, hx.2.1 p hpq]
    · rw [ee, vg_u2_at (fun q => h0 q.2.symm)]
      exact hx.2.2 (by omega)
theorem vg_cp_in {P Q : Nat → Nat → Bool} {z s t : vg_S} (ok : Kx P Q z s) (h1 : t.1 = s.1) (hc : t.2 56 0 = z.2 56 0) : Kx P vg_q1 z t := by
  refine ⟨fun k i hk => by rw [h1]; exact ok.1 k i hk, fun k i hk => ?_⟩
  simp only [vg_q1, Bool.and_eq_true] at hk
  have a := Nat.eq_of_beq_eq_true hk.1
  have b := Nat.eq_of_beq_eq_true hk.2
  rw [a, b]
  exact hc
theorem vg_cp_out1 {P : Nat → Nat → Bool} {z s t : vg_S} {q : Nat} (ok : Kx P vg_q1 z s) (h1 : t.1 = s.1) (h2 : ∀ k, k ≠ q → t.2 k = s.2 k) (hq : q ≠ 56) : Kx P vg_q1 z t := by
  refine ⟨fun k i hk => by rw [h1]; exact ok.1 k i hk, fun k i hk => ?_⟩
  have hk' := hk
  simp only [vg_q1, Bool.and_eq_true] at hk
  have b := Nat.eq_of_beq_eq_true hk.2
  rw [h2 k (by omega)]
  exact ok.2 k i hk'
theorem vg_cp_outn {P : Nat → Nat → Bool} {z s t : vg_S} (ok : Kx P vg_k0 z s) (h1 : t.1 = s.1) : Kx P vg_k0 z t := ⟨fun k i hk => by rw [h1]; exact ok.1 k i hk, fun k i hk => by cases hk⟩
theorem vg_clk1 {z s : vg_S} {v w : Int64} {i : Nat} (e1 : w = z.2 56 i) (e2 : v = w + Int64.ofNat 1) (e3 : s = vg_u2 z 56 i v) (hi : i = 0) (h1 : 0 ≤ (z.2 56 0).toInt) (h2 : (z.2 56 0).toInt ≤ 2000000000) : (s.2 56 0).toInt = (z.2 56 0).toInt + 1 := by
  subst hi
  rw [e3, vg_u2_self]
  have h3 : (Int64.ofNat 1).toInt = 1 := by decide
  have := vg_ladd e2 (by rw [e1, h3]; omega) (by rw [e1, h3]; omega)
  rw [this, e1, h3]
theorem vg_u1_u1 {σ : vg_S} {k i : Nat} {x y : Int32} : vg_u1 (vg_u1 σ k i x) k i y = vg_u1 σ k i y := by
  simp only [vg_u1, vg_w1]
  congr 1
  funext a
  by_cases h : a = k
  · simp only [h, if_true]
    funext b
    simp only [upd]
    split <;> rfl
  · simp only [h, if_false]
theorem vg_ivc2 {σ s1 s2 : vg_S} {x y : Int32} (h : Iv σ) (e1 : s1 = vg_u1 σ 55 33 x) (e2 : s2 = vg_u1 s1 55 33 y) (h1 : 0 ≤ y.toInt) (h2 : y.toInt ≤ 12) : Iv s2 := by
  rw [e1, vg_u1_u1] at e2
  exact Iv.c1 (lo := 0) (hi := 12) h e2 rfl h1 h2
/-- the words on slots alone -/
def Iw (σ : vg_S) : Prop := ∀ q ∈ vg_cons, q.2.2.1 ≤ (σ.1 q.1 q.2.1).toInt ∧ (σ.1 q.1 q.2.1).toInt ≤ q.2.2.2
def vg_cw2 (k i : Nat) (lo hi : Int) : Bool := vg_cons.all (fun q => !(Nat.beq q.1 k && Nat.beq q.2.1 i) || (decide (q.2.2.1 = lo) && decide (q.2.2.2 = hi)))
theorem Iw.c1 {σ σ' : vg_S} {k i : Nat} {x : Int32} {lo hi : Int} (h : Iw σ) (e : σ' = vg_u1 σ k i x) (hf : vg_cw2 k i lo hi = true) (h1 : lo ≤ x.toInt) (h2 : x.toInt ≤ hi) : Iw σ' := by
  subst e
  simp only [vg_cw2, List.all_eq_true, Bool.not_eq_true', Bool.or_eq_true, Bool.and_eq_true, decide_eq_true_eq, Bool.and_eq_false_iff] at hf
  intro q hq
  by_cases hq2 : q.1 = k ∧ q.2.1 = i
  · rcases hf q hq with h3 | h3
    · rcases h3 with h3 | h3
      · rw [hq2.1] at h3; simp at h3
      · rw [hq2.2] at h3; simp at h3
    · rw [hq2.1, hq2.2, vg_u1_self, h3.1, h3.2]
      exact ⟨h1, h2⟩
  · rw [vg_u1_at hq2]
    exact h q hq
def vg_ff (k i : Nat) : Bool := vg_cons.all (fun q => !(Nat.beq q.1 k && Nat.beq q.2.1 i))
theorem Iw.f1 {σ σ' : vg_S} {k i : Nat} {x : Int32} (h : Iw σ) (e : σ' = vg_u1 σ k i x) (hf : vg_ff k i = true) : Iw σ' := by
  subst e
  simp only [vg_ff, List.all_eq_true, Bool.not_eq_true', Bool.and_eq_false_iff] at hf
  intro q hq
  rw [vg_u1_at]
  · exact h q hq
  · rintro ⟨h1, h2⟩
    rcases hf q hq with h3 | h3
    · rw [h1] at h3; simp at h3
    · rw [h2] at h3; simp at h3
theorem vg_ivloop {σ s1 s2 s3 s4 s5 s6 s7 : vg_S} {a1 a2 a3 a4 a5 a6 a7 : Int32} (h : Iv σ) (e1 : s1 = vg_u1 σ 55 7 a1) (e2 : s2 = vg_u1 s1 55 8 a2) (e3 : s3 = vg_u1 s2 55 9 a3) (e4 : s4 = vg_u1 s3 55 10 a4) (e5 : s5 = vg_u1 s4 55 11 a5) (e6 : s6 = vg_u1 s5 55 14 a6) (e7 : s7 = vg_u1 s6 55 33 a7)
    (h2 : 1 ≤ a2.toInt ∧ a2.toInt ≤ 4) (h4 : 2 ≤ a4.toInt ∧ a4.toInt ≤ 17) (h7 : 0 ≤ a7.toInt ∧ a7.toInt ≤ 12) (hm : 1 ≤ (vg_eo a1 a2 a4).toInt ∧ (vg_eo a1 a2 a4).toInt ≤ 16) : Iv s7 := by
  have w0 : Iw σ := h.1
  have w1 : Iw s1 := w0.f1 e1 (by decide)
  have w2 : Iw s2 := w1.c1 (lo := 1) (hi := 4) e2 (by decide) h2.1 h2.2
  have w3 : Iw s3 := w2.f1 e3 (by decide)
  have w4 : Iw s4 := w3.c1 (lo := 2) (hi := 17) e4 (by decide) h4.1 h4.2
  have w5 : Iw s5 := w4.f1 e5 (by decide)
  have w6 : Iw s6 := w5.f1 e6 (by decide)
  have w7 : Iw s7 := w6.c1 (lo := 0) (hi := 12) e7 (by decide) h7.1 h7.2
  refine ⟨w7, ?_⟩
  have me : vg_me s7 = vg_eo a1 a2 a4 := by
    have g7 : s7.1 55 7 = a1 := by
      rw [e7, vg_u1_at (a := 55) (b := 7) (k := 55) (i := 33) (by decide), e6, vg_u1_at (a := 55) (b := 7) (k := 55) (i := 14) (by decide), e5, vg_u1_at (a := 55) (b := 7) (k := 55) (i := 11) (by decide), e4, vg_u1_at (a := 55) (b := 7) (k := 55) (i := 10) (by decide), e3, vg_u1_at (a := 55) (b := 7) (k := 55) (i := 9) (by decide), e2, vg_u1_at (a := 55) (b := 7) (k := 55) (i := 8) (by decide), e1]
      exact vg_u1_self
    have g8 : s7.1 55 8 = a2 := by
      rw [e7, vg_u1_at (a := 55) (b := 8) (k := 55) (i := 33) (by decide), e6, vg_u1_at (a := 55) (b := 8) (k := 55) (i := 14) (by decide), e5, vg_u1_at (a := 55) (b := 8) (k := 55) (i := 11) (by decide), e4, vg_u1_at (a := 55) (b := 8) (k := 55) (i := 10) (by decide), e3, vg_u1_at (a := 55) (b := 8) (k := 55) (i := 9) (by decide), e2]
      exact vg_u1_self
    have g10 : s7.1 55 10 = a4 := by
      rw [e7, vg_u1_at (a := 55) (b := 10) (k := 55) (i := 33) (by decide), e6, vg_u1_at (a := 55) (b := 10) (k := 55) (i := 14) (by decide), e5, vg_u1_at (a := 55) (b := 10) (k := 55) (i := 11) (by decide), e4]
      exact vg_u1_self
    unfold vg_me vg_eo
    rw [g7, g8, g10]
  rw [me]
  exact hm
