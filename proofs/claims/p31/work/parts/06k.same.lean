/-! tones: when a loop comes round -/
def q_eqv (K : Int32) (A B : q_Q) : Prop := (∀ j : Nat, j < 4 → A.1 j = B.1 j) ∧ (∀ j : Nat, j < 6 → A.2.1 j = B.2.1 j) ∧ (K.toInt = 1 → A.2.2 = B.2.2)
def q_same (P : q_P) (u : Int32) (i k : Nat) : Prop := q_eqv P.1 (q_it P u i) (q_it P u k)
theorem q_same_sm {P : q_P} {u : Int32} {i k : Nat} (h : q_same P u i k) : q_same P u k i := ⟨fun j hj => (h.1 j hj).symm, fun j hj => (h.2.1 j hj).symm, fun hk => (h.2.2 hk).symm⟩
theorem q_same_tr {P : q_P} {u : Int32} {i k m : Nat} (h : q_same P u i k) (g : q_same P u k m) : q_same P u i m := ⟨fun j hj => (h.1 j hj).trans (g.1 j hj), fun j hj => (h.2.1 j hj).trans (g.2.1 j hj), fun hk => (h.2.2 hk).trans (g.2.2 hk)⟩
/-- none ahead of n comes round -/
def q_ds (P : q_P) (u : Int32) (n : Int) : Prop := ∀ k : Nat, (k : Int) < n → ∀ i : Nat, i < k → ¬ q_same P u i k
def q_rd (P : q_P) (u : Int32) (l p : Int) : Prop := 0 ≤ l ∧ 1 ≤ p ∧ l + p ≤ 1000 ∧ q_same P u l.toNat (l + p).toNat ∧ q_ds P u (l + p)
theorem q_rd_u {P : q_P} {u : Int32} {l p l' p' : Int} (h : q_rd P u l p) (g : q_rd P u l' p') : l = l' ∧ p = p' := by
  obtain ⟨a1, a2, a3, a4, a5⟩ := h
  obtain ⟨b1, b2, b3, b4, b5⟩ := g
  have ht : l + p = l' + p' := by
    rcases Int.lt_trichotomy (l + p) (l' + p') with q | q | q
    · exact absurd a4 (b5 (l + p).toNat (by omega) l.toNat (by omega))
    · exact q
    · exact absurd b4 (a5 (l' + p').toNat (by omega) l'.toNat (by omega))
  rw [← ht] at b4
  have hl := q_same_tr a4 (q_same_sm b4)
  rcases Int.lt_trichotomy l l' with q | q | q
  · exact absurd hl (a5 l'.toNat (by omega) l.toNat (by omega))
  · omega
  · exact absurd (q_same_sm hl) (a5 l.toNat (by omega) l'.toNat (by omega))
theorem q_rd_n {P : q_P} {u : Int32} {l p : Int} (h : q_rd P u l p) (g : q_ds P u 1001) : False := g (l + p).toNat (by have := h.2.2.1; have := h.1; have := h.2.1; omega) l.toNat (by have := h.1; have := h.2.1; omega) h.2.2.2.1
/-- the period, -1 if it does not come round -/
def q_pr (P : q_P) (u : Int32) (p : Int) : Prop := (p = -1 ∧ q_ds P u 1001) ∨ ∃ l, q_rd P u l p
theorem q_pr_u {P : q_P} {u : Int32} {p p' : Int} (h : q_pr P u p) (g : q_pr P u p') : p = p' := by
  rcases h with ⟨h1, h2⟩ | ⟨l, h⟩ <;> rcases g with ⟨g1, g2⟩ | ⟨l', g⟩
  · omega
  · exact (q_rd_n g h2).elim
  · exact (q_rd_n h g2).elim
  · exact (q_rd_u h g).2
noncomputable def q_pd (P : q_P) (u : Int32) : Int := Classical.epsilon (fun p => q_pr P u p)
theorem q_pd_eq {P : q_P} {u : Int32} {p : Int} (h : q_pr P u p) : q_pd P u = p := q_pr_u (Classical.epsilon_spec (p := fun p => q_pr P u p) ⟨p, h⟩) h
theorem q_pd_rng {P : q_P} {u : Int32} {p : Int} (h : q_pr P u p) : p = -1 ∨ (1 ≤ p ∧ p ≤ 1000) := by
  rcases h with ⟨h1, h2⟩ | ⟨l, h⟩
  · exact Or.inl h1
  · have := h.1
    have := h.2.1
    have := h.2.2.1
    omega
/-- with sums nothing was told by small loops -/
theorem q_it_p {P : q_P} {u : Int32} (hK : P.1.toInt = 1) : ∀ n : Nat, (q_it P u n).2.1 = fun _ => Int32.ofInt 0
  | 0 => rfl
  | n + 1 => by
    have ih := q_it_p (u := u) hK n
    show (q_yy P u (Int32.ofInt 0) (q_it P u n).1 (q_it P u n).2.1 (q_it P u n).2.2).2.2.1 = _
    rw [q_yy, if_pos hK]
    exact ih
/-! words of the class -/
def q_wd (K : Int32) (Q : q_Q) (j : Nat) : Int32 := if j < 4 then Q.1 j else if j = 4 ∧ K.toInt = 1 then Q.2.2 else Q.2.1 (j - 4)
theorem q_wd_lo {K : Int32} {Q : q_Q} {j : Nat} (h : j < 4) : q_wd K Q j = Q.1 j := by unfold q_wd; rw [if_pos h]
theorem q_wd_v {K : Int32} {Q : q_Q} (h : K.toInt = 1) : q_wd K Q 4 = Q.2.2 := by
  unfold q_wd
  rw [if_neg (by decide), if_pos ⟨rfl, h⟩]
theorem q_wd_p {K : Int32} {Q : q_Q} {j : Nat} (h : ¬ j < 4) (hn : ¬ (j = 4 ∧ K.toInt = 1)) : q_wd K Q j = Q.2.1 (j - 4) := by
  unfold q_wd
  rw [if_neg h, if_neg hn]
theorem q_wd_same {P : q_P} {u : Int32} {i k : Nat} : (∀ j : Nat, j < 10 → q_wd P.1 (q_it P u i) j = q_wd P.1 (q_it P u k) j) ↔ q_same P u i k := by
  constructor
  · intro h
    refine ⟨fun j hj => ?_, fun j hj => ?_, fun hK => ?_⟩
    · have h1 := h j (by omega)
      rw [q_wd_lo hj, q_wd_lo hj] at h1
      exact h1
    · by_cases hK : P.1.toInt = 1
      · rw [q_it_p hK i, q_it_p hK k]
      · have h1 := h (j + 4) (by omega)
        rw [q_wd_p (by omega) (fun q => hK q.2), q_wd_p (by omega) (fun q => hK q.2), show j + 4 - 4 = j by omega] at h1
        exact h1
    · have h1 := h 4 (by omega)
      rw [q_wd_v hK, q_wd_v hK] at h1
      exact h1
  · intro h j hj
    by_cases h4 : j < 4
    · rw [q_wd_lo h4, q_wd_lo h4]
      exact h.1 j h4
    · by_cases hk : j = 4 ∧ P.1.toInt = 1
      · rw [hk.1, q_wd_v hk.2, q_wd_v hk.2]
        exact h.2.2 hk.2
      · rw [q_wd_p h4 hk, q_wd_p h4 hk]
        exact h.2.1 _ (by omega)
/-! laid words of the reference -/
def q_rx (j : Nat) : Option Nat := match j with
  | 7 => some 0
  | 10 => some 1
  | 11 => some 2
  | 13 => some 3
  | 14 => some 4
  | 15 => some 5
  | _ => none
def q_rw (K : Int32) (Q : q_Q) (j : Nat) : Int64 := if j < 4 then (Q.1 j).toInt64 else if j < 16 then (match q_rx j with
  | some m => (Q.2.1 m).toInt64
  | none => Int64.ofNat 0) else if K.toInt = 1 then Q.2.2.toInt64 else Int64.ofNat 0
theorem q_i64 {x y : Int32} (h : x.toInt64 = y.toInt64) : x = y := by
  have := congrArg Int64.toInt32 h
  rw [Int32.toInt32_toInt64, Int32.toInt32_toInt64] at this
  exact this
theorem q_rw_same {P : q_P} {u : Int32} {i k : Nat} : (∀ j : Nat, j < 17 → q_rw P.1 (q_it P u i) j = q_rw P.1 (q_it P u k) j) ↔ q_same P u i k := by
  constructor
  · intro h
    refine ⟨fun j hj => ?_, fun j hj => ?_, fun hK => ?_⟩
    · have h1 := h j (by omega)
      unfold q_rw at h1
      rw [if_pos hj, if_pos hj] at h1
      exact q_i64 h1
    · rcases (show j = 0 ∨ j = 1 ∨ j = 2 ∨ j = 3 ∨ j = 4 ∨ j = 5 by omega) with q | q | q | q | q | q <;> subst q
      · exact q_i64 (h 7 (by decide))
      · exact q_i64 (h 10 (by decide))
      · exact q_i64 (h 11 (by decide))
      · exact q_i64 (h 13 (by decide))
      · exact q_i64 (h 14 (by decide))
      · exact q_i64 (h 15 (by decide))
    · have h1 := h 16 (by omega)
      unfold q_rw at h1
      rw [if_neg (by omega), if_neg (by omega), if_pos hK, if_neg (by omega), if_neg (by omega), if_pos hK] at h1
      exact q_i64 h1
  · intro h j hj
    unfold q_rw
    by_cases h4 : j < 4
    · rw [if_pos h4, if_pos h4, h.1 j h4]
    · rw [if_neg h4, if_neg h4]
      by_cases h16 : j < 16
      · rw [if_pos h16, if_pos h16]
        have hm : ∀ m, q_rx j = some m → m < 6 := by
          intro m hm
          unfold q_rx at hm
          split at hm <;> simp only [Option.some.injEq, reduceCtorEq] at hm <;> omega
        cases hx : q_rx j with
        | none => rfl
        | some m =>
          show (_ : Int32).toInt64 = (_ : Int32).toInt64
          rw [h.2.1 m (hm m hx)]
      · rw [if_neg h16, if_neg h16]
        by_cases hK : P.1.toInt = 1
        · rw [if_pos hK, if_pos hK, h.2.2 hK]
        · rw [if_neg hK, if_neg hK]
/-- what is laid is the words -/
theorem q_lw_rw {z s : vg_S} {u : Int32} {n : Nat} (h : q_tI z s u n) (hP : q_plR s = q_plR z) {j : Nat} (hj : j < 17) : q_lw s j = q_rw (q_plR z).1 (q_it (q_plR z) u n) j := by
  obtain ⟨⟨a1, a2, a3⟩, -, w, un⟩ := h
  have hK : (s.1 55 7).toInt = (q_plR z).1.toInt := by rw [← hP]; rfl
  unfold q_lw q_rw
  by_cases h4 : j < 4
  · rw [if_pos (by omega), if_pos h4, ← a1 j h4, w _ (by omega)]
    unfold qE
    rw [if_pos h4]
  · rw [if_neg h4]
    by_cases h16 : j < 16
    · rw [if_pos h16, if_pos h16]
      have e : ∀ m : Nat, m < 6 → s.2 56 (q_pi m) = ((q_it (q_plR z) u n).2.1 m).toInt64 := by
        intro m hm
        have hr := q_pi_rng m
        rw [← a2 m hm, w _ (by omega)]
        unfold qP
        rw [if_pos hm]
      rcases (show j = 4 ∨ j = 5 ∨ j = 6 ∨ j = 7 ∨ j = 8 ∨ j = 9 ∨ j = 10 ∨ j = 11 ∨ j = 12 ∨ j = 13 ∨ j = 14 ∨ j = 15 by omega) with q | q | q | q | q | q | q | q | q | q | q | q <;> subst q
      · exact un 27 (by unfold q_un; omega)
      · exact un 28 (by unfold q_un; omega)
      · exact un 29 (by unfold q_un; omega)
      · exact e 0 (by decide)
      · exact un 31 (by unfold q_un; omega)
      · exact un 32 (by unfold q_un; omega)
      · exact e 1 (by decide)
      · exact e 2 (by decide)
      · exact un 35 (by unfold q_un; omega)
      · exact e 3 (by decide)
      · exact e 4 (by decide)
      · exact e 5 (by decide)
    · rw [if_neg h16, if_neg h16]
      by_cases hk : (s.1 55 7).toInt = 1
      · rw [if_pos hk, if_pos (by omega), ← a3, w 2 (by omega)]
        rfl
      · rw [if_neg hk, if_neg (by omega)]
def q_tL (z s : vg_S) (u : Int32) (n : Nat) : Prop := ∀ i : Nat, i ≤ n → ∀ j : Nat, j < 17 → s.2 64 (17 * i + j) = q_rw (q_plR z).1 (q_it (q_plR z) u i) j
theorem q_tL0 {z s t : vg_S} {u : Int32} {n : Nat} {a : Int} (hL : ∀ i : Nat, i < n → ∀ j : Nat, j < 17 → s.2 64 (17 * i + j) = q_rw (q_plR z).1 (q_it (q_plR z) u i) j) (h : q_tI z s u n) (hP : q_plR s = q_plR z) (hl : q_la s t a) (ha : a = (n : Int)) : q_tL z t u n := fun i hi j hj => by
  rw [hl.2.2]
  by_cases hin : i = n
  · rw [if_pos (by omega), show (((17 * i + j : Nat) : Int) - 17 * a).toNat = j by omega, hin]
    exact q_lw_rw h hP hj
  · rw [if_neg (by omega)]
    exact hL i (by omega) j hj
/-- where the reference is -/
def q_tD (z s : vg_S) (u : Int32) (n : Nat) : Prop := ((s.1 55 31).toInt = -1 ∧ q_ds (q_plR z) u ((n : Int) + 1)) ∨ (q_rd (q_plR z) u (s.1 55 30).toInt (s.1 55 31).toInt ∧ (s.1 55 30).toInt + (s.1 55 31).toInt ≤ (n : Int))
/-- within a clock: the first k were looked at -/
def q_tE (z s : vg_S) (u : Int32) (n : Nat) (k : Int) : Prop := ((s.1 55 31).toInt = -1 ∧ q_ds (q_plR z) u ((n : Int) + 1) ∧ ∀ i : Nat, (i : Int) < k → ¬ q_same (q_plR z) u i (n + 1)) ∨ (q_rd (q_plR z) u (s.1 55 30).toInt (s.1 55 31).toInt ∧ (s.1 55 30).toInt + (s.1 55 31).toInt ≤ (n : Int) + 1)
theorem q_tD0 {z s : vg_S} {u : Int32} (h : (s.1 55 31).toInt = -1) : q_tD z s u 0 := Or.inl ⟨h, fun k hk i hi => by omega⟩
theorem q_tE0 {z s t : vg_S} {u : Int32} {n : Nat} {k : Int} (h : q_tD z s u n) (h30 : t.1 55 30 = s.1 55 30) (h31 : t.1 55 31 = s.1 55 31) (hk : k = 0) : q_tE z t u n k := by
  unfold q_tE
  rw [h30, h31]
  rcases h with h | h
  · exact Or.inl ⟨h.1, h.2, fun i hi => by omega⟩
  · exact Or.inr ⟨h.1, by omega⟩
theorem q_tE1 {z s : vg_S} {u : Int32} {n : Nat} {k k' : Int} (h : q_tE z s u n k) (hn : ¬ q_same (q_plR z) u k.toNat (n + 1)) (hk : k' = k + 1) (h0 : 0 ≤ k) : q_tE z s u n k' := by
  rcases h with h | h
  · refine Or.inl ⟨h.1, h.2.1, fun i hi => ?_⟩
    by_cases hik : (i : Int) = k
    · rw [show i = k.toNat by omega]
      exact hn
    · exact h.2.2 i (by omega)
  · exact Or.inr h
theorem q_tE2 {z s s1 s2 : vg_S} {u a b : Int32} {n : Nat} {k k' : Int} (h : q_tE z s u n k) (hp : (s.1 55 31).toInt = -1) (hs : q_same (q_plR z) u k.toNat (n + 1)) (h0 : 0 ≤ k) (hkn : k ≤ (n : Int)) (hn : n < 1000) (e1 : s1 = vg_u1 s 55 30 a) (e2 : s2 = vg_u1 s1 55 31 b) (ha : a.toInt = k) (hb : b.toInt = (n : Int) + 1 - k) : q_tE z s2 u n k' := by
  have g30 : s2.1 55 30 = a := by rw [e2, vg_u1_at (by omega), e1]; exact vg_u1_self
  have g31 : s2.1 55 31 = b := by rw [e2]; exact vg_u1_self
  rcases h with h | h
  · refine Or.inr ?_
    rw [g30, g31, ha, hb]
    refine ⟨⟨by omega, by omega, by omega, ?_, ?_⟩, by omega⟩
    · rw [show (k + ((n : Int) + 1 - k)).toNat = n + 1 by omega]
      exact hs
    · rw [show k + ((n : Int) + 1 - k) = (n : Int) + 1 by omega]
      exact h.2.1
  · have := h.1.2.1
    omega
theorem q_tD1 {z s : vg_S} {u : Int32} {n : Nat} {k : Int} (h : q_tE z s u n k) (hx : (n : Int) < k ∨ ¬ (s.1 55 31).toInt = -1) : q_tD z s u (n + 1) := by
  rcases h with h | h
  · refine Or.inl ⟨h.1, fun k' hk' i hi => ?_⟩
    by_cases hkn : k' = n + 1
    · rw [hkn]
      exact h.2.2 i (by have := h.1; omega)
    · exact h.2.1 k' (by omega) i hi
  · exact Or.inr ⟨h.1, by omega⟩
