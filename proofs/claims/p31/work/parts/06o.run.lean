/-! the longest run -/
def q_er (f : Nat → Int32) (a r : Nat) : Prop := ∀ j : Nat, j < r → f (a + j) = f a
def q_lcI (f : Nat → Int32) (i run lg : Nat) : Prop := 1 ≤ run ∧ run ≤ i ∧ q_er f (i - run) run ∧ (∀ r : Nat, r ≤ i → q_er f (i - r) r → r ≤ run) ∧ (∃ a : Nat, a + lg ≤ i ∧ q_er f a lg) ∧ ∀ a r : Nat, a + r ≤ i → q_er f a r → r ≤ lg
theorem q_lc0 {f : Nat → Int32} : q_lcI f 1 1 1 := ⟨by omega, by omega, fun j hj => by rw [show j = 0 by omega], fun r hr _ => hr, ⟨0, by omega, fun j hj => by rw [show j = 0 by omega]⟩, fun a r h _ => by omega⟩
theorem q_lc1 {f : Nat → Int32} {i run lg lg' : Nat} (h : q_lcI f i run lg) (he : f i = f (i - 1)) (hl : (lg' = lg ∧ run + 1 ≤ lg) ∨ (lg' = run + 1 ∧ lg ≤ run + 1)) : q_lcI f (i + 1) (run + 1) lg' := by
  obtain ⟨h1, h2, h3, h4, ⟨a, h5, h6⟩, h7⟩ := h
  have e1 : q_er f (i + 1 - (run + 1)) (run + 1) := fun j hj => by
    rw [show i + 1 - (run + 1) = i - run by omega]
    by_cases hj2 : j = run
    · have h8 := h3 (run - 1) (by omega)
      rw [show i - run + (run - 1) = i - 1 by omega] at h8
      rw [hj2, show i - run + run = i by omega, he, h8]
    · exact h3 j (by omega)
  have e2 : ∀ r : Nat, r ≤ i + 1 → q_er f (i + 1 - r) r → r ≤ run + 1 := fun r hr hq => by
    by_cases hr0 : r = 0
    · omega
    · have := h4 (r - 1) (by omega) (fun j hj => by
        rw [show i - (r - 1) = i + 1 - r by omega]
        exact hq j (by omega))
      omega
  refine ⟨by omega, by omega, e1, e2, ?_, fun b r hb hq => ?_⟩
  · rcases hl with ⟨g1, g2⟩ | ⟨g1, g2⟩
    · rw [g1]
      exact ⟨a, by omega, h6⟩
    · rw [g1]
      exact ⟨i + 1 - (run + 1), by omega, e1⟩
  · by_cases hb2 : b + r ≤ i
    · have := h7 b r hb2 hq
      omega
    · have := e2 r (by omega) (by rw [show i + 1 - r = b by omega]; exact hq)
      omega
theorem q_lc2 {f : Nat → Int32} {i run lg : Nat} (h : q_lcI f i run lg) (he : ¬ f i = f (i - 1)) (hl : 1 ≤ lg) : q_lcI f (i + 1) 1 lg := by
  obtain ⟨h1, h2, h3, h4, ⟨a, h5, h6⟩, h7⟩ := h
  have e2 : ∀ r : Nat, r ≤ i + 1 → q_er f (i + 1 - r) r → r ≤ 1 := fun r hr hq => by
    by_cases hr1 : r ≤ 1
    · exact hr1
    · have g1 := hq (r - 1) (by omega)
      have g2 := hq (r - 2) (by omega)
      rw [show i + 1 - r + (r - 1) = i by omega] at g1
      rw [show i + 1 - r + (r - 2) = i - 1 by omega] at g2
      exact absurd (g1.trans g2.symm) he
  refine ⟨by omega, by omega, fun j hj => by rw [show j = 0 by omega]; rfl, e2, ⟨a, by omega, h6⟩, fun b r hb hq => ?_⟩
  by_cases hb2 : b + r ≤ i
  · exact h7 b r hb2 hq
  · have := e2 r (by omega) (by rw [show i + 1 - r = b by omega]; exact hq)
    omega
def q_lcE (f : Nat → Int32) (p lg : Nat) : Prop := (q_ch f p = 0 ∧ lg = p) ∨ (¬ q_ch f p = 0 ∧ ∃ run : Nat, q_lcI f (2 * p) run lg)
/-- the reference's -/
def q_lrI (f : Nat → Int32) (p K lg : Nat) : Prop := (∀ k : Nat, k < K → ∀ r : Nat, r ≤ p → q_er f k r → r ≤ lg) ∧ ((K = 0 ∧ lg = 0) ∨ ∃ k : Nat, k < K ∧ q_er f k lg ∧ lg ≤ p)
theorem q_lr0 {f : Nat → Int32} {p : Nat} : q_lrI f p 0 0 := ⟨fun k hk => absurd hk (by omega), Or.inl ⟨rfl, rfl⟩⟩
theorem q_lr1 {f : Nat → Int32} {p K lg l lg' : Nat} (h : q_lrI f p K lg) (hl : q_er f K l) (hp : 1 ≤ l ∧ l ≤ p) (hx : p ≤ l ∨ ¬ f (K + l) = f K) (hm : (lg' = lg ∧ l ≤ lg) ∨ (lg' = l ∧ lg ≤ l)) : q_lrI f p (K + 1) lg' := by
  have hmax : ∀ r : Nat, r ≤ p → q_er f K r → r ≤ l := fun r hr hq => by
    rcases hx with hx | hx
    · omega
    · by_cases hrl : r ≤ l
      · exact hrl
      · exact absurd (hq l (by omega)) hx
  refine ⟨fun k hk r hr hq => ?_, Or.inr ?_⟩
  · by_cases hkK : k = K
    · rw [hkK] at hq
      have := hmax r hr hq
      omega
    · have := h.1 k (by omega) r hr hq
      omega
  · rcases hm with ⟨g1, g2⟩ | ⟨g1, g2⟩
    · rcases h.2 with ⟨k0, k1⟩ | ⟨k, k1, k2, k3⟩
      · omega
      · exact ⟨k, by omega, by rw [g1]; exact k2, by omega⟩
    · exact ⟨K, by omega, by rw [g1]; exact hl, by omega⟩
theorem q_er_cg {f : Nat → Int32} {a r s : Nat} (h : q_er f a r) (hs : s ≤ r) : q_er f a s := fun j hj => h j (by omega)
theorem q_run_eq {O : Nat → Int32} {l p : Int} {a b : Nat} (hp : 1 ≤ p) (hc : q_lcE (q_pf O l p) p.toNat a) (hr : q_lrI (q_pf O l p) p.toNat p.toNat b) : a = b := by
  have hb : ∃ k : Nat, k < p.toNat ∧ q_er (q_pf O l p) k b ∧ b ≤ p.toNat := by
    rcases hr.2 with ⟨g, -⟩ | g
    · omega
    · exact g
  obtain ⟨k, k1, k2, k3⟩ := hb
  have hper := q_pf_per (O := O) (l := l) hp
  have hmod := q_pf_mod (O := O) (l := l) hp
  generalize q_pf O l p = f at *
  rcases hc with ⟨c1, c2⟩ | ⟨c1, run, -, -, -, -, ⟨s, s1, s2⟩, c7⟩
  · have h0 := q_ch_0 p.toNat c1
    have := hr.1 0 (by omega) p.toNat (by omega) (fun j hj => by rw [Nat.zero_add]; exact h0 j (by omega))
    omega
  · have hsm : ∀ r : Nat, q_er f s r → q_er f (s % p.toNat) r := fun r hq j hj => by
      rw [hmod s j, hq j hj]
      have := hmod s 0
      rw [Nat.add_zero, Nat.add_zero] at this
      exact this.symm
    have hlt : s % p.toNat < p.toNat := Nat.mod_lt _ (by omega)
    have hap : a ≤ p.toNat := by
      by_cases hq : a ≤ p.toNat
      · exact hq
      · exfalso
        have g := hsm (p.toNat + 1) (q_er_cg s2 (by omega))
        generalize s % p.toNat = t at *
        have all : ∀ j : Nat, j < p.toNat → f j = f t := fun j hj => by
          by_cases hjt : t ≤ j
          · have := g (j - t) (by omega)
            rw [show t + (j - t) = j by omega] at this
            exact this
          · rw [← hper j]
            have := g (j + p.toNat - t) (by omega)
            rw [show t + (j + p.toNat - t) = j + p.toNat by omega] at this
            exact this
        refine c1 (q_ch_1 p.toNat (fun j hj => ?_))
        by_cases hjp : j = p.toNat
        · rw [hjp]
          have := hper 0
          rw [Nat.zero_add] at this
          exact this
        · rw [all j (by omega), all 0 (by omega)]
    have h1 := hr.1 (s % p.toNat) hlt a hap (hsm a s2)
    have h2 := c7 k b (by omega) k2
    omega
/-! outs lie within what 17 bits hold -/
theorem q_best_rng {S L w : Int32} : ∀ n : Nat, n ≤ 100 → 0 ≤ (q_best S L w n).toInt ∧ (q_best S L w n).toInt ≤ (n : Int)
  | 0, _ => by
    show 0 ≤ (Int32.ofInt 0).toInt ∧ (Int32.ofInt 0).toInt ≤ 0
    decide
  | n + 1, h => by
    have ih := q_best_rng (S := S) (L := L) (w := w) n (by omega)
    have hy : (Int32.ofInt ((n : Int) + 1)).toInt = (n : Int) + 1 := q_ofi (by omega) (by omega)
    rw [q_best]
    split <;> omega
theorem q_near_rng {S L w : Int32} (hL : 2 ≤ L.toInt ∧ L.toInt ≤ 17) : 0 ≤ (q_near S L w).toInt ∧ (q_near S L w).toInt ≤ L.toInt - 1 := by
  have h := q_best_rng (S := S) (L := L) (w := w) (L.toInt - 1).toNat (by omega)
  unfold q_near
  omega
def q_pb (m : Int) (p : Nat → Int32) : Prop := ∀ j : Nat, j < 6 → 0 ≤ (p j).toInt ∧ (p j).toInt ≤ m
theorem q_pb_u {m : Int} {p : Nat → Int32} {k : Nat} {x : Int32} (h : q_pb m p) (hx : 0 ≤ x.toInt ∧ x.toInt ≤ m) : q_pb m (upd p k x) := fun j hj => by
  simp only [upd]
  split
  · exact hx
  · exact h j hj
theorem q_pb_pp {m : Int} {p : Nat → Int32} {n : Nat} {o : Int32} (h : q_pb m p) (ho : 0 ≤ o.toInt ∧ o.toInt ≤ m) : q_pb m (q_pp n o p) := by
  unfold q_pp
  split
  · exact q_pb_u h ho
  · exact q_pb_u (q_pb_u h (h 1 (by decide))) ho
  · exact q_pb_u (q_pb_u (q_pb_u h (h 4 (by decide))) (h 3 (by decide))) ho
  · exact h
/-- how far a small loop moves the out -/
def q_w2 (n : Nat) : Int := match n with
  | 0 => 1
  | 1 => 1
  | 2 => 2
  | _ => 4
theorem q_df_rng {m : Int} {p : Nat → Int32} {n : Nat} {o : Int32} (hn : n < 4) (hm : 0 ≤ m ∧ m ≤ 16) (h : q_pb m p) (ho : 0 ≤ o.toInt ∧ o.toInt ≤ m) : (if n = 0 then 0 else -(q_w2 n * m)) ≤ (q_df n o p).toInt ∧ (q_df n o p).toInt ≤ q_w2 n * m := by
  have z2 : (Int32.ofInt 2).toInt = 2 := by decide
  have z3 : (Int32.ofInt 3).toInt = 3 := by decide
  have p0 := h 0 (by decide)
  have p1 := h 1 (by decide)
  have p2 := h 2 (by decide)
  have p3 := h 3 (by decide)
  have p4 := h 4 (by decide)
  have p5 := h 5 (by decide)
  rcases (show n = 0 ∨ n = 1 ∨ n = 2 ∨ n = 3 by omega) with q | q | q | q <;> subst q
  · show (0 : Int) ≤ o.toInt ∧ o.toInt ≤ 1 * m
    omega
  · have a := vg_sub (x := o) (y := p 0) (v := o - p 0) rfl (by omega) (by omega)
    show -(1 * m) ≤ (o - p 0).toInt ∧ (o - p 0).toInt ≤ 1 * m
    omega
  · have a : (Int32.ofInt 2 * p 1).toInt = 2 * (p 1).toInt := vg_mulL rfl z2 (by omega) (by omega)
    have b := vg_sub (x := o) (y := Int32.ofInt 2 * p 1) (v := o - Int32.ofInt 2 * p 1) rfl (by omega) (by omega)
    have c := vg_add (x := o - Int32.ofInt 2 * p 1) (y := p 2) (v := o - Int32.ofInt 2 * p 1 + p 2) rfl (by omega) (by omega)
    show -(2 * m) ≤ (o - Int32.ofInt 2 * p 1 + p 2).toInt ∧ (o - Int32.ofInt 2 * p 1 + p 2).toInt ≤ 2 * m
    omega
  · have a : (Int32.ofInt 3 * p 3).toInt = 3 * (p 3).toInt := vg_mulL rfl z3 (by omega) (by omega)
    have a2 : (Int32.ofInt 3 * p 4).toInt = 3 * (p 4).toInt := vg_mulL rfl z3 (by omega) (by omega)
    have b := vg_sub (x := o) (y := Int32.ofInt 3 * p 3) (v := o - Int32.ofInt 3 * p 3) rfl (by omega) (by omega)
    have c := vg_add (x := o - Int32.ofInt 3 * p 3) (y := Int32.ofInt 3 * p 4) (v := o - Int32.ofInt 3 * p 3 + Int32.ofInt 3 * p 4) rfl (by omega) (by omega)
    have d := vg_sub (x := o - Int32.ofInt 3 * p 3 + Int32.ofInt 3 * p 4) (y := p 5) (v := o - Int32.ofInt 3 * p 3 + Int32.ofInt 3 * p 4 - p 5) rfl (by omega) (by omega)
    show -(4 * m) ≤ (o - Int32.ofInt 3 * p 3 + Int32.ofInt 3 * p 4 - p 5).toInt ∧ (o - Int32.ofInt 3 * p 3 + Int32.ofInt 3 * p 4 - p 5).toInt ≤ 4 * m
    omega
def q_lo (n : Nat) : Int := match n with
  | 0 => 0
  | 1 => 0
  | 2 => 1
  | 3 => 3
  | _ => 7
def q_hi (n : Nat) : Int := match n with
  | 0 => 0
  | 1 => 1
  | 2 => 2
  | 3 => 4
  | _ => 8
theorem q_cs_rng {S L M u d b : Int32} {e p : Nat → Int32} (hL : 2 ≤ L.toInt ∧ L.toInt ≤ 17) (hp : q_pb (L.toInt - 1) p) (hb : 0 ≤ b.toInt ∧ b.toInt ≤ 1000) : ∀ n : Nat, n ≤ 4 → q_pb (L.toInt - 1) (q_cs S L M u d b e p n).2.1 ∧ b.toInt - q_lo n * (L.toInt - 1) ≤ (q_cs S L M u d b e p n).2.2.2.1.toInt ∧ (q_cs S L M u d b e p n).2.2.2.1.toInt ≤ b.toInt + q_hi n * (L.toInt - 1)
  | 0, _ => by
    refine ⟨hp, ?_⟩
    show b.toInt - 0 * (L.toInt - 1) ≤ b.toInt ∧ b.toInt ≤ b.toInt + 0 * (L.toInt - 1)
    omega
  | n + 1, hn => by
    obtain ⟨i1, i2, i3⟩ := q_cs_rng (S := S) (M := M) (u := u) (d := d) (e := e) hL hp hb n (by omega)
    rw [q_cs]
    dsimp only
    generalize q_cs S L M u d b e p n = F at *
    have ho : 0 ≤ (q_co S L d n F).toInt ∧ (q_co S L d n F).toInt ≤ L.toInt - 1 := q_near_rng hL
    have hd := q_df_rng (n := n) (by omega) ⟨by omega, by omega⟩ i1 ho
    refine ⟨q_pb_pp i1 ho, ?_⟩
    generalize q_df n (q_co S L d n F) F.2.1 = D at *
    obtain ⟨y, ey⟩ : ∃ y, y = F.2.2.2.1 + D := ⟨_, rfl⟩
    rw [← ey]
    rcases (show n = 0 ∨ n = 1 ∨ n = 2 ∨ n = 3 by omega) with q | q | q | q <;> subst q
    · have hd' : (0 : Int) ≤ D.toInt ∧ D.toInt ≤ 1 * (L.toInt - 1) := hd
      have i2' : b.toInt - 0 * (L.toInt - 1) ≤ F.2.2.2.1.toInt := i2
      have i3' : F.2.2.2.1.toInt ≤ b.toInt + 0 * (L.toInt - 1) := i3
      have a := vg_add ey (by omega) (by omega)
      show b.toInt - 0 * (L.toInt - 1) ≤ y.toInt ∧ y.toInt ≤ b.toInt + 1 * (L.toInt - 1)
      omega
    · have hd' : (-(1 * (L.toInt - 1)) : Int) ≤ D.toInt ∧ D.toInt ≤ 1 * (L.toInt - 1) := hd
      have i2' : b.toInt - 0 * (L.toInt - 1) ≤ F.2.2.2.1.toInt := i2
      have i3' : F.2.2.2.1.toInt ≤ b.toInt + 1 * (L.toInt - 1) := i3
      have a := vg_add ey (by omega) (by omega)
      show b.toInt - 1 * (L.toInt - 1) ≤ y.toInt ∧ y.toInt ≤ b.toInt + 2 * (L.toInt - 1)
      omega
    · have hd' : (-(2 * (L.toInt - 1)) : Int) ≤ D.toInt ∧ D.toInt ≤ 2 * (L.toInt - 1) := hd
      have i2' : b.toInt - 1 * (L.toInt - 1) ≤ F.2.2.2.1.toInt := i2
      have i3' : F.2.2.2.1.toInt ≤ b.toInt + 2 * (L.toInt - 1) := i3
      have a := vg_add ey (by omega) (by omega)
      show b.toInt - 3 * (L.toInt - 1) ≤ y.toInt ∧ y.toInt ≤ b.toInt + 4 * (L.toInt - 1)
      omega
    · have hd' : (-(4 * (L.toInt - 1)) : Int) ≤ D.toInt ∧ D.toInt ≤ 4 * (L.toInt - 1) := hd
      have i2' : b.toInt - 3 * (L.toInt - 1) ≤ F.2.2.2.1.toInt := i2
      have i3' : F.2.2.2.1.toInt ≤ b.toInt + 4 * (L.toInt - 1) := i3
      have a := vg_add ey (by omega) (by omega)
      show b.toInt - 7 * (L.toInt - 1) ≤ y.toInt ∧ y.toInt ≤ b.toInt + 8 * (L.toInt - 1)
      omega
theorem q_bes_i {K N L : Int32} (hK : K.toInt = 2) (hN : 1 ≤ N.toInt ∧ N.toInt ≤ 4) (hL : 2 ≤ L.toInt ∧ L.toInt ≤ 17) : (q_bes K N L).toInt = q_lo N.toInt.toNat * (L.toInt - 1) := by
  have z1 : (Int32.ofInt 1).toInt = 1 := by decide
  obtain ⟨m, em⟩ : ∃ m, m = L - Int32.ofInt 1 := ⟨_, rfl⟩
  have bm := vg_sub em (by omega) (by omega)
  rw [q_bes, if_pos hK, ← em]
  rcases (show N.toInt = 1 ∨ N.toInt = 2 ∨ N.toInt = 3 ∨ N.toInt = 4 by omega) with q | q | q | q <;> rw [q, q_lit q]
  · have h := vg_mulR (c := 0) (x := m) (y := (Int32.ofInt 1 <<< ((Int32.ofInt 1 - Int32.ofInt 1) &&& (31 : Int32))) - Int32.ofInt 1) rfl (by decide) (by omega) (by omega)
    rw [h]
    show _ = 0 * (L.toInt - 1)
    omega
  · have h := vg_mulR (c := 1) (x := m) (y := (Int32.ofInt 1 <<< ((Int32.ofInt 2 - Int32.ofInt 1) &&& (31 : Int32))) - Int32.ofInt 1) rfl (by decide) (by omega) (by omega)
    rw [h]
    show _ = 1 * (L.toInt - 1)
    omega
  · have h := vg_mulR (c := 3) (x := m) (y := (Int32.ofInt 1 <<< ((Int32.ofInt 3 - Int32.ofInt 1) &&& (31 : Int32))) - Int32.ofInt 1) rfl (by decide) (by omega) (by omega)
    rw [h]
    show _ = 3 * (L.toInt - 1)
    omega
  · have h := vg_mulR (c := 7) (x := m) (y := (Int32.ofInt 1 <<< ((Int32.ofInt 4 - Int32.ofInt 1) &&& (31 : Int32))) - Int32.ofInt 1) rfl (by decide) (by omega) (by omega)
    rw [h]
    show _ = 7 * (L.toInt - 1)
    omega
theorem q_eo_i {K N L : Int32} (hK : K.toInt = 2) (hN : 1 ≤ N.toInt ∧ N.toInt ≤ 4) (hL : 2 ≤ L.toInt ∧ L.toInt ≤ 17) (hm : (vg_eo K N L).toInt ≤ 16) : (q_lo N.toInt.toNat + q_hi N.toInt.toNat) * (L.toInt - 1) ≤ 16 := by
  have z1 : (Int32.ofInt 1).toInt = 1 := by decide
  obtain ⟨m, em⟩ : ∃ m, m = L - Int32.ofInt 1 := ⟨_, rfl⟩
  have bm := vg_sub em (by omega) (by omega)
  rw [vg_eo, if_pos hK, ← em] at hm
  rcases (show N.toInt = 1 ∨ N.toInt = 2 ∨ N.toInt = 3 ∨ N.toInt = 4 by omega) with q | q | q | q <;> rw [q_lit q] at hm <;> rw [q]
  · have h := vg_mulR (c := 1) (x := m) (y := (Int32.ofInt 1 <<< (Int32.ofInt 1 &&& (31 : Int32))) - Int32.ofInt 1) rfl (by decide) (by omega) (by omega)
    rw [h] at hm
    show (0 + 1) * (L.toInt - 1) ≤ 16
    omega
  · have h := vg_mulR (c := 3) (x := m) (y := (Int32.ofInt 1 <<< (Int32.ofInt 2 &&& (31 : Int32))) - Int32.ofInt 1) rfl (by decide) (by omega) (by omega)
    rw [h] at hm
    show (1 + 2) * (L.toInt - 1) ≤ 16
    omega
  · have h := vg_mulR (c := 7) (x := m) (y := (Int32.ofInt 1 <<< (Int32.ofInt 3 &&& (31 : Int32))) - Int32.ofInt 1) rfl (by decide) (by omega) (by omega)
    rw [h] at hm
    show (3 + 4) * (L.toInt - 1) ≤ 16
    omega
  · have h := vg_mulR (c := 15) (x := m) (y := (Int32.ofInt 1 <<< (Int32.ofInt 4 &&& (31 : Int32))) - Int32.ofInt 1) rfl (by decide) (by omega) (by omega)
    rw [h] at hm
    show (7 + 8) * (L.toInt - 1) ≤ 16
    omega
def q_ok (P : q_P) : Prop := (1 ≤ P.2.1.toInt ∧ P.2.1.toInt ≤ 4) ∧ (2 ≤ P.2.2.2.1.toInt ∧ P.2.2.2.1.toInt ≤ 17) ∧ (vg_eo P.1 P.2.1 P.2.2.2.1).toInt ≤ 16
theorem q_yy_rng {P : q_P} {u d V : Int32} {e p : Nat → Int32} (h : q_ok P) (hp : q_pb (P.2.2.2.1.toInt - 1) p) : q_pb (P.2.2.2.1.toInt - 1) (q_yy P u d e p V).2.2.1 ∧ 0 ≤ (q_yy P u d e p V).1.toInt ∧ (q_yy P u d e p V).1.toInt ≤ 16 := by
  obtain ⟨hN, hL, hm⟩ := h
  unfold q_yy
  split
  · have := q_near_rng (S := P.2.2.1) (w := (q_sm P.2.2.2.2.1 V u e P.2.1.toNatClampNeg).2.1 + d) hL
    exact ⟨hp, this.1, by show (q_near _ _ _).toInt ≤ 16; omega⟩
  · split
    · rename_i hK
      have c1 : P.2.1.toNatClampNeg = P.2.1.toInt.toNat := rfl
      have hb := q_bes_i hK hN hL
      have ho := q_eo_i hK hN hL hm
      have hlo : 0 ≤ q_lo P.2.1.toInt.toNat ∧ q_lo P.2.1.toInt.toNat ≤ 7 := by unfold q_lo; split <;> omega
      have hq : q_lo P.2.1.toInt.toNat * (P.2.2.2.1.toInt - 1) ≤ 7 * (P.2.2.2.1.toInt - 1) := Int.mul_le_mul_of_nonneg_right hlo.2 (by omega)
      have hq0 : 0 ≤ q_lo P.2.1.toInt.toNat * (P.2.2.2.1.toInt - 1) := Int.mul_nonneg hlo.1 (by omega)
      have h := q_cs_rng (S := P.2.2.1) (M := P.2.2.2.2.1) (u := u) (d := d) (b := q_bes P.1 P.2.1 P.2.2.2.1) (e := e) hL hp ⟨by omega, by omega⟩ P.2.1.toNatClampNeg (by omega)
      rw [c1] at h
      rw [Int.add_mul] at ho
      refine ⟨h.1, ?_, ?_⟩
      · have := h.2.1
        show 0 ≤ (q_cs _ _ _ _ _ _ _ _ _).2.2.2.1.toInt
        rw [c1]
        omega
      · have := h.2.2
        show (q_cs _ _ _ _ _ _ _ _ _).2.2.2.1.toInt ≤ 16
        rw [c1]
        omega
    · have := q_near_rng (S := P.2.2.1) (w := u + q_shv P.2.1 e + d) hL
      exact ⟨hp, this.1, by show (q_near _ _ _).toInt ≤ 16; omega⟩
theorem q_it_rng {P : q_P} {u : Int32} (h : q_ok P) : ∀ n : Nat, q_pb (P.2.2.2.1.toInt - 1) (q_it P u n).2.1
  | 0 => fun j _ => by
    have z : (Int32.ofInt 0).toInt = 0 := by decide
    show 0 ≤ (Int32.ofInt 0).toInt ∧ (Int32.ofInt 0).toInt ≤ _
    have := h.2.1
    omega
  | n + 1 => (q_yy_rng (u := u) (d := Int32.ofInt 0) h (q_it_rng h n)).1
theorem q_out_rng {P : q_P} {u : Int32} (h : q_ok P) (n : Nat) : 0 ≤ (q_out P u n).toInt ∧ (q_out P u n).toInt ≤ 16 := (q_yy_rng (u := u) (d := Int32.ofInt 0) h (q_it_rng h n)).2
