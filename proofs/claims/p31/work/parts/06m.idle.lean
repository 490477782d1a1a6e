/-! the search, as it is walked -/
theorem q_fpA {z s t : vg_S} {n : Nat} {l2 l3 idx v w : Int32} (hz : s = z) (hb : q_tb z n) (hh : l2.toInt.toNat = q_hw z n) (hI : q_fpI z n l2.toInt.toNat l3.toInt) (yx : idx.toNatClampNeg = (l2.toInt.toNat + l3.toInt.toNat) % 2048) (y3 : v = s.1 34 idx.toNatClampNeg) (hv : v.toInt = 0) (hl : 0 ≤ l3.toInt ∧ l3.toInt < 2048) (hw : w.toInt = (n : Int) + 1) (ee : t = vg_u1 s 34 idx.toNatClampNeg w) : (∀ i : Nat, i < n → ¬ q_sw z i n) ∧ q_tb t (n + 1) ∧ ∀ m, m ≠ 34 → t.1 m = z.1 m := by
  subst hz
  have hc : (s.1 34 idx.toNatClampNeg).toInt = 0 := by rw [← y3]; exact hv
  refine ⟨q_fp2 hb hh hI hl.1 (by rw [← yx]; exact hc), q_fp3 hb hh hI hl.1 hl.2 yx hc hw ee, fun m hm => by rw [ee, vg_u1_ne hm]⟩
theorem q_fpB {z s : vg_S} {l2 l3 l3' idx v w a r : Int32} (hz : s = z) (hI : q_fpI z a.toNatClampNeg l2.toInt.toNat l3.toInt) (yx : idx.toNatClampNeg = (l2.toInt.toNat + l3.toInt.toNat) % 2048) (y3 : v = s.1 34 idx.toNatClampNeg) (hv : ¬ v.toInt = 0) (hw : w.toInt = v.toInt - 1) (y5 : (r.toInt = 1 ∧ q_sw s w.toNatClampNeg a.toNatClampNeg) ∨ (r.toInt = 0 ∧ ¬ q_sw s w.toNatClampNeg a.toNatClampNeg)) (hr : r.toInt = 0) (h0 : 0 ≤ l3.toInt) (hl : l3'.toInt = l3.toInt + 1) : q_fpI z a.toNatClampNeg l2.toInt.toNat l3'.toInt := by
  subst hz
  have hn : ¬ q_sw s w.toNatClampNeg a.toNatClampNeg := by
    rcases y5 with ⟨g, -⟩ | ⟨-, g⟩
    · omega
    · exact g
  have c1 : w.toNatClampNeg = (v.toInt - 1).toNat := by rw [← hw]; rfl
  rw [c1] at hn
  exact q_fp1 hI yx y3 h0 hv hn hl
theorem q_fpC {z s : vg_S} {w w2 a r : Int32} (hz : s = z) (hw : w2.toInt = w.toInt) (y5 : (r.toInt = 1 ∧ q_sw s w.toNatClampNeg a.toNatClampNeg) ∨ (r.toInt = 0 ∧ ¬ q_sw s w.toNatClampNeg a.toNatClampNeg)) (hr : ¬ r.toInt = 0) : q_sw z w2.toInt.toNat a.toNatClampNeg := by
  subst hz
  rcases y5 with ⟨-, g⟩ | ⟨g, -⟩
  · rw [hw]
    exact g
  · exact absurd g hr
theorem q_fI_s {z s : vg_S} {u i i' : Int32} (h : q_fI z s u (i.toNatClampNeg + 1)) (h0 : 0 ≤ i.toInt) (hi : i'.toInt = i.toInt + 1) : q_fI z s u i'.toNatClampNeg := by
  have c1 : i.toNatClampNeg = i.toInt.toNat := rfl
  have c2 : i'.toNatClampNeg = i'.toInt.toNat := rfl
  rw [show i'.toNatClampNeg = i.toNatClampNeg + 1 by omega]
  exact h
def q_fF (s t : vg_S) (a v : Int32) : Prop := ((v.toInt = -1 ∧ (∀ i : Nat, i < a.toNatClampNeg → ¬ q_sw s i a.toNatClampNeg) ∧ q_tb t (a.toNatClampNeg + 1)) ∨ (0 ≤ v.toInt ∧ v.toInt < a.toInt ∧ q_sw s v.toInt.toNat a.toNatClampNeg)) ∧ ∀ m, m ≠ 34 → t.1 m = s.1 m
theorem q_fF_rng {s t : vg_S} {a v : Int32} (h : q_fF s t a v) : v.toInt = -1 ∨ (0 ≤ v.toInt ∧ v.toInt < a.toInt) := by
  rcases h.1 with g | g
  · exact Or.inl g.1
  · exact Or.inr ⟨g.1, g.2.1⟩
theorem q_f2w {z s s2 s3 s4 t : vg_S} {u a v c l p : Int32} (hQ : q_fQ z s u a.toNatClampNeg (a.toNatClampNeg + 1)) (hd : q_ds (q_plC z 4) u (a.toNatClampNeg : Int)) (ha : 0 ≤ a.toInt ∧ a.toInt ≤ 1000) (f5 : q_fF s s2 a v) (hv : ¬ v.toInt = -1) (e1 : s3 = vg_u1 s2 31 3 c) (e2 : s4 = vg_u1 s3 31 4 l) (e3 : t = vg_u1 s4 31 5 p) (hc : c.toInt = 1) (hl : l.toInt = v.toInt) (hp : p.toInt = a.toInt - v.toInt) : q_fR z t u := by
  have c1 : a.toNatClampNeg = a.toInt.toNat := rfl
  rcases f5.1 with g | ⟨g1, g2, g3⟩
  · exact absurd g.1 hv
  · refine Or.inl (q_f2 hQ hd (by omega) ⟨g1, by omega⟩ g3 ?_ (c := c) (l := l) (p := p) ?_ ?_ ?_ hc hl (by omega))
    · rw [e3, vg_u1_ne (by decide), e2, vg_u1_ne (by decide), e1, vg_u1_ne (by decide), f5.2 32 (by decide)]
    · rw [e3, vg_u1_at (by omega), e2, vg_u1_at (by omega), e1]
      exact vg_u1_self
    · rw [e3, vg_u1_at (by omega), e2]
      exact vg_u1_self
    · rw [e3]
      exact vg_u1_self
theorem q_f3w {z s t : vg_S} {u a v : Int32} (h4 : q_fP z s u a.toNatClampNeg ∧ q_fQ z s u a.toNatClampNeg (a.toNatClampNeg + 1) ∧ q_ds (q_plC z 4) u (a.toNatClampNeg : Int) ∧ q_tb s a.toNatClampNeg) (f5 : q_fF s t a v) (hv : v.toInt = -1) : q_fP z t u a.toNatClampNeg ∧ q_fQ z t u a.toNatClampNeg (a.toNatClampNeg + 1) ∧ q_ds (q_plC z 4) u ((a.toNatClampNeg : Int) + 1) ∧ q_tb t (a.toNatClampNeg + 1) := by
  rcases f5.1 with ⟨-, g2, g3⟩ | g
  · exact q_f3 h4.1 h4.2.1 h4.2.2.1 f5.2 g2 g3
  · omega
/-! idle -/
noncomputable def q_id (P : q_P) (u m : Int) : Nat → Int × Int × Int
  | 0 => (0, 1001, u)
  | n + 1 => if q_pd P (Int32.ofInt (u + (n : Int))) = -1 ∨ m < q_pd P (Int32.ofInt (u + (n : Int))) then q_id P u m n else ((q_id P u m n).1 + 1, if q_pd P (Int32.ofInt (u + (n : Int))) < (q_id P u m n).2.1 then q_pd P (Int32.ofInt (u + (n : Int))) else (q_id P u m n).2.1, if q_pd P (Int32.ofInt (u + (n : Int))) < (q_id P u m n).2.1 then u + (n : Int) else (q_id P u m n).2.2)
theorem q_id_n {P : q_P} {u m i p : Int} {v : Int32} (h : q_pr P v p) (hv : v.toInt = u + i) (hi : 0 ≤ i) (hp : p = -1 ∨ m < p) : q_id P u m (i + 1).toNat = q_id P u m i.toNat := by
  have hq : Int32.ofInt (u + ((i.toNat : Nat) : Int)) = v := by rw [show u + ((i.toNat : Nat) : Int) = v.toInt by omega]; exact Int32.ofInt_toInt v
  rw [show (i + 1).toNat = i.toNat + 1 by omega, q_id, hq, q_pd_eq h, if_pos hp]
theorem q_id_y {P : q_P} {u m i p : Int} {v : Int32} (h : q_pr P v p) (hv : v.toInt = u + i) (hi : 0 ≤ i) (hp : ¬ (p = -1 ∨ m < p)) : q_id P u m (i + 1).toNat = ((q_id P u m i.toNat).1 + 1, if p < (q_id P u m i.toNat).2.1 then p else (q_id P u m i.toNat).2.1, if p < (q_id P u m i.toNat).2.1 then u + i else (q_id P u m i.toNat).2.2) := by
  have hq : Int32.ofInt (u + ((i.toNat : Nat) : Int)) = v := by rw [show u + ((i.toNat : Nat) : Int) = v.toInt by omega]; exact Int32.ofInt_toInt v
  rw [show (i + 1).toNat = i.toNat + 1 by omega, q_id, hq, q_pd_eq h, if_neg hp, show ((i.toNat : Nat) : Int) = i by omega]
def q_idC (P : q_P) (u m i c lp w : Int) : Prop := 0 ≤ i ∧ c = (q_id P u m i.toNat).1 ∧ lp = (q_id P u m i.toNat).2.1 ∧ w = (q_id P u m i.toNat).2.2 ∧ 0 ≤ c ∧ c ≤ i
theorem q_idC_rng {P : q_P} {u m i c lp w : Int} (h : q_idC P u m i c lp w) : 0 ≤ c ∧ c ≤ i := h.2.2.2.2
theorem q_idC0 {P : q_P} {u m i c lp w : Int} (hi : i = 0) (hc : c = 0) (hl : lp = 1001) (hw : w = u) : q_idC P u m i c lp w := by
  subst hi
  subst hc
  subst hl
  subst hw
  exact ⟨by omega, rfl, rfl, rfl, by omega, by omega⟩
theorem q_idC1 {P : q_P} {u m i i' c lp w p : Int} {v : Int32} (h : q_idC P u m i c lp w) (hq : q_pr P v p) (hv : v.toInt = u + i) (hp : p = -1 ∨ m < p) (hi : i' = i + 1) : q_idC P u m i' c lp w := by
  obtain ⟨h0, h1, h2, h3, h4, h5⟩ := h
  have e := q_id_n (m := m) hq hv h0 hp
  subst hi
  unfold q_idC
  rw [e]
  exact ⟨by omega, h1, h2, h3, h4, by omega⟩
theorem q_idC2 {P : q_P} {u m i i' c c' lp w p : Int} {v : Int32} (h : q_idC P u m i c lp w) (hq : q_pr P v p) (hv : v.toInt = u + i) (hp : ¬ (p = -1 ∨ m < p)) (hl : ¬ p < lp) (hc : c' = c + 1) (hi : i' = i + 1) : q_idC P u m i' c' lp w := by
  obtain ⟨h0, h1, h2, h3, h4, h5⟩ := h
  have e := q_id_y (m := m) hq hv h0 hp
  subst hi
  unfold q_idC
  rw [e]
  dsimp only
  rw [h2] at hl
  refine ⟨by omega, by rw [hc, h1], ?_, ?_, by omega, by omega⟩
  · rw [h2, if_neg hl]
  · rw [h3, if_neg hl]
theorem q_idC3 {P : q_P} {u m i i' c c' lp lp' w w' p : Int} {v : Int32} (h : q_idC P u m i c lp w) (hq : q_pr P v p) (hv : v.toInt = u + i) (hp : ¬ (p = -1 ∨ m < p)) (hl : p < lp) (hc : c' = c + 1) (hi : i' = i + 1) (hl' : lp' = p) (hw : w' = u + i) : q_idC P u m i' c' lp' w' := by
  obtain ⟨h0, h1, h2, h3, h4, h5⟩ := h
  have e := q_id_y (m := m) hq hv h0 hp
  subst hi
  unfold q_idC
  rw [e]
  dsimp only
  rw [h2] at hl
  refine ⟨by omega, by rw [hc, h1], ?_, ?_, by omega, by omega⟩
  · rw [hl', if_pos hl]
  · rw [hw, if_pos hl]
theorem q_idC_e {P : q_P} {u m i c lp w k : Int} (h : q_idC P u m i c lp w) (hi : i = k) : c = (q_id P u m k.toNat).1 ∧ w = (q_id P u m k.toNat).2.2 ∧ 0 ≤ c := by
  subst hi
  exact ⟨h.2.1, h.2.2.2.1, h.2.2.2.2.1⟩
theorem q_prC0 {z s t : vg_S} {v : Int32} (h : q_fR s t v) (hP : q_plC s 4 = q_plC z 4) (hc : (t.1 31 3).toInt = 0) : q_pr (q_plC z 4) v (-1) := by
  rw [← hP]
  rcases h with h | h
  · have := h.1
    omega
  · exact Or.inl ⟨rfl, h.2⟩
theorem q_prC1 {z s t : vg_S} {v : Int32} (h : q_fR s t v) (hP : q_plC s 4 = q_plC z 4) (hc : ¬ (t.1 31 3).toInt = 0) : q_pr (q_plC z 4) v (t.1 31 5).toInt := by
  rw [← hP]
  rcases h with h | h
  · exact Or.inr ⟨_, h.2.1⟩
  · exact absurd h.1 hc
theorem q_plC_4 {z s : vg_S} (h0 : s.1 4 0 = z.1 4 0) (h1 : s.1 4 1 = z.1 4 1) (h2 : s.1 4 2 = z.1 4 2) (h3 : s.1 4 3 = z.1 4 3) (h4 : s.1 4 4 = z.1 4 4) (h5 : s.1 4 5 = z.1 4 5) : q_plC s 4 = q_plC z 4 := by
  unfold q_plC
  rw [h0, h1, h2, h3, h4, h5]
/-- the reference -/
def q_tR (z t : vg_S) (u : Int32) : Prop := ((t.1 55 31).toInt = -1 ∧ q_ds (q_plR z) u 1001) ∨ (q_rd (q_plR z) u (t.1 55 30).toInt (t.1 55 31).toInt ∧ ∀ j : Nat, (j : Int) < (t.1 55 30).toInt + (t.1 55 31).toInt → t.1 65 j = q_out (q_plR z) u j)
theorem q_tR1 {z s : vg_S} {u : Int32} {n : Nat} (h : q_tI z s u n) (hD : q_tD z s u n) (hx : 1000 ≤ n ∨ ¬ (s.1 55 31).toInt = -1) : q_tR z s u := by
  rcases hD with hD | hD
  · refine Or.inl ⟨hD.1, fun k hk i hi => hD.2 k (by have := hD.1; omega) i hi⟩
  · exact Or.inr ⟨hD.1, fun j hj => h.2.1 j (by have := hD.2; omega)⟩
theorem q_tR_k {z s t : vg_S} {u : Int32} (h : q_tR z s u) (e : t.1 = s.1) : q_tR z t u := by
  unfold q_tR
  rw [e]
  exact h
theorem q_prR {z s t : vg_S} {v : Int32} (h : q_tR s t v) (hP : q_plR s = q_plR z) : q_pr (q_plR z) v (t.1 55 31).toInt := by
  rw [← hP]
  rcases h with h | h
  · exact Or.inl h
  · exact Or.inr ⟨_, h.1⟩
def q_idR (P : q_P) (u m i c b l : Int) : Prop := 0 ≤ i ∧ c = (q_id P u m i.toNat).1 ∧ 0 ≤ c ∧ c ≤ i ∧ ((c = 0 ∧ l = -1 ∧ (q_id P u m i.toNat).2.1 = 1001) ∨ (0 < c ∧ l = (q_id P u m i.toNat).2.1 ∧ b = (q_id P u m i.toNat).2.2 ∧ 1 ≤ l ∧ l ≤ 1000))
theorem q_idR_rng {P : q_P} {u m i c b l : Int} (h : q_idR P u m i c b l) : 0 ≤ c ∧ c ≤ i ∧ (l = -1 ∨ (1 ≤ l ∧ l ≤ 1000)) := by
  obtain ⟨h0, h1, h2, h3, h4 | h4⟩ := h
  · exact ⟨h2, h3, Or.inl h4.2.1⟩
  · exact ⟨h2, h3, Or.inr h4.2.2.2⟩
theorem q_idR0 {P : q_P} {u m i c b l : Int} (hi : i = 0) (hc : c = 0) (hl : l = -1) : q_idR P u m i c b l := by
  subst hi
  subst hc
  exact ⟨by omega, rfl, by omega, by omega, Or.inl ⟨rfl, hl, rfl⟩⟩
theorem q_idR1 {P : q_P} {u m i i' c b l p : Int} {v : Int32} (h : q_idR P u m i c b l) (hq : q_pr P v p) (hv : v.toInt = u + i) (hp : p = -1 ∨ m < p) (hi : i' = i + 1) : q_idR P u m i' c b l := by
  obtain ⟨h0, h1, h2, h3, h4⟩ := h
  have e := q_id_n (m := m) hq hv h0 hp
  subst hi
  unfold q_idR
  rw [e]
  exact ⟨by omega, h1, h2, by omega, h4⟩
theorem q_idR2 {P : q_P} {u m i i' c c' b b' l l' p : Int} {v : Int32} (h : q_idR P u m i c b l) (hq : q_pr P v p) (hv : v.toInt = u + i) (hp : ¬ (p = -1 ∨ m < p)) (hc : c' = c + 1) (hi : i' = i + 1) (hb : ((l = -1 ∨ p < l) ∧ b' = u + i ∧ l' = p) ∨ ((¬ l = -1 ∧ ¬ p < l) ∧ b' = b ∧ l' = l)) : q_idR P u m i' c' b' l' := by
  obtain ⟨h0, h1, h2, h3, h4⟩ := h
  have e := q_id_y (m := m) hq hv h0 hp
  have hr := q_pd_rng hq
  subst hi
  unfold q_idR
  rw [e]
  refine ⟨by omega, by rw [hc, h1], by omega, by omega, Or.inr ⟨by omega, ?_⟩⟩
  dsimp only
  rcases h4 with ⟨g1, g2, g3⟩ | ⟨g1, g2, g3, g4, g5⟩
  · rw [if_pos (by omega), if_pos (by omega)]
    omega
  · by_cases hpl : p < l
    · rw [if_pos (by omega), if_pos (by omega)]
      omega
    · rw [if_neg (by omega), if_neg (by omega)]
      omega
theorem q_idR_e {P : q_P} {u m i c b l k : Int} (h : q_idR P u m i c b l) (hi : i = k) : c = (q_id P u m k.toNat).1 ∧ ((c = 0 ∧ l = -1) ∨ (0 < c ∧ 1 ≤ l ∧ b = (q_id P u m k.toNat).2.2)) := by
  subst hi
  obtain ⟨h0, h1, h2, h3, h4 | h4⟩ := h
  · exact ⟨h1, Or.inl ⟨h4.1, h4.2.1⟩⟩
  · exact ⟨h1, Or.inr ⟨h4.1, h4.2.2.2.1, h4.2.2.1⟩⟩
/-! the reference's tones, as they are walked -/
def q_tA (z s : vg_S) (u : Int32) (n : Nat) : Prop := q_tI z s u n ∧ q_tL z s u n ∧ q_tD z s u n
def q_tB (z s : vg_S) (u : Int32) (n : Nat) (k : Int) : Prop := q_tI z s u (n + 1) ∧ q_tL z s u (n + 1) ∧ q_tE z s u n k
theorem q_tA0 {z s2 s3 s4 : vg_S} {u x : Int32} {a : Int} (yb : ∀ j : Nat, (j = 2 ∨ (23 ≤ j ∧ j ≤ 38)) → s2.2 56 j = Int64.ofNat 0) (yl : q_la s2 s3 a) (ha : a = 0) (hP : q_plR s2 = q_plR z) (ee : s4 = vg_u1 s3 55 31 x) (hx : x.toInt = -1) : q_tA z s4 u (Int32.ofInt 0).toNatClampNeg := by
  refine ⟨q_tI_0 yb yl ee, ?_, ?_⟩
  · rw [q_n0]
    intro i hi j hj
    have h := q_tL0 (n := 0) (fun i hi => absurd hi (by omega)) (q_tI0 (z := z) (u := u) yb) hP yl ha i hi j hj
    rw [ee]
    exact h
  · rw [q_n0]
    exact q_tD0 (by rw [ee, vg_u1_self]; exact hx)
theorem q_tB0 {z s t s' s'' : vg_S} {u d v i k : Int32} {a : Int} (h : q_tA z s u i.toNatClampNeg) (hP : q_plR s = q_plR z) (hN : (z.1 55 8).toInt ≤ 4) (hl : q_ld s t u d v) (hd : d = Int32.ofInt 0) (ee : s' = vg_u1 t 65 i.toNatClampNeg v) (hi : 0 ≤ i.toInt) (hla : q_la s' s'' a) (ha : a = i.toInt + 1) (hk : k.toInt = 0) (k64 : t.2 64 = s.2 64) : q_tB z s'' u i.toNatClampNeg k.toInt := by
  have c1 : i.toNatClampNeg = i.toInt.toNat := rfl
  obtain ⟨h1, h2, h3⟩ := h
  have hI := q_tI1 h1 hP hN hl hd ee (by omega) hla
  have e1 : s'.1 55 = s.1 55 := by rw [ee, vg_u1_ne (by decide), hl.1]
  have e2 : s'.2 64 = s.2 64 := by rw [ee]; exact k64
  have hI' : q_tI z s' u (i.toNatClampNeg + 1) := q_tI_k hI (by rw [hla.1]) hla.2.1.symm
  have hP' : q_plR s' = q_plR z := by
    rw [← hP]
    unfold q_plR
    rw [e1]
  refine ⟨hI, q_tL0 (n := i.toNatClampNeg + 1) (fun i' hi' j hj => ?_) hI' hP' hla (by omega), ?_⟩
  · rw [e2]
    exact h2 i' (by omega) j hj
  · exact q_tE0 h3 (by rw [hla.1, e1]) (by rw [hla.1, e1]) hk
theorem q_lk {z s : vg_S} {u v : Int32} {n i k : Nat} (h : q_tL z s u n) (hi : i ≤ n) (hk : k ≤ n) : (∀ j : Nat, j < 17 → s.2 64 (17 * i + j) = s.2 64 (17 * k + j)) ↔ q_same (q_plR z) u i k := by
  rw [← q_rw_same]
  constructor
  · intro g j hj
    have := g j hj
    rw [h i hi j hj, h k hk j hj] at this
    exact this
  · intro g j hj
    rw [h i hi j hj, h k hk j hj]
    exact g j hj
def q_ik (s : vg_S) (a b v : Int32) : Prop := (v.toInt = 1 ∧ ∀ j : Nat, j < 17 → s.2 64 (17 * a.toNatClampNeg + j) = s.2 64 (17 * b.toNatClampNeg + j)) ∨ (v.toInt = 0 ∧ ¬ ∀ j : Nat, j < 17 → s.2 64 (17 * a.toNatClampNeg + j) = s.2 64 (17 * b.toNatClampNeg + j))
theorem q_tB1 {z s : vg_S} {u i k k' b v : Int32} (h : q_tB z s u i.toNatClampNeg k.toInt) (hik : q_ik s k b v) (hv : v.toInt = 0) (hb : b.toInt = i.toInt + 1) (h0 : 0 ≤ k.toInt ∧ k.toInt ≤ i.toInt) (hk : k'.toInt = k.toInt + 1) : q_tB z s u i.toNatClampNeg k'.toInt := by
  have c1 : i.toNatClampNeg = i.toInt.toNat := rfl
  have c2 : k.toNatClampNeg = k.toInt.toNat := rfl
  have c3 : b.toNatClampNeg = b.toInt.toNat := rfl
  obtain ⟨h1, h2, h3⟩ := h
  refine ⟨h1, h2, q_tE1 h3 (fun g => ?_) hk h0.1⟩
  rcases hik with ⟨q, -⟩ | ⟨-, q⟩
  · omega
  · refine q ((q_lk (v := u) h2 (by omega) (by omega)).mpr ?_)
    rw [show b.toNatClampNeg = i.toNatClampNeg + 1 by omega]
    exact g
theorem q_tB2 {z s s1 s2 : vg_S} {u i k k' b v x y : Int32} (h : q_tB z s u i.toNatClampNeg k.toInt) (hp : (s.1 55 31).toInt = -1) (hik : q_ik s k b v) (hv : ¬ v.toInt = 0) (hb : b.toInt = i.toInt + 1) (h0 : 0 ≤ k.toInt ∧ k.toInt ≤ i.toInt) (hi : i.toInt < 1000) (e1 : s1 = vg_u1 s 55 30 x) (e2 : s2 = vg_u1 s1 55 31 y) (hx : x.toInt = k.toInt) (hy : y.toInt = i.toInt + 1 - k.toInt) : q_tB z s2 u i.toNatClampNeg k'.toInt := by
  have c1 : i.toNatClampNeg = i.toInt.toNat := rfl
  have c2 : k.toNatClampNeg = k.toInt.toNat := rfl
  have c3 : b.toNatClampNeg = b.toInt.toNat := rfl
  obtain ⟨h1, h2, h3⟩ := h
  have hs : q_same (q_plR z) u k.toInt.toNat (i.toNatClampNeg + 1) := by
    rcases hik with ⟨-, q⟩ | ⟨q, -⟩
    · have := (q_lk (v := u) h2 (i := k.toNatClampNeg) (k := b.toNatClampNeg) (by omega) (by omega)).mp q
      rw [show b.toNatClampNeg = i.toNatClampNeg + 1 by omega] at this
      exact this
    · exact absurd q hv
  refine ⟨q_tI_f2 h1 e1 e2, fun i' hi' j hj => ?_, q_tE2 h3 hp hs h0.1 (by omega) (by omega) e1 e2 hx (by omega)⟩
  have := h2 i' hi' j hj
  rw [e2, e1]
  exact this
theorem q_tA1 {z s : vg_S} {u i i' k : Int32} (h : q_tB z s u i.toNatClampNeg k.toInt) (h0 : 0 ≤ i.toInt) (hi : i'.toInt = i.toInt + 1) (hx : i.toInt < k.toInt ∨ ¬ (s.1 55 31).toInt = -1) : q_tA z s u i'.toNatClampNeg := by
  have c1 : i.toNatClampNeg = i.toInt.toNat := rfl
  have c2 : i'.toNatClampNeg = i'.toInt.toNat := rfl
  rw [show i'.toNatClampNeg = i.toNatClampNeg + 1 by omega]
  exact ⟨h.1, h.2.1, q_tD1 h.2.2 (by omega)⟩
theorem q_il0 {s : vg_S} {a b : Nat} {i : Int32} (hi : i.toInt = 0) : ∀ j : Nat, (j : Int) < i.toInt → s.2 64 (17 * a + j) = s.2 64 (17 * b + j) := fun j hj => by omega
theorem q_il1 {s : vg_S} {a b i ixa ixb i' c : Int32} {x y : Int64} (h : ∀ j : Nat, (j : Int) < i.toInt → s.2 64 (17 * a.toNatClampNeg + j) = s.2 64 (17 * b.toNatClampNeg + j)) (ea : x = s.2 64 ixa.toNatClampNeg) (eb : y = s.2 64 ixb.toNatClampNeg) (lc : c = lg_cmp x y) (ha : 0 ≤ a.toInt) (hb : 0 ≤ b.toInt) (hi : 0 ≤ i.toInt) (hxa : ixa.toInt = 17 * a.toInt + i.toInt) (hxb : ixb.toInt = 17 * b.toInt + i.toInt) (he : c.toInt = 0) (hi' : i'.toInt = i.toInt + 1) : ∀ j : Nat, (j : Int) < i'.toInt → s.2 64 (17 * a.toNatClampNeg + j) = s.2 64 (17 * b.toNatClampNeg + j) := fun j hj => by
  have c1 : a.toNatClampNeg = a.toInt.toNat := rfl
  have c2 : b.toNatClampNeg = b.toInt.toNat := rfl
  have c3 : ixa.toNatClampNeg = ixa.toInt.toNat := rfl
  have c4 : ixb.toNatClampNeg = ixb.toInt.toNat := rfl
  by_cases hji : (j : Int) = i.toInt
  · rw [show 17 * a.toNatClampNeg + j = ixa.toNatClampNeg by omega, show 17 * b.toNatClampNeg + j = ixb.toNatClampNeg by omega, ← ea, ← eb]
    exact (q_c1 lc).mp he
  · exact h j (by omega)
theorem q_il2 {s : vg_S} {a b i ixa ixb c v : Int32} {x y : Int64} (ea : x = s.2 64 ixa.toNatClampNeg) (eb : y = s.2 64 ixb.toNatClampNeg) (lc : c = lg_cmp x y) (ha : 0 ≤ a.toInt) (hb : 0 ≤ b.toInt) (hi : 0 ≤ i.toInt ∧ i.toInt < 17) (hxa : ixa.toInt = 17 * a.toInt + i.toInt) (hxb : ixb.toInt = 17 * b.toInt + i.toInt) (he : ¬ c.toInt = 0) (hv : v.toInt = 0) : q_ik s a b v := by
  have c1 : a.toNatClampNeg = a.toInt.toNat := rfl
  have c2 : b.toNatClampNeg = b.toInt.toNat := rfl
  have c3 : ixa.toNatClampNeg = ixa.toInt.toNat := rfl
  have c4 : ixb.toNatClampNeg = ixb.toInt.toNat := rfl
  refine Or.inr ⟨hv, fun h => he ((q_c1 lc).mpr ?_)⟩
  have := h i.toInt.toNat (by omega)
  rw [show 17 * a.toNatClampNeg + i.toInt.toNat = ixa.toNatClampNeg by omega, show 17 * b.toNatClampNeg + i.toInt.toNat = ixb.toNatClampNeg by omega, ← ea, ← eb] at this
  exact this
theorem q_il3 {s : vg_S} {a b i v : Int32} (h : ∀ j : Nat, (j : Int) < i.toInt → s.2 64 (17 * a.toNatClampNeg + j) = s.2 64 (17 * b.toNatClampNeg + j)) (hi : 17 ≤ i.toInt) (hv : v.toInt = 1) : q_ik s a b v := Or.inl ⟨hv, fun j hj => h j (by omega)⟩
