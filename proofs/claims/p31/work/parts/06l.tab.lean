/-! the class's table of states -/
theorem q_tn {z : Int32} (hz : 0 ≤ z.toInt) : z.toInt = (z.toBitVec.toNat : Int) := by
  have h1 : z.toInt = z.toBitVec.toInt := rfl
  rw [h1, BitVec.toInt_eq_toNat_cond] at hz ⊢
  have h2 := z.toBitVec.isLt
  split at hz
  · rename_i hh
    rw [if_pos hh]
  · omega
theorem q_and {x v : Int32} (e : v = x &&& Int32.ofInt 2047) (h : 0 ≤ x.toInt) : v.toInt = x.toInt % 2048 := by
  have hv := vg_and e (by decide)
  rw [q_tn hv.1, q_tn h, e]
  have h1 : (x &&& Int32.ofInt 2047).toBitVec.toNat = x.toBitVec.toNat % 2048 := by
    show (x.toBitVec &&& (Int32.ofInt 2047).toBitVec).toNat = _
    rw [BitVec.toNat_and, show (Int32.ofInt 2047).toBitVec.toNat = 2 ^ 11 - 1 by decide, Nat.and_two_pow_sub_one_eq_mod]
  rw [h1]
  omega
def q_mx (x : Int32) : Int32 := x ^^^ (x.toUInt32 >>> ((Int32.ofInt 15).toUInt32 &&& Int32.toUInt32 31)).toInt32
def q_hs (w : Nat → Int32) : Nat → Int32
  | 0 => Int32.ofInt 0
  | n + 1 => q_mx ((q_hs w n ^^^ w n) * Int32.ofInt (-1640531535))
theorem q_hs_cg {w w' : Nat → Int32} : ∀ n : Nat, (∀ j : Nat, j < n → w j = w' j) → q_hs w n = q_hs w' n
  | 0, _ => rfl
  | n + 1, h => by rw [q_hs, q_hs, q_hs_cg n (fun j hj => h j (by omega)), h n (by omega)]
def q_W (s : vg_S) (i : Nat) : Nat → Int32 := fun j => s.1 33 (10 * i + j)
theorem q_hs1 {s : vg_S} {a i m x ix v1 v2 v3 v4 i' : Int32} (h : m = q_hs (q_W s a.toNatClampNeg) i.toNatClampNeg) (y0 : x = s.1 33 ix.toNatClampNeg) (e1 : v1 = m ^^^ x) (e2 : v2 = v1 * Int32.ofInt (-1640531535)) (e3 : v3 = (v2.toUInt32 >>> ((Int32.ofInt 15).toUInt32 &&& Int32.toUInt32 31)).toInt32) (e4 : v4 = v2 ^^^ v3) (ha : 0 ≤ a.toInt) (hi : 0 ≤ i.toInt) (hix : ix.toInt = 10 * a.toInt + i.toInt) (hi' : i'.toInt = i.toInt + 1) : v4 = q_hs (q_W s a.toNatClampNeg) i'.toNatClampNeg := by
  have c1 : i.toNatClampNeg = i.toInt.toNat := rfl
  have c2 : i'.toNatClampNeg = i'.toInt.toNat := rfl
  have c3 : a.toNatClampNeg = a.toInt.toNat := rfl
  have c4 : ix.toNatClampNeg = ix.toInt.toNat := rfl
  have hx : x = q_W s a.toNatClampNeg i.toNatClampNeg := by
    rw [y0]
    exact congrArg _ (by omega)
  rw [show i'.toNatClampNeg = i.toNatClampNeg + 1 by omega, q_hs, q_mx, ← h, ← hx, ← e1, ← e2, ← e3]
  exact e4
/-- the cell where the search for state i begins -/
def q_hw (s : vg_S) (i : Nat) : Nat := (q_hs (q_W s i) 10 &&& Int32.ofInt 2047).toInt.toNat
theorem q_hw_lt (s : vg_S) (i : Nat) : q_hw s i < 2048 := by
  have h := vg_and (x := q_hs (q_W s i) 10) (y := Int32.ofInt 2047) (v := q_hs (q_W s i) 10 &&& Int32.ofInt 2047) rfl (by decide)
  have z : (Int32.ofInt 2047).toInt = 2047 := by decide
  unfold q_hw
  omega
def q_sw (s : vg_S) (i k : Nat) : Prop := ∀ j : Nat, j < 10 → s.1 33 (10 * i + j) = s.1 33 (10 * k + j)
theorem q_hw_sw {s : vg_S} {i k : Nat} (h : q_sw s i k) : q_hw s i = q_hw s k := by
  unfold q_hw
  rw [q_hs_cg (w := q_W s i) (w' := q_W s k) 10 h]
theorem q_ss0 {s : vg_S} {a b : Nat} {i : Int32} (hi : i.toInt = 0) : ∀ j : Nat, (j : Int) < i.toInt → s.1 33 (10 * a + j) = s.1 33 (10 * b + j) := fun j hj => by omega
theorem q_ss1 {s : vg_S} {a b i ixa ixb x y i' : Int32} (h : ∀ j : Nat, (j : Int) < i.toInt → s.1 33 (10 * a.toNatClampNeg + j) = s.1 33 (10 * b.toNatClampNeg + j)) (ea : x = s.1 33 ixa.toNatClampNeg) (eb : y = s.1 33 ixb.toNatClampNeg) (ha : 0 ≤ a.toInt) (hb : 0 ≤ b.toInt) (hi : 0 ≤ i.toInt) (hxa : ixa.toInt = 10 * a.toInt + i.toInt) (hxb : ixb.toInt = 10 * b.toInt + i.toInt) (he : x.toInt = y.toInt) (hi' : i'.toInt = i.toInt + 1) : ∀ j : Nat, (j : Int) < i'.toInt → s.1 33 (10 * a.toNatClampNeg + j) = s.1 33 (10 * b.toNatClampNeg + j) := fun j hj => by
  have c1 : a.toNatClampNeg = a.toInt.toNat := rfl
  have c2 : b.toNatClampNeg = b.toInt.toNat := rfl
  have c3 : ixa.toNatClampNeg = ixa.toInt.toNat := rfl
  have c4 : ixb.toNatClampNeg = ixb.toInt.toNat := rfl
  by_cases hji : (j : Int) = i.toInt
  · rw [show 10 * a.toNatClampNeg + j = ixa.toNatClampNeg by omega, show 10 * b.toNatClampNeg + j = ixb.toNatClampNeg by omega, ← ea, ← eb]
    exact vg_eqi he
  · exact h j (by omega)
theorem q_ss2 {s : vg_S} {a b i ixa ixb x y : Int32} (ea : x = s.1 33 ixa.toNatClampNeg) (eb : y = s.1 33 ixb.toNatClampNeg) (ha : 0 ≤ a.toInt) (hb : 0 ≤ b.toInt) (hi : 0 ≤ i.toInt) (h9 : i.toInt < 10) (hxa : ixa.toInt = 10 * a.toInt + i.toInt) (hxb : ixb.toInt = 10 * b.toInt + i.toInt) (he : ¬ x.toInt = y.toInt) : ¬ q_sw s a.toNatClampNeg b.toNatClampNeg := fun h => by
  have c1 : a.toNatClampNeg = a.toInt.toNat := rfl
  have c2 : b.toNatClampNeg = b.toInt.toNat := rfl
  have c3 : ixa.toNatClampNeg = ixa.toInt.toNat := rfl
  have c4 : ixb.toNatClampNeg = ixb.toInt.toNat := rfl
  have := h i.toInt.toNat (by omega)
  rw [show 10 * a.toNatClampNeg + i.toInt.toNat = ixa.toNatClampNeg by omega, show 10 * b.toNatClampNeg + i.toInt.toNat = ixb.toNatClampNeg by omega, ← ea, ← eb] at this
  exact he (congrArg Int32.toInt this)
/-- how many cells are taken -/
def q_nz (f : Nat → Int32) : Nat → Nat
  | 0 => 0
  | n + 1 => q_nz f n + if (f n).toInt = 0 then 0 else 1
theorem q_nz_all {f : Nat → Int32} : ∀ n : Nat, (∀ j : Nat, j < n → ¬ (f j).toInt = 0) → q_nz f n = n
  | 0, _ => rfl
  | n + 1, h => by rw [q_nz, q_nz_all n (fun j hj => h j (by omega)), if_neg (h n (by omega))]
theorem q_nz_none {f : Nat → Int32} : ∀ n : Nat, (∀ j : Nat, j < n → (f j).toInt = 0) → q_nz f n = 0
  | 0, _ => rfl
  | n + 1, h => by rw [q_nz, q_nz_none n (fun j hj => h j (by omega)), if_pos (h n (by omega))]
theorem q_nz_cg {f g : Nat → Int32} : ∀ n : Nat, (∀ j : Nat, j < n → f j = g j) → q_nz f n = q_nz g n
  | 0, _ => rfl
  | n + 1, h => by rw [q_nz, q_nz, q_nz_cg n (fun j hj => h j (by omega)), h n (by omega)]
theorem q_nz_upd {f : Nat → Int32} {x : Nat} {v : Int32} (h0 : (f x).toInt = 0) (hv : ¬ v.toInt = 0) : ∀ n : Nat, x < n → q_nz (upd f x v) n = q_nz f n + 1
  | 0, h => absurd h (by omega)
  | n + 1, h => by
    rw [q_nz, q_nz]
    by_cases hx : x = n
    · subst hx
      rw [q_nz_cg (f := upd f x v) (g := f) x (fun j hj => by simp only [upd]; rw [if_neg (by omega)]), if_pos h0, show upd f x v x = v by simp only [upd, if_true], if_neg hv]
    · rw [q_nz_upd h0 hv n (by omega), show upd f x v n = f n by simp only [upd]; rw [if_neg (by omega)]]
      omega
def q_tb (s : vg_S) (n : Nat) : Prop := q_nz (s.1 34) 2048 = n ∧ ∀ i : Nat, i < n → ∃ d : Nat, d < 2048 ∧ (s.1 34 ((q_hw s i + d) % 2048)).toInt = (i : Int) + 1 ∧ ∀ e : Nat, e < d → ¬ (s.1 34 ((q_hw s i + e) % 2048)).toInt = 0
/-- the search -/
def q_fpI (z : vg_S) (n h : Nat) (e : Int) : Prop := ∀ d : Nat, (d : Int) < e → ¬ (z.1 34 ((h + d) % 2048)).toInt = 0 ∧ ¬ q_sw z ((z.1 34 ((h + d) % 2048)).toInt - 1).toNat n
theorem q_fp0 {z : vg_S} {n h : Nat} {e : Int} (he : e = 0) : q_fpI z n h e := fun d hd => by omega
theorem q_fpx {h e c v : Int32} (e1 : c = h + e) (e2 : v = c &&& Int32.ofInt 2047) (hh : 0 ≤ h.toInt ∧ h.toInt ≤ 2047) (he : 0 ≤ e.toInt ∧ e.toInt ≤ 2047) : v.toNatClampNeg = (h.toInt.toNat + e.toInt.toNat) % 2048 := by
  have c1 : v.toNatClampNeg = v.toInt.toNat := rfl
  have b1 := vg_add e1 (by omega) (by omega)
  have b2 := q_and e2 (by omega)
  omega
theorem q_fp1 {z : vg_S} {n h x : Nat} {e e' : Int} {v : Int32} (hI : q_fpI z n h e) (hx : x = (h + e.toNat) % 2048) (ae : v = z.1 34 x) (h0 : 0 ≤ e) (hv : ¬ v.toInt = 0) (hs : ¬ q_sw z (v.toInt - 1).toNat n) (he : e' = e + 1) : q_fpI z n h e' := fun d hd => by
  by_cases hde : (d : Int) = e
  · rw [show (h + d) % 2048 = x by rw [hx, show e.toNat = d by omega], ← ae]
    exact ⟨hv, hs⟩
  · exact hI d (by omega)
theorem q_fp2 {z : vg_S} {n h : Nat} {e : Int} (hb : q_tb z n) (hh : h = q_hw z n) (hI : q_fpI z n h e) (h0 : 0 ≤ e) (hc : (z.1 34 ((h + e.toNat) % 2048)).toInt = 0) : ∀ i : Nat, i < n → ¬ q_sw z i n := fun i hi hs => by
  obtain ⟨d, hd, c1, c2⟩ := hb.2 i hi
  rw [q_hw_sw hs, ← hh] at c1 c2
  rcases Nat.lt_trichotomy d e.toNat with q | q | q
  · have := (hI d (by omega)).2
    rw [c1, show ((i : Int) + 1 - 1).toNat = i by omega] at this
    exact this hs
  · rw [q] at c1
    omega
  · exact c2 e.toNat q hc
theorem q_fp3 {z t : vg_S} {n h x : Nat} {e : Int} {v : Int32} (hb : q_tb z n) (hh : h = q_hw z n) (hI : q_fpI z n h e) (h0 : 0 ≤ e) (he : e < 2048) (hx : x = (h + e.toNat) % 2048) (hc : (z.1 34 x).toInt = 0) (hv : v.toInt = (n : Int) + 1) (ee : t = vg_u1 z 34 x v) : q_tb t (n + 1) := by
  have r34 : t.1 34 = upd (z.1 34) x v := by rw [ee, q_row]
  have r33 : t.1 33 = z.1 33 := by rw [ee, vg_u1_ne (by decide)]
  have hw : ∀ i, q_hw t i = q_hw z i := fun i => by
    unfold q_hw q_W
    rw [r33]
  have nz : ∀ q : Nat, ¬ (z.1 34 q).toInt = 0 → t.1 34 q = z.1 34 q := fun q hq => by
    rw [r34]
    simp only [upd]
    rw [if_neg (by intro g; rw [g] at hq; exact hq hc)]
  refine ⟨by rw [r34, q_nz_upd hc (by omega) 2048 (by omega), hb.1], fun i hi => ?_⟩
  rw [hw]
  by_cases hin : i = n
  · subst hin
    refine ⟨e.toNat, by omega, ?_, fun d hd => ?_⟩
    · rw [← hh, ← hx, r34]
      simp only [upd, if_true]
      exact hv
    · have h1 := (hI d (by omega)).1
      rw [← hh, nz _ h1]
      exact h1
  · obtain ⟨d, hd, c1, c2⟩ := hb.2 i (by omega)
    refine ⟨d, hd, ?_, fun e' he' => ?_⟩
    · rw [nz _ (by omega)]
      exact c1
    · rw [nz _ (c2 e' he')]
      exact c2 e' he'
theorem q_fp4 {z : vg_S} {n h : Nat} {e : Int} (hb : q_tb z n) (hn : n ≤ 1000) (hh : h < 2048) (hI : q_fpI z n h e) (he : 2048 ≤ e) : False := by
  have h1 := q_nz_all (f := z.1 34) 2048 (fun j hj => by
    have := (hI ((j + 2048 - h) % 2048) (by omega)).1
    rw [show (h + (j + 2048 - h) % 2048) % 2048 = j by omega] at this
    exact this)
  have := hb.1
  omega
/-! words that are written -/
def q_ws (s : vg_S) (j : Nat) : Int32 := if j < 4 then s.1 24 j else if j = 4 ∧ (s.1 23 0).toInt = 1 then s.1 22 3 else s.1 25 (j - 4)
def q_ww (z t : vg_S) (a : Int) : Prop := (∀ m, m ≠ 33 → t.1 m = z.1 m) ∧ ∀ j : Nat, t.1 33 j = if a ≤ (j : Int) ∧ (j : Int) < a + 10 then q_ws z ((j : Int) - a).toNat else z.1 33 j
theorem q_w1row {σ : vg_S} {k : Nat} {f : Nat → Int32} : (vg_w1 σ k f).1 k = f := by simp only [vg_w1, if_true]
theorem q_ww0 {z s1 s2 : vg_S} {a b : Int32} (e1 : s1 = vg_w1 z 33 (va_cpy (z.1 24) (z.1 33) (Int32.ofInt 0).toNatClampNeg a.toNatClampNeg (Int32.ofInt 4).toNatClampNeg)) (e2 : s2 = vg_w1 s1 33 (va_cpy (s1.1 25) (s1.1 33) (Int32.ofInt 0).toNatClampNeg b.toNatClampNeg (Int32.ofInt 6).toNatClampNeg)) (ha : 0 ≤ a.toInt) (hb : b.toInt = a.toInt + 4) : (∀ m, m ≠ 33 → s2.1 m = z.1 m) ∧ ∀ j : Nat, s2.1 33 j = if a.toInt ≤ (j : Int) ∧ (j : Int) < a.toInt + 10 then (if ((j : Int) - a.toInt).toNat < 4 then z.1 24 ((j : Int) - a.toInt).toNat else z.1 25 (((j : Int) - a.toInt).toNat - 4)) else z.1 33 j := by
  have c1 : a.toNatClampNeg = a.toInt.toNat := rfl
  have c2 : b.toNatClampNeg = b.toInt.toNat := rfl
  have n6 : (Int32.ofInt 6).toNatClampNeg = 6 := by decide
  rw [q_n0, q_n4] at e1
  rw [q_n0, n6] at e2
  have a25 : s1.1 25 = z.1 25 := by rw [e1, vg_w1_at (by decide)]
  refine ⟨fun m hm => by rw [e2, vg_w1_at hm, e1, vg_w1_at hm], fun j => ?_⟩
  rw [e2, q_w1row, a25, e1, q_w1row]
  unfold va_cpy
  by_cases h2 : b.toNatClampNeg ≤ j ∧ j < b.toNatClampNeg + 6
  · rw [if_pos h2, if_pos (by omega), if_neg (by omega)]
    exact congrArg _ (by omega)
  · rw [if_neg h2]
    by_cases h1 : a.toNatClampNeg ≤ j ∧ j < a.toNatClampNeg + 4
    · rw [if_pos h1, if_pos (by omega), if_pos (by omega)]
      exact congrArg _ (by omega)
    · rw [if_neg h1, if_neg (by omega)]
theorem q_ww1 {z t : vg_S} {a : Int} (h : (∀ m, m ≠ 33 → t.1 m = z.1 m) ∧ ∀ j : Nat, t.1 33 j = if a ≤ (j : Int) ∧ (j : Int) < a + 10 then (if ((j : Int) - a).toNat < 4 then z.1 24 ((j : Int) - a).toNat else z.1 25 (((j : Int) - a).toNat - 4)) else z.1 33 j) (hK : ¬ (z.1 23 0).toInt = 1) : q_ww z t a := by
  refine ⟨h.1, fun j => ?_⟩
  rw [h.2 j]
  unfold q_ws
  rw [if_neg (c := ((j : Int) - a).toNat = 4 ∧ (z.1 23 0).toInt = 1) (fun q => hK q.2)]
theorem q_ww2 {z s t : vg_S} {a : Int} {ix v : Int32} (h : (∀ m, m ≠ 33 → s.1 m = z.1 m) ∧ ∀ j : Nat, s.1 33 j = if a ≤ (j : Int) ∧ (j : Int) < a + 10 then (if ((j : Int) - a).toNat < 4 then z.1 24 ((j : Int) - a).toNat else z.1 25 (((j : Int) - a).toNat - 4)) else z.1 33 j) (hK : (z.1 23 0).toInt = 1) (hv : v = s.1 22 3) (ee : t = vg_u1 s 33 ix.toNatClampNeg v) (ha : 0 ≤ a) (hix : ix.toInt = a + 4) : q_ww z t a := by
  have c1 : ix.toNatClampNeg = ix.toInt.toNat := rfl
  refine ⟨fun m hm => by rw [ee, vg_u1_ne hm]; exact h.1 m hm, fun j => ?_⟩
  rw [ee, vg_u1_if]
  unfold q_ws
  by_cases hj : j = ix.toNatClampNeg
  · have h4 : ¬ ((j : Int) - a).toNat < 4 := by omega
    have h5 : ((j : Int) - a).toNat = 4 ∧ (z.1 23 0).toInt = 1 := ⟨by omega, hK⟩
    rw [if_pos hj, if_pos (by omega), if_neg h4, if_pos h5, hv, h.1 22 (by decide)]
  · rw [if_neg hj, h.2 j]
    by_cases hr : a ≤ (j : Int) ∧ (j : Int) < a + 10
    · rw [if_pos hr, if_pos hr]
      by_cases h4 : ((j : Int) - a).toNat < 4
      · rw [if_pos h4, if_pos h4]
      · have h5 : ¬ (((j : Int) - a).toNat = 4 ∧ (z.1 23 0).toInt = 1) := fun q => by omega
        rw [if_neg h4, if_neg h4, if_neg h5]
    · rw [if_neg hr, if_neg hr]
/-! a tone is followed -/
def q_fP (z s : vg_S) (u : Int32) (n : Nat) : Prop := q_ag (s.1 24) (s.1 25) (s.1 22 3) (q_it (q_plC z 4) u n)
def q_fQ (z s : vg_S) (u : Int32) (n m : Nat) : Prop := (∀ j : Nat, j < 6 → s.1 23 j = z.1 4 j) ∧ (s.1 23 6).toInt = 0 ∧ (∀ i : Nat, i < m → ∀ j : Nat, j < 10 → s.1 33 (10 * i + j) = q_wd (z.1 4 0) (q_it (q_plC z 4) u i) j) ∧ (∀ i : Nat, i < n → i < 1000 → s.1 32 i = q_out (q_plC z 4) u i)
def q_fI (z s : vg_S) (u : Int32) (n : Nat) : Prop := (n ≤ 1000 → q_fP z s u n) ∧ q_fQ z s u n n ∧ q_ds (q_plC z 4) u (n : Int) ∧ q_tb s n
theorem q_f0 {z s1 s2 s3 s4 s5 : vg_S} {u w a b c : Int32} (hb : q_btR z s1) (hf : (∀ j : Nat, s2.1 34 j = if j < 2048 then w else s1.1 34 j) ∧ ∀ m, m ≠ 34 → s2.1 m = s1.1 m) (hw : w = Int32.ofInt 0) (e1 : s3 = vg_u1 s2 31 3 a) (e2 : s4 = vg_u1 s3 31 4 b) (e3 : s5 = vg_u1 s4 31 5 c) : q_fI z s5 u 0 := by
  have k : ∀ m, m ≠ 31 → s5.1 m = s2.1 m := fun m hm => by rw [e3, vg_u1_ne hm, e2, vg_u1_ne hm, e1, vg_u1_ne hm]
  have k2 : ∀ m, m ≠ 31 → m ≠ 34 → s5.1 m = s1.1 m := fun m h1 h2 => by rw [k m h1, hf.2 m h2]
  refine ⟨fun _ => ?_, ⟨fun j hj => ?_, ?_, fun i hi => absurd hi (by omega), fun i hi => absurd hi (by omega)⟩, fun k hk => absurd hk (by omega), ?_, fun i hi => absurd hi (by omega)⟩
  · unfold q_fP
    rw [k2 24 (by decide) (by decide), k2 25 (by decide) (by decide), k2 22 (by decide) (by decide)]
    exact q_ag0 hb.2.2.1 hb.2.2.2.1 hb.2.2.2.2
  · rw [k2 23 (by decide) (by decide)]
    exact hb.1 j hj
  · rw [k2 23 (by decide) (by decide)]
    exact hb.2.1
  · refine q_nz_none 2048 (fun j hj => ?_)
    rw [k 34 (by decide), hf.1 j, if_pos hj, hw]
    decide
/-- the words are written -/
theorem q_f1 {z s t : vg_S} {u : Int32} {n : Nat} {a : Int} (h : q_fI z s u n) (hn : n ≤ 1000) (hw : q_ww s t a) (ha : a = 10 * (n : Int)) : q_fP z t u n ∧ q_fQ z t u n (n + 1) ∧ q_ds (q_plC z 4) u (n : Int) ∧ q_tb t n := by
  obtain ⟨h1, ⟨h2, h3, h4, h5⟩, h6, h7⟩ := h
  have hP := h1 hn
  have hK : (s.1 23 0).toInt = (z.1 4 0).toInt := by rw [h2 0 (by decide)]
  have hlo : ∀ i : Nat, i < n → ∀ j : Nat, j < 10 → t.1 33 (10 * i + j) = s.1 33 (10 * i + j) := fun i hi j hj => by
    rw [hw.2, if_neg (by omega)]
  refine ⟨?_, ⟨fun j hj => by rw [hw.1 23 (by decide)]; exact h2 j hj, by rw [hw.1 23 (by decide)]; exact h3, fun i hi j hj => ?_, fun i hi hi2 => by rw [hw.1 32 (by decide)]; exact h5 i hi hi2⟩, h6, ?_, fun i hi => ?_⟩
  · unfold q_fP
    rw [hw.1 24 (by decide), hw.1 25 (by decide), hw.1 22 (by decide)]
    exact hP
  · by_cases hin : i = n
    · subst hin
      rw [hw.2, if_pos (by omega), show (((10 * i + j : Nat) : Int) - a).toNat = j by omega]
      unfold q_ws q_wd
      by_cases hj4 : j < 4
      · rw [if_pos hj4, if_pos hj4]
        exact hP.1 j hj4
      · rw [if_neg hj4, if_neg hj4]
        by_cases hk : j = 4 ∧ (z.1 4 0).toInt = 1
        · rw [if_pos hk, if_pos ⟨hk.1, by omega⟩]
          exact hP.2.2
        · rw [if_neg hk, if_neg (fun q => hk ⟨q.1, by omega⟩)]
          exact hP.2.1 _ (by omega)
    · rw [hlo i (by omega) j hj]
      exact h4 i (by omega) j hj
  · rw [hw.1 34 (by decide)]
    exact h7.1
  · have hq : q_hw t i = q_hw s i := by
      unfold q_hw
      rw [q_hs_cg (w := q_W t i) (w' := q_W s i) 10 (fun j hj => hlo i hi j hj)]
    rw [hq, hw.1 34 (by decide)]
    exact h7.2 i hi
theorem q_f_sw {z s : vg_S} {u : Int32} {n m i k : Nat} (h : q_fQ z s u n m) (hi : i < m) (hk : k < m) : q_sw s i k ↔ q_same (q_plC z 4) u i k := by
  rw [← q_wd_same]
  constructor
  · intro g j hj
    have := g j hj
    rw [h.2.2.1 i hi j hj, h.2.2.1 k hk j hj] at this
    exact this
  · intro g j hj
    rw [h.2.2.1 i hi j hj, h.2.2.1 k hk j hj]
    exact g j hj
/-- it comes round -/
theorem q_f2 {z s t : vg_S} {u v : Int32} {n : Nat} (hQ : q_fQ z s u n (n + 1)) (hd : q_ds (q_plC z 4) u (n : Int)) (hn : n ≤ 1000) (hv : 0 ≤ v.toInt ∧ v.toInt < (n : Int)) (hs : q_sw s v.toInt.toNat n) (h32 : t.1 32 = s.1 32) {c l p : Int32} (e3 : t.1 31 3 = c) (e4 : t.1 31 4 = l) (e5 : t.1 31 5 = p) (hc : c.toInt = 1) (hl : l.toInt = v.toInt) (hp : p.toInt = (n : Int) - v.toInt) : (t.1 31 3).toInt = 1 ∧ q_rd (q_plC z 4) u (t.1 31 4).toInt (t.1 31 5).toInt ∧ ∀ j : Nat, (j : Int) < (t.1 31 4).toInt + (t.1 31 5).toInt → t.1 32 j = q_out (q_plC z 4) u j := by
  rw [e3, e4, e5, hl, hp, show v.toInt + ((n : Int) - v.toInt) = (n : Int) by omega]
  refine ⟨hc, ⟨by omega, by omega, by omega, ?_, ?_⟩, fun j hj => ?_⟩
  · rw [show (v.toInt + ((n : Int) - v.toInt)).toNat = n by omega]
    exact (q_f_sw hQ (by omega) (by omega)).mp hs
  · rw [show v.toInt + ((n : Int) - v.toInt) = (n : Int) by omega]
    exact hd
  · rw [h32]
    exact hQ.2.2.2 j (by omega) (by omega)
/-- it doesn't yet -/
theorem q_f3 {z s t : vg_S} {u : Int32} {n : Nat} (hP : q_fP z s u n) (hQ : q_fQ z s u n (n + 1)) (hd : q_ds (q_plC z 4) u (n : Int)) (hk : ∀ m, m ≠ 34 → t.1 m = s.1 m) (hs : ∀ i : Nat, i < n → ¬ q_sw s i n) (hb : q_tb t (n + 1)) : q_fP z t u n ∧ q_fQ z t u n (n + 1) ∧ q_ds (q_plC z 4) u ((n : Int) + 1) ∧ q_tb t (n + 1) := by
  refine ⟨?_, ⟨fun j hj => by rw [hk 23 (by decide)]; exact hQ.1 j hj, by rw [hk 23 (by decide)]; exact hQ.2.1, fun i hi j hj => by rw [hk 33 (by decide)]; exact hQ.2.2.1 i hi j hj, fun i hi hi2 => by rw [hk 32 (by decide)]; exact hQ.2.2.2 i hi hi2⟩, fun k hkn i hi => ?_, hb⟩
  · unfold q_fP
    rw [hk 24 (by decide), hk 25 (by decide), hk 22 (by decide)]
    exact hP
  · by_cases hkn2 : k = n
    · subst hkn2
      exact fun g => hs i hi ((q_f_sw hQ (by omega) (by omega)).mpr g)
    · exact hd k (by omega) i hi
/-- the last -/
theorem q_f4 {z t : vg_S} {u : Int32} {n : Nat} (h : q_fP z t u n ∧ q_fQ z t u n (n + 1) ∧ q_ds (q_plC z 4) u ((n : Int) + 1) ∧ q_tb t (n + 1)) (hn : n = 1000) : q_fI z t u (n + 1) := by
  obtain ⟨h1, ⟨h2, h3, h4, h5⟩, h6, h7⟩ := h
  refine ⟨fun q => absurd q (by omega), ⟨h2, h3, h4, fun i hi hi2 => h5 i (by omega) hi2⟩, ?_, h7⟩
  rw [show ((n + 1 : Nat) : Int) = (n : Int) + 1 by omega]
  exact h6
/-- a clock on -/
theorem q_f5 {z s t t' : vg_S} {u v ix : Int32} {n : Nat} (h : q_fP z s u n ∧ q_fQ z s u n (n + 1) ∧ q_ds (q_plC z 4) u ((n : Int) + 1) ∧ q_tb s (n + 1)) (ha : q_ad s t 22 u v) (k33 : ∀ j, t.1 33 j = s.1 33 j) (k32 : ∀ j, t.1 32 j = s.1 32 j) (k34 : ∀ j, t.1 34 j = s.1 34 j) (hN : (z.1 4 1).toInt ≤ 4) (ee : t' = vg_u1 t 32 ix.toNatClampNeg v) (hix : ix.toInt = (n : Int)) : q_fI z t' u (n + 1) := by
  obtain ⟨h1, ⟨h2, h3, h4, h5⟩, h6, h7⟩ := h
  have c1 : ix.toNatClampNeg = ix.toInt.toNat := rfl
  have hr : t.1 23 = s.1 23 := ha.1
  have hs := ha.2 h3
  have hP := q_plC_k h2
  have hs' : v = (q_stp (q_plC z 4) u (Int32.ofInt 0) (s.1 24) (s.1 25) (s.1 22 3)).1 ∧ t.1 24 = (q_stp (q_plC z 4) u (Int32.ofInt 0) (s.1 24) (s.1 25) (s.1 22 3)).2.1 ∧ t.1 25 = (q_stp (q_plC z 4) u (Int32.ofInt 0) (s.1 24) (s.1 25) (s.1 22 3)).2.2.1 ∧ t.1 22 3 = (q_stp (q_plC z 4) u (Int32.ofInt 0) (s.1 24) (s.1 25) (s.1 22 3)).2.2.2 := by
    rw [← hP]
    exact hs
  have h9 := q_ag1 (P := q_plC z 4) (u := u) hN h1 hs'
  have k : ∀ m, m ≠ 32 → t'.1 m = t.1 m := fun m hm => by rw [ee, vg_u1_ne hm]
  have f33 : t'.1 33 = s.1 33 := by rw [k 33 (by decide)]; exact funext k33
  have f34 : t'.1 34 = s.1 34 := by rw [k 34 (by decide)]; exact funext k34
  refine ⟨fun _ => ?_, ⟨fun j hj => by rw [k 23 (by decide), hr]; exact h2 j hj, by rw [k 23 (by decide), hr]; exact h3, fun i hi j hj => by rw [f33]; exact h4 i hi j hj, fun i hi hi2 => ?_⟩, ?_, by rw [f34]; exact h7.1, fun i hi => ?_⟩
  · unfold q_fP
    rw [k 24 (by decide), k 25 (by decide), k 22 (by decide)]
    exact h9.2
  · rw [ee, vg_u1_if]
    by_cases hin : i = n
    · rw [if_pos (by omega), hin]
      exact h9.1
    · rw [if_neg (by omega), k32]
      exact h5 i (by omega) hi2
  · rw [show ((n + 1 : Nat) : Int) = (n : Int) + 1 by omega]
    exact h6
  · have hq : q_hw t' i = q_hw s i := by
      unfold q_hw q_W
      rw [f33]
    rw [hq, f34]
    exact h7.2 i hi
def q_fR (z t : vg_S) (u : Int32) : Prop := ((t.1 31 3).toInt = 1 ∧ q_rd (q_plC z 4) u (t.1 31 4).toInt (t.1 31 5).toInt ∧ ∀ j : Nat, (j : Int) < (t.1 31 4).toInt + (t.1 31 5).toInt → t.1 32 j = q_out (q_plC z 4) u j) ∨ ((t.1 31 3).toInt = 0 ∧ q_ds (q_plC z 4) u 1001)
theorem q_f6 {z s : vg_S} {u : Int32} {n : Nat} (h : q_fI z s u n) (hn : n = 1001) (h3 : (s.1 31 3).toInt = 0) : q_fR z s u := Or.inr ⟨h3, by have := h.2.2.1; rw [hn] at this; exact this⟩
