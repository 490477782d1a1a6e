/-! one clock of the loop -/
/-- the told: kind, order, step, levels, limit, calm -/
abbrev q_P : Type := Int32 × Int32 × Int32 × Int32 × Int32 × Int32
def q_plC (σ : vg_S) (k : Nat) : q_P := (σ.1 k 0, σ.1 k 1, σ.1 k 2, σ.1 k 3, σ.1 k 4, σ.1 k 5)
def q_plR (σ : vg_S) : q_P := (σ.1 55 7, σ.1 55 8, σ.1 55 9, σ.1 55 10, σ.1 55 11, σ.1 55 14)
/-- errors, shaped -/
def q_shv (N : Int32) (e : Nat → Int32) : Int32 := if N.toInt = 1 then e 0 else if N.toInt = 2 then Int32.ofInt 2 * e 0 - e 1 else if N.toInt = 3 then Int32.ofInt 3 * e 0 - Int32.ofInt 3 * e 1 + e 2 else Int32.ofInt 4 * e 0 - Int32.ofInt 6 * e 1 + Int32.ofInt 4 * e 2 - e 3
def q_shift (N er : Int32) (e : Nat → Int32) : Nat → Int32 := fun j => if j = 0 then er else if (j : Int) < N.toInt then e (j - 1) else e j
/-- sums: the row, what comes, whether there was a hit -/
def q_sm (M V u : Int32) (e : Nat → Int32) : Nat → (Nat → Int32) × Int32 × Bool
  | 0 => (e, u, false)
  | n + 1 => (upd (q_sm M V u e n).1 n (q_held M ((q_sm M V u e n).1 n + (q_sm M V u e n).2.1 - V)), q_held M ((q_sm M V u e n).1 n + (q_sm M V u e n).2.1 - V), (q_sm M V u e n).2.2 || q_ht ((q_sm M V u e n).1 n + (q_sm M V u e n).2.1 - V) (q_held M ((q_sm M V u e n).1 n + (q_sm M V u e n).2.1 - V)))
/-- what a small loop adds -/
def q_df (n : Nat) (o : Int32) (p : Nat → Int32) : Int32 := match n with
  | 1 => o - p 0
  | 2 => o - Int32.ofInt 2 * p 1 + p 2
  | 3 => o - Int32.ofInt 3 * p 3 + Int32.ofInt 3 * p 4 - p 5
  | _ => o
/-- what small loops told, moved behind place j -/
def q_pj (n j : Nat) (p : Nat → Int32) : Nat → Int32 := match n, j with
  | 2, 0 => upd p 2 (p 1)
  | 3, 1 => upd p 5 (p 4)
  | 3, 0 => upd (upd p 5 (p 4)) 4 (p 3)
  | _, _ => p
def q_pp (n : Nat) (o : Int32) (p : Nat → Int32) : Nat → Int32 := match n with
  | 1 => upd (q_pj 1 0 p) 0 o
  | 2 => upd (q_pj 2 0 p) 1 o
  | 3 => upd (q_pj 3 0 p) 3 o
  | _ => p
/-- a cascade: errors, what was told, what comes, the out, whether there was a hit -/
abbrev q_F : Type := (Nat → Int32) × (Nat → Int32) × Int32 × Int32 × Bool
def q_cw (n : Nat) (s : q_F) : Int32 := s.2.2.1 + s.1 n
def q_co (S L d : Int32) (n : Nat) (s : q_F) : Int32 := q_near S L (if n = 0 then q_cw n s + d else q_cw n s)
def q_cx (S L d : Int32) (n : Nat) (s : q_F) : Int32 := q_cw n s - q_val S L (q_co S L d n s)
def q_cs (S L M u d b : Int32) (e p : Nat → Int32) : Nat → q_F
  | 0 => (e, p, u, b, false)
  | n + 1 => (upd (q_cs S L M u d b e p n).1 n (q_held M (q_cx S L d n (q_cs S L M u d b e p n))), q_pp n (q_co S L d n (q_cs S L M u d b e p n)) (q_cs S L M u d b e p n).2.1, q_held M (q_cx S L d n (q_cs S L M u d b e p n)), (q_cs S L M u d b e p n).2.2.2.1 + q_df n (q_co S L d n (q_cs S L M u d b e p n)) (q_cs S L M u d b e p n).2.1, (q_cs S L M u d b e p n).2.2.2.2 || q_ht (q_cx S L d n (q_cs S L M u d b e p n)) (q_held M (q_cx S L d n (q_cs S L M u d b e p n))))
def q_z4 (e : Nat → Int32) : Nat → Int32 := fun j => if j < 4 then Int32.ofInt 0 else e j
/-- errors: what is told, what is left -/
def q_ey (N S L u d : Int32) (e : Nat → Int32) : Int32 := q_near S L (u + q_shv N e + d)
def q_ex (N S L u d b : Int32) (e : Nat → Int32) : Int32 := u + q_shv N e - q_val S L (q_ey N S L u d e - b)
/-- a clock ahead of calm: out, states, past, whether there was a hit -/
abbrev q_Y : Type := Int32 × (Nat → Int32) × (Nat → Int32) × Bool
def q_yS (P : q_P) (u d : Int32) (e p : Nat → Int32) (V : Int32) : q_Y := (q_near P.2.2.1 P.2.2.2.1 ((q_sm P.2.2.2.2.1 V u e P.2.1.toNatClampNeg).2.1 + d), (q_sm P.2.2.2.2.1 V u e P.2.1.toNatClampNeg).1, p, (q_sm P.2.2.2.2.1 V u e P.2.1.toNatClampNeg).2.2)
def q_cF (P : q_P) (u d : Int32) (e p : Nat → Int32) (n : Nat) : q_F := q_cs P.2.2.1 P.2.2.2.1 P.2.2.2.2.1 u d (q_bes P.1 P.2.1 P.2.2.2.1) e p n
def q_yC (P : q_P) (u d : Int32) (e p : Nat → Int32) : q_Y := ((q_cF P u d e p P.2.1.toNatClampNeg).2.2.2.1, (q_cF P u d e p P.2.1.toNatClampNeg).1, (q_cF P u d e p P.2.1.toNatClampNeg).2.1, (q_cF P u d e p P.2.1.toNatClampNeg).2.2.2.2)
def q_eX (P : q_P) (u d : Int32) (e : Nat → Int32) : Int32 := q_ex P.2.1 P.2.2.1 P.2.2.2.1 u d (q_bes P.1 P.2.1 P.2.2.2.1) e
def q_yE (P : q_P) (u d : Int32) (e p : Nat → Int32) : q_Y := (q_ey P.2.1 P.2.2.1 P.2.2.2.1 u d e, q_shift P.2.1 (q_held P.2.2.2.2.1 (q_eX P u d e)) e, p, q_ht (q_eX P u d e) (q_held P.2.2.2.2.1 (q_eX P u d e)))
def q_yy (P : q_P) (u d : Int32) (e p : Nat → Int32) (V : Int32) : q_Y := if P.1.toInt = 1 then q_yS P u d e p V else if P.1.toInt = 2 then q_yC P u d e p else q_yE P u d e p
/-- a clock: out, states, past, value -/
def q_stp (P : q_P) (u d : Int32) (e p : Nat → Int32) (V : Int32) : Int32 × (Nat → Int32) × (Nat → Int32) × Int32 :=
  ((q_yy P u d e p V).1, (if ¬ P.2.2.2.2.2.toInt = 0 ∧ (q_yy P u d e p V).2.2.2 = true then q_z4 (q_yy P u d e p V).2.1 else (q_yy P u d e p V).2.1), (q_yy P u d e p V).2.2.1, q_val P.2.2.1 P.2.2.2.1 ((q_yy P u d e p V).1 - q_bes P.1 P.2.1 P.2.2.2.1))
abbrev q_Q : Type := (Nat → Int32) × (Nat → Int32) × Int32
def q_it (P : q_P) (u : Int32) : Nat → q_Q
  | 0 => (fun _ => Int32.ofInt 0, fun _ => Int32.ofInt 0, Int32.ofInt 0)
  | n + 1 => (q_stp P u (Int32.ofInt 0) (q_it P u n).1 (q_it P u n).2.1 (q_it P u n).2.2).2
def q_out (P : q_P) (u : Int32) (n : Nat) : Int32 := (q_stp P u (Int32.ofInt 0) (q_it P u n).1 (q_it P u n).2.1 (q_it P u n).2.2).1
/-! rows that agree as far as they reach -/
def q_ag (e p : Nat → Int32) (V : Int32) (Q : q_Q) : Prop := (∀ j : Nat, j < 4 → e j = Q.1 j) ∧ (∀ j : Nat, j < 6 → p j = Q.2.1 j) ∧ V = Q.2.2
theorem q_upd_cg {n m : Nat} {e f : Nat → Int32} {x y : Int32} (h : ∀ j : Nat, j < n → e j = f j) (hx : x = y) : ∀ j : Nat, j < n → upd e m x j = upd f m y j := fun j hj => by
  simp only [upd]
  rw [hx, h j hj]
theorem q_shv_cg {N : Int32} {e f : Nat → Int32} (h : ∀ j : Nat, j < 4 → e j = f j) : q_shv N e = q_shv N f := by
  unfold q_shv
  rw [h 0 (by decide), h 1 (by decide), h 2 (by decide), h 3 (by decide)]
theorem q_shift_cg {N x : Int32} {e f : Nat → Int32} (h : ∀ j : Nat, j < 4 → e j = f j) : ∀ j : Nat, j < 4 → q_shift N x e j = q_shift N x f j := fun j hj => by
  unfold q_shift
  rw [h j hj, h (j - 1) (by omega)]
theorem q_sm_cg {M V u : Int32} {e f : Nat → Int32} (h : ∀ j : Nat, j < 4 → e j = f j) : ∀ n : Nat, n ≤ 4 → (∀ j : Nat, j < 4 → (q_sm M V u e n).1 j = (q_sm M V u f n).1 j) ∧ (q_sm M V u e n).2 = (q_sm M V u f n).2
  | 0, _ => ⟨h, rfl⟩
  | n + 1, hn => by
    have ih := q_sm_cg (M := M) (V := V) (u := u) h n (by omega)
    rw [q_sm, q_sm]
    dsimp only
    rw [ih.1 n (by omega), ih.2]
    exact ⟨q_upd_cg ih.1 rfl, rfl⟩
theorem q_df_cg {n : Nat} {o : Int32} {p q : Nat → Int32} (h : ∀ j : Nat, j < 6 → p j = q j) : q_df n o p = q_df n o q := by
  unfold q_df
  split
  · rw [h 0 (by decide)]
  · rw [h 1 (by decide), h 2 (by decide)]
  · rw [h 3 (by decide), h 4 (by decide), h 5 (by decide)]
  · rfl
theorem q_pp_cg {n : Nat} {o : Int32} {p q : Nat → Int32} (h : ∀ j : Nat, j < 6 → p j = q j) : ∀ j : Nat, j < 6 → q_pp n o p j = q_pp n o q j := by
  unfold q_pp
  split
  · exact q_upd_cg h rfl
  · exact q_upd_cg (q_upd_cg h (h 1 (by decide))) rfl
  · exact q_upd_cg (q_upd_cg (q_upd_cg h (h 4 (by decide))) (h 3 (by decide))) rfl
  · exact h
theorem q_cs_cg {S L M u d b : Int32} {e f p q : Nat → Int32} (he : ∀ j : Nat, j < 4 → e j = f j) (hp : ∀ j : Nat, j < 6 → p j = q j) : ∀ n : Nat, n ≤ 4 → (∀ j : Nat, j < 4 → (q_cs S L M u d b e p n).1 j = (q_cs S L M u d b f q n).1 j) ∧ (∀ j : Nat, j < 6 → (q_cs S L M u d b e p n).2.1 j = (q_cs S L M u d b f q n).2.1 j) ∧ (q_cs S L M u d b e p n).2.2 = (q_cs S L M u d b f q n).2.2
  | 0, _ => ⟨he, hp, rfl⟩
  | n + 1, hn => by
    have ih := q_cs_cg (S := S) (L := L) (M := M) (u := u) (d := d) (b := b) he hp n (by omega)
    have w : q_cw n (q_cs S L M u d b e p n) = q_cw n (q_cs S L M u d b f q n) := by
      unfold q_cw
      rw [ih.1 n (by omega), ih.2.2]
    have o : q_co S L d n (q_cs S L M u d b e p n) = q_co S L d n (q_cs S L M u d b f q n) := by
      unfold q_co
      rw [w]
    have x : q_cx S L d n (q_cs S L M u d b e p n) = q_cx S L d n (q_cs S L M u d b f q n) := by
      unfold q_cx
      rw [w, o]
    rw [q_cs, q_cs]
    dsimp only
    rw [x, o, q_df_cg ih.2.1, ih.2.2]
    exact ⟨q_upd_cg ih.1 rfl, q_pp_cg ih.2.1, rfl⟩
theorem q_yy_cg {P : q_P} {u d V : Int32} {e f p q : Nat → Int32} (hN : P.2.1.toInt ≤ 4) (he : ∀ j : Nat, j < 4 → e j = f j) (hp : ∀ j : Nat, j < 6 → p j = q j) : (q_yy P u d e p V).1 = (q_yy P u d f q V).1 ∧ (∀ j : Nat, j < 4 → (q_yy P u d e p V).2.1 j = (q_yy P u d f q V).2.1 j) ∧ (∀ j : Nat, j < 6 → (q_yy P u d e p V).2.2.1 j = (q_yy P u d f q V).2.2.1 j) ∧ (q_yy P u d e p V).2.2.2 = (q_yy P u d f q V).2.2.2 := by
  have h9 : P.2.1.toNatClampNeg = P.2.1.toInt.toNat := rfl
  have hn : P.2.1.toNatClampNeg ≤ 4 := by omega
  unfold q_yy
  split
  · have h := q_sm_cg (M := P.2.2.2.2.1) (V := V) (u := u) he P.2.1.toNatClampNeg hn
    unfold q_yS
    dsimp only
    rw [h.2]
    exact ⟨rfl, h.1, hp, rfl⟩
  · split
    · have h := q_cs_cg (S := P.2.2.1) (L := P.2.2.2.1) (M := P.2.2.2.2.1) (u := u) (d := d) (b := q_bes P.1 P.2.1 P.2.2.2.1) he hp P.2.1.toNatClampNeg hn
      unfold q_yC q_cF
      dsimp only
      rw [h.2.2]
      exact ⟨rfl, h.1, h.2.1, rfl⟩
    · have h := q_shv_cg (N := P.2.1) he
      unfold q_yE q_eX q_ex q_ey
      dsimp only
      rw [h]
      exact ⟨rfl, q_shift_cg he, hp, rfl⟩
theorem q_stp_cg {P : q_P} {u d V : Int32} {e p : Nat → Int32} {Q : q_Q} (hN : P.2.1.toInt ≤ 4) (h : q_ag e p V Q) : (q_stp P u d e p V).1 = (q_stp P u d Q.1 Q.2.1 Q.2.2).1 ∧ q_ag (q_stp P u d e p V).2.1 (q_stp P u d e p V).2.2.1 (q_stp P u d e p V).2.2.2 (q_stp P u d Q.1 Q.2.1 Q.2.2).2 := by
  obtain ⟨he, hp, hV⟩ := h
  subst hV
  have hy := q_yy_cg (u := u) (d := d) (V := Q.2.2) hN he hp
  unfold q_stp q_ag
  dsimp only
  rw [hy.1, hy.2.2.2]
  refine ⟨rfl, fun j hj => ?_, hy.2.2.1, rfl⟩
  by_cases hc : ¬ P.2.2.2.2.2.toInt = 0 ∧ (q_yy P u d Q.1 Q.2.1 Q.2.2).2.2.2 = true
  · rw [if_pos hc, if_pos hc]
    simp only [q_z4, hj, if_true]
  · rw [if_neg hc, if_neg hc]
    exact hy.2.1 j hj
theorem q_ag0 {P : q_P} {u V : Int32} {e p : Nat → Int32} (he : ∀ j : Nat, j < 4 → e j = Int32.ofInt 0) (hp : ∀ j : Nat, j < 6 → p j = Int32.ofInt 0) (hV : V = Int32.ofInt 0) : q_ag e p V (q_it P u 0) := ⟨he, hp, hV⟩
theorem q_ag1 {P : q_P} {u V y : Int32} {e p e' p' : Nat → Int32} {V' : Int32} {n : Nat} (hN : P.2.1.toInt ≤ 4) (h : q_ag e p V (q_it P u n)) (hs : y = (q_stp P u (Int32.ofInt 0) e p V).1 ∧ e' = (q_stp P u (Int32.ofInt 0) e p V).2.1 ∧ p' = (q_stp P u (Int32.ofInt 0) e p V).2.2.1 ∧ V' = (q_stp P u (Int32.ofInt 0) e p V).2.2.2) : y = q_out P u n ∧ q_ag e' p' V' (q_it P u (n + 1)) := by
  have h1 := q_stp_cg (u := u) (d := Int32.ofInt 0) hN h
  obtain ⟨a, b, c, d⟩ := hs
  rw [a, b, c, d]
  exact ⟨h1.1, h1.2⟩
