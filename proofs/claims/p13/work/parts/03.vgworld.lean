/-! places and addresses, worlds, locals -/
/-- the classes' and slots' numbers, the array classes, the address of a place -/
abbrev vg_G : Type := va_G × (Nat → ClassId) × (Nat → Nat)
def vg_cv (ad : Nat → Nat) (v : Value) : Value := match v with
  | .ref k => .ref (ad k)
  | v => v
theorem vg_cv_cat (ad : Nat → Nat) (v : Value) : (vg_cv ad v).category = v.category := by cases v <;> rfl
theorem vg_cat_eq (ad : Nat → Nat) : ∀ st : List Value, ((st.map (vg_cv ad)).map fun v => v.category).sum = vg_cat st
  | [] => rfl
  | v :: r => by
    have h := vg_cat_eq ad r
    simp only [List.map_cons, List.sum_cons, vg_cat, vg_cv_cat] at h ⊢
    rw [h]
def vg_fv (ad : Nat → Nat) (f : Nat → Int32) (g : Nat → Int64) (kd i : Nat) : Value := match kd with
  | 0 => .int (f i)
  | 1 => .long (g i)
  | n + 2 => .ref (ad n)
def vg_fl (ad : Nat → Nat) (f : Nat → Int32) (g : Nat → Int64) : Nat → List Nat → List Value
  | _, [] => []
  | i, kd :: r => vg_fv ad f g kd i :: vg_fl ad f g (i + 1) r
theorem vg_fl_at (ad : Nat → Nat) (f : Nat → Int32) (g : Nat → Int64) : ∀ (ks : List Nat) (i j : Nat), (vg_fl ad f g i ks)[j]? = (ks[j]?).map (fun kd => vg_fv ad f g kd (i + j))
  | [], i, j => by simp [vg_fl]
  | kd :: r, i, 0 => by simp [vg_fl]
  | kd :: r, i, j + 1 => by
    simp only [vg_fl, List.getElem?_cons_succ]
    rw [vg_fl_at ad f g r (i + 1) j, Nat.add_assoc, Nat.add_comm 1 j]
theorem vg_fl_len (ad : Nat → Nat) (f : Nat → Int32) (g : Nat → Int64) : ∀ (ks : List Nat) (i : Nat), (vg_fl ad f g i ks).length = ks.length
  | [], i => rfl
  | kd :: r, i => by simp [vg_fl, vg_fl_len ad f g r (i + 1)]
theorem vg_fl_set1 (ad : Nat → Nat) (f : Nat → Int32) (g : Nat → Int64) (ks : List Nat) (i : Nat) (x : Int32) (h : ks[i]? = some 0) : (vg_fl ad f g 0 ks).set i (.int x) = vg_fl ad (upd f i x) g 0 ks := by
  apply List.ext_getElem?
  intro j
  rw [List.getElem?_set, vg_fl_at, vg_fl_at]
  by_cases hj : i = j
  · subst hj
    have hlt : i < (vg_fl ad f g 0 ks).length := by rw [vg_fl_len]; exact (List.getElem?_eq_some_iff.mp h).1
    rw [if_pos rfl, if_pos hlt, h]
    simp [vg_fv, upd]
  · rw [if_neg hj]
    cases hk : ks[j]? with
    | none => rfl
    | some kd =>
      match kd with
      | 0 => simp [vg_fv, upd, Ne.symm hj]
      | 1 => rfl
      | n + 2 => rfl
theorem vg_fl_set2 (ad : Nat → Nat) (f : Nat → Int32) (g : Nat → Int64) (ks : List Nat) (i : Nat) (x : Int64) (h : ks[i]? = some 1) : (vg_fl ad f g 0 ks).set i (.long x) = vg_fl ad f (vp_updL g i x) 0 ks := by
  apply List.ext_getElem?
  intro j
  rw [List.getElem?_set, vg_fl_at, vg_fl_at]
  by_cases hj : i = j
  · subst hj
    have hlt : i < (vg_fl ad f g 0 ks).length := by rw [vg_fl_len]; exact (List.getElem?_eq_some_iff.mp h).1
    rw [if_pos rfl, if_pos hlt, h]
    simp [vg_fv, vp_updL]
  · rw [if_neg hj]
    cases hk : ks[j]? with
    | none => rfl
    | some kd =>
      match kd with
      | 0 => rfl
      | 1 => simp [vg_fv, vp_updL, Ne.symm hj]
      | n + 2 => rfl
def vg_ce (dA : Nat → ClassId) (ad : Nat → Nat) (f : Nat → Int32) (g : Nat → Int64) (c : vg_C) : va_E := match c with
  | .inl (0, n, _) => .inl (dA 0, n, .inl f)
  | .inl (1, n, _) => .inl (dA 1, n, .inr (.inl g))
  | .inl (t + 2, n, rs) => .inl (dA (t + 2), n, .inr (.inr (.inr (.inr (fun j => (rs[j]?).map ad)))))
  | .inr (ci, ks) => .inr (ci, vg_fl ad f g 0 ks)
def vg_cw (dA : Nat → ClassId) (ad : Nat → Nat) (σ : vg_S) : Nat → List vg_C → va_W
  | _, [] => []
  | k, c :: r => (ad k, vg_ce dA ad (σ.1 k) (σ.2 k) c) :: vg_cw dA ad σ (k + 1) r
theorem vg_cw_at (dA : Nat → ClassId) (ad : Nat → Nat) (σ : vg_S) : ∀ (cs : List vg_C) (i j : Nat), (vg_cw dA ad σ i cs)[j]? = (cs[j]?).map (fun c => (ad (i + j), vg_ce dA ad (σ.1 (i + j)) (σ.2 (i + j)) c))
  | [], i, j => by simp [vg_cw]
  | c :: r, i, 0 => by simp [vg_cw]
  | c :: r, i, j + 1 => by
    simp only [vg_cw, List.getElem?_cons_succ]
    rw [vg_cw_at dA ad σ r (i + 1) j, Nat.add_assoc, Nat.add_comm 1 j]
theorem vg_cw_len (dA : Nat → ClassId) (ad : Nat → Nat) (σ : vg_S) : ∀ (cs : List vg_C) (i : Nat), (vg_cw dA ad σ i cs).length = cs.length
  | [], i => rfl
  | c :: r, i => by simp [vg_cw, vg_cw_len dA ad σ r (i + 1)]
theorem vg_cw_set1 (dA : Nat → ClassId) (ad : Nat → Nat) (σ : vg_S) (cs : List vg_C) (k : Nat) (c : vg_C) (f : Nat → Int32) (h : cs[k]? = some c) : (vg_cw dA ad σ 0 cs).set k (ad k, vg_ce dA ad f (σ.2 k) c) = vg_cw dA ad (vg_w1 σ k f) 0 cs := by
  apply List.ext_getElem?
  intro j
  rw [List.getElem?_set, vg_cw_at, vg_cw_at]
  by_cases hj : k = j
  · subst hj
    have hlt : k < (vg_cw dA ad σ 0 cs).length := by rw [vg_cw_len]; exact (List.getElem?_eq_some_iff.mp h).1
    rw [if_pos rfl, if_pos hlt, h]
    simp [vg_w1]
  · rw [if_neg hj]
    simp [vg_w1, Ne.symm hj]
theorem vg_cw_set2 (dA : Nat → ClassId) (ad : Nat → Nat) (σ : vg_S) (cs : List vg_C) (k : Nat) (c : vg_C) (g : Nat → Int64) (h : cs[k]? = some c) : (vg_cw dA ad σ 0 cs).set k (ad k, vg_ce dA ad (σ.1 k) g c) = vg_cw dA ad (vg_w2 σ k g) 0 cs := by
  apply List.ext_getElem?
  intro j
  rw [List.getElem?_set, vg_cw_at, vg_cw_at]
  by_cases hj : k = j
  · subst hj
    have hlt : k < (vg_cw dA ad σ 0 cs).length := by rw [vg_cw_len]; exact (List.getElem?_eq_some_iff.mp h).1
    rw [if_pos rfl, if_pos hlt, h]
    simp [vg_w2]
  · rw [if_neg hj]
    simp [vg_w2, Ne.symm hj]
/-- the cells of the places -/
def vg_A (ad : Nat → Nat) (n : Nat) : Nat → Prop := fun q => ∃ k, k < n ∧ q = ad k
theorem vg_cw_D (dA : Nat → ClassId) (ad : Nat → Nat) (σ : vg_S) (cs : List vg_C) (hap : ∀ i j, i < cs.length → j < cs.length → ad i = ad j → i = j) : va_D (vg_A ad cs.length) (vg_cw dA ad σ 0 cs) := by
  refine ⟨fun i j x y hx hy hxy => ?_, fun k q hk => ?_⟩
  · rw [vg_cw_at] at hx hy
    cases hi : cs[i]? with
    | none => rw [hi] at hx; cases hx
    | some ci =>
      cases hj : cs[j]? with
      | none => rw [hj] at hy; cases hy
      | some cj =>
        rw [hi] at hx
        rw [hj] at hy
        cases hx
        cases hy
        simp only [Nat.zero_add] at hxy
        exact hap i j (List.getElem?_eq_some_iff.mp hi).1 (List.getElem?_eq_some_iff.mp hj).1 hxy
  · rw [vg_cw_at] at hk
    cases hi : cs[k]? with
    | none => rw [hi] at hk; cases hk
    | some ci =>
      rw [hi] at hk
      cases hk
      exact ⟨k, (List.getElem?_eq_some_iff.mp hi).1, by simp⟩
/-! locals -/
def vg_la (ad : Nat → Nat) : Nat → vg_L → List (Nat × Value)
  | _, [] => []
  | i, none :: r => vg_la ad (i + 1) r
  | i, some v :: r => (i, vg_cv ad v) :: vg_la ad (i + 1) r
theorem vg_la_in (ad : Nat → Nat) : ∀ (L : vg_L) (i k : Nat) (v : Value), vg_nth L k = some (some v) → (i + k, vg_cv ad v) ∈ vg_la ad i L
  | [], i, k, v, h => by simp [vg_nth] at h
  | none :: r, i, 0, v, h => by simp [vg_nth] at h
  | some w :: r, i, 0, v, h => by
    simp only [vg_nth, Option.some.injEq] at h
    subst h
    exact List.mem_cons_self
  | none :: r, i, k + 1, v, h => by
    have h2 := vg_la_in ad r (i + 1) k v h
    rw [Nat.add_assoc, Nat.add_comm 1 k] at h2
    exact h2
  | some w :: r, i, k + 1, v, h => by
    have h2 := vg_la_in ad r (i + 1) k v h
    rw [Nat.add_assoc, Nat.add_comm 1 k] at h2
    exact List.mem_cons_of_mem _ h2
theorem vg_la_of (ad : Nat → Nat) : ∀ (L : vg_L) (i : Nat) (q : Nat × Value), q ∈ vg_la ad i L → ∃ (k : Nat) (v : Value), q = (i + k, vg_cv ad v) ∧ vg_nth L k = some (some v)
  | [], i, q, h => by cases h
  | none :: r, i, q, h => by
    obtain ⟨k, v, h1, h2⟩ := vg_la_of ad r (i + 1) q h
    exact ⟨k + 1, v, by rw [h1, Nat.add_assoc, Nat.add_comm 1 k], h2⟩
  | some w :: r, i, q, h => by
    rcases List.mem_cons.mp h with h | h
    · exact ⟨0, w, h, rfl⟩
    · obtain ⟨k, v, h1, h2⟩ := vg_la_of ad r (i + 1) q h
      exact ⟨k + 1, v, by rw [h1, Nat.add_assoc, Nat.add_comm 1 k], h2⟩
def vg_lr (ad : Nat → Nat) (ls : Array Slot) (nL : Nat) (L : vg_L) : Prop := lv_has ls nL (vg_la ad 0 L) ∧ L.length = nL
theorem vg_lr.at {ad : Nat → Nat} {ls : Array Slot} {nL : Nat} {L : vg_L} (h : vg_lr ad ls nL L) {k : Nat} {v : Value} (hk : vg_nth L k = some (some v)) : ls[k]? = some (.val (vg_cv ad v)) := by
  have h2 := h.1.2.2 _ (vg_la_in ad L 0 k v hk)
  simpa using h2
theorem vg_nth_lt {α : Type} {L : List α} {k : Nat} {x : α} (h : vg_nth L k = some x) : k < L.length := by
  rw [vg_nth_eq] at h
  exact (List.getElem?_eq_some_iff.mp h).1
theorem vg_s1_len : ∀ (L : vg_L) (i : Nat) (v : Value), (vg_s1 L i v).length = L.length
  | [], i, v => by simp [vg_s1]
  | x :: r, 0, v => by simp [vg_s1]
  | x :: r, 1, v => by simp [vg_s1, vg_s1_len r 0 v]
  | x :: r, i + 2, v => by simp [vg_s1, vg_s1_len r (i + 1) v]
theorem vg_k_some {x : Option Value} {w : Value} (h : vg_k x = some w) : x = some w ∧ ¬ w.category = 2 := by
  cases x with
  | none => simp [vg_k] at h
  | some y => cases y <;> simp [vg_k] at h <;> subst h <;> exact ⟨rfl, by simp [Value.category]⟩
theorem vg_s1_nth : ∀ (L : vg_L) (i : Nat) (v : Value) (k : Nat) (w : Value), vg_nth (vg_s1 L i v) k = some (some w) → (k = i ∧ w = v) ∨ (k ≠ i ∧ vg_nth L k = some (some w) ∧ ¬ (k + 1 = i ∧ w.category = 2))
  | [], i, v, k, w, h => by simp [vg_s1, vg_nth] at h
  | x :: r, 0, v, 0, w, h => by
    simp only [vg_s1, vg_nth, Option.some.injEq] at h
    exact Or.inl ⟨rfl, h.symm⟩
  | x :: r, 0, v, k + 1, w, h => Or.inr ⟨by omega, h, by omega⟩
  | x :: r, 1, v, 0, w, h => by
    simp only [vg_s1, vg_nth, Option.some.injEq] at h
    obtain ⟨h1, h2⟩ := vg_k_some h
    exact Or.inr ⟨by omega, by simp [vg_nth, h1], fun q => h2 q.2⟩
  | x :: r, 1, v, k + 1, w, h => by
    rcases vg_s1_nth r 0 v k w h with ⟨h1, h2⟩ | ⟨h1, h2, h3⟩
    · exact Or.inl ⟨by omega, h2⟩
    · exact Or.inr ⟨by omega, h2, by omega⟩
  | x :: r, i + 2, v, 0, w, h => Or.inr ⟨by omega, h, by omega⟩
  | x :: r, i + 2, v, k + 1, w, h => by
    rcases vg_s1_nth r (i + 1) v k w h with ⟨h1, h2⟩ | ⟨h1, h2, h3⟩
    · exact Or.inl ⟨by omega, h2⟩
    · exact Or.inr ⟨by omega, h2, fun q => h3 ⟨by omega, q.2⟩⟩
theorem vg_lr.s1 {ad : Nat → Nat} {ls ls' : Array Slot} {nL : Nat} {L : vg_L} (h : vg_lr ad ls nL L) {i : Nat} {v : Value} (h' : lv_has ls' nL ((i, vg_cv ad v) :: (vg_la ad 0 L).filter (fun q => !(q.1 == i) && !(q.1 + 1 == i && q.2.category == 2)))) : vg_lr ad ls' nL (vg_s1 L i v) := by
  refine ⟨⟨h'.1, h'.2.1, fun q hq => h'.2.2 q ?_⟩, by rw [vg_s1_len]; exact h.2⟩
  obtain ⟨k, w, rfl, hk⟩ := vg_la_of ad _ _ _ hq
  rw [Nat.zero_add]
  rcases vg_s1_nth L i v k w hk with ⟨rfl, rfl⟩ | ⟨h1, h2, h3⟩
  · exact List.mem_cons_self
  · refine List.mem_cons_of_mem _ (List.mem_filter.mpr ⟨by simpa using vg_la_in ad L 0 k w h2, ?_⟩)
    simp only [vg_cv_cat, Bool.and_eq_true, Bool.not_eq_true', Bool.and_eq_false_iff, beq_eq_false_iff_ne, ne_eq]
    refine ⟨h1, ?_⟩
    by_cases hk1 : k + 1 = i
    · exact Or.inr (fun q => h3 ⟨hk1, q⟩)
    · exact Or.inl hk1
theorem vg_s2_nth : ∀ (L : vg_L) (i : Nat) (v : Value) (k : Nat) (w : Value), vg_nth (vg_s2 L i v) k = some (some w) → (k = i ∧ w = v) ∨ (k ≠ i ∧ k ≠ i + 1 ∧ vg_nth L k = some (some w) ∧ ¬ (k + 1 = i ∧ w.category = 2))
  | [], i, v, k, w, h => by simp [vg_s2, vg_nth] at h
  | x :: r, 0, v, 0, w, h => by
    simp only [vg_s2, vg_nth, Option.some.injEq] at h
    exact Or.inl ⟨rfl, h.symm⟩
  | [x], 0, v, k + 1, w, h => by simp [vg_s2, vg_n0, vg_nth] at h
  | x :: y :: r, 0, v, 1, w, h => by simp [vg_s2, vg_n0, vg_nth] at h
  | x :: y :: r, 0, v, k + 2, w, h => Or.inr ⟨by omega, by omega, h, by omega⟩
  | x :: r, 1, v, 0, w, h => by
    simp only [vg_s2, vg_nth, Option.some.injEq] at h
    obtain ⟨h1, h2⟩ := vg_k_some h
    exact Or.inr ⟨by omega, by omega, by simp [vg_nth, h1], fun q => h2 q.2⟩
  | x :: r, 1, v, k + 1, w, h => by
    rcases vg_s2_nth r 0 v k w h with ⟨h1, h2⟩ | ⟨h1, h0, h2, h3⟩
    · exact Or.inl ⟨by omega, h2⟩
    · exact Or.inr ⟨by omega, by omega, h2, by omega⟩
  | x :: r, i + 2, v, 0, w, h => Or.inr ⟨by omega, by omega, h, by omega⟩
  | x :: r, i + 2, v, k + 1, w, h => by
    rcases vg_s2_nth r (i + 1) v k w h with ⟨h1, h2⟩ | ⟨h1, h0, h2, h3⟩
    · exact Or.inl ⟨by omega, h2⟩
    · exact Or.inr ⟨by omega, by omega, h2, fun q => h3 ⟨by omega, q.2⟩⟩
theorem vg_s2_len : ∀ (L : vg_L) (i : Nat) (v : Value), i + 1 < L.length → (vg_s2 L i v).length = L.length
  | [], i, v, h => by simp at h
  | [x], i, v, h => by simp at h
  | x :: y :: r, 0, v, h => by simp [vg_s2, vg_n0]
  | x :: r, 1, v, h => by
    have := vg_s2_len r 0 v (by simp at h; omega)
    simp [vg_s2, this]
  | x :: r, i + 2, v, h => by
    have := vg_s2_len r (i + 1) v (by simp at h; omega)
    simp [vg_s2, this]
theorem vg_lr.s2 {ad : Nat → Nat} {ls ls' : Array Slot} {nL : Nat} {L : vg_L} (h : vg_lr ad ls nL L) {i : Nat} {v : Value} (hi : i + 1 < L.length) (h' : lv_has ls' nL ((i, vg_cv ad v) :: (vg_la ad 0 L).filter (fun q => !(q.1 == i) && (!(q.1 == i + 1) && !(q.1 + 1 == i && q.2.category == 2))))) : vg_lr ad ls' nL (vg_s2 L i v) := by
  refine ⟨⟨h'.1, h'.2.1, fun q hq => h'.2.2 q ?_⟩, by rw [vg_s2_len _ _ _ hi]; exact h.2⟩
  obtain ⟨k, w, rfl, hk⟩ := vg_la_of ad _ _ _ hq
  rw [Nat.zero_add]
  rcases vg_s2_nth L i v k w hk with ⟨rfl, rfl⟩ | ⟨h1, h0, h2, h3⟩
  · exact List.mem_cons_self
  · refine List.mem_cons_of_mem _ (List.mem_filter.mpr ⟨by simpa using vg_la_in ad L 0 k w h2, ?_⟩)
    simp only [vg_cv_cat, Bool.and_eq_true, Bool.not_eq_true', Bool.and_eq_false_iff, beq_eq_false_iff_ne, ne_eq]
    refine ⟨h1, h0, ?_⟩
    by_cases hk1 : k + 1 = i
    · exact Or.inr (fun q => h3 ⟨hk1, q⟩)
    · exact Or.inl hk1
/-! arguments -/
theorem vg_args_eq : ∀ (n : Nat) (st acc : List Value), n ≤ st.length → vg_args n st acc = (st.take n).reverse ++ acc
  | 0, st, acc, _ => by simp [vg_args]
  | n + 1, [], acc, h => by simp at h
  | n + 1, v :: r, acc, h => by
    rw [vg_args, vg_args_eq n r (v :: acc) (by simp at h; omega)]
    simp
theorem vg_drop_eq : ∀ (n : Nat) (st : List Value), vg_drop n st = st.drop n
  | 0, st => by simp [vg_drop]
  | n + 1, [] => by simp [vg_drop]
  | n + 1, v :: r => by simp [vg_drop, vg_drop_eq n r]
theorem vg_stack (ad : Nat → Nat) (n : Nat) (st : List Value) (h : n ≤ st.length) : st.map (vg_cv ad) = ((vg_args n st []).map (vg_cv ad)).reverse ++ (vg_drop n st).map (vg_cv ad) := by
  rw [vg_args_eq n st [] h, vg_drop_eq, List.append_nil, List.map_reverse, List.reverse_reverse, ← List.map_append, List.take_append_drop]
theorem vg_args_len (n : Nat) (st : List Value) (h : n ≤ st.length) : (vg_args n st []).length = n := by
  rw [vg_args_eq n st [] h]
  simp
  omega
theorem vg_ix.in {i : Int32} {n : Nat} (h : vg_ix i n) : vp_in i n := by
  intro q
  obtain ⟨h1, h2⟩ := h
  rcases q with q | q
  · have := Int32.lt_iff_toInt_lt.mp q
    simp at this
    omega
  · have : i.toNatClampNeg = i.toInt.toNat := rfl
    omega
/-- the locals at a method's entry -/
def vg_l0 : List Value → vg_L
  | [] => []
  | .long x :: r => some (.long x) :: none :: vg_l0 r
  | .double x :: r => some (.double x) :: none :: vg_l0 r
  | v :: r => some v :: vg_l0 r
def vg_pad : Nat → vg_L → vg_L
  | 0, _ => []
  | n + 1, [] => none :: vg_pad n []
  | n + 1, x :: r => x :: vg_pad n r
theorem vg_pad_len : ∀ (n : Nat) (L : vg_L), (vg_pad n L).length = n
  | 0, L => by cases L <;> rfl
  | n + 1, [] => by simp [vg_pad, vg_pad_len n []]
  | n + 1, x :: r => by simp [vg_pad, vg_pad_len n r]
theorem vg_pad_nil_nth : ∀ (n k : Nat) (v : Value), vg_nth (vg_pad n []) k = some (some v) → False
  | 0, k, v, h => by simp [vg_pad, vg_nth] at h
  | n + 1, 0, v, h => by simp [vg_pad, vg_nth] at h
  | n + 1, k + 1, v, h => vg_pad_nil_nth n k v h
theorem vg_pad_nth : ∀ (n : Nat) (L : vg_L) (k : Nat) (v : Value), vg_nth (vg_pad n L) k = some (some v) → vg_nth L k = some (some v)
  | 0, L, k, v, h => by cases L <;> simp [vg_pad, vg_nth] at h
  | n + 1, [], k, v, h => (vg_pad_nil_nth (n + 1) k v h).elim
  | n + 1, x :: r, 0, v, h => h
  | n + 1, x :: r, k + 1, v, h => vg_pad_nth n r k v h
theorem vg_l0_in (ad : Nat → Nat) : ∀ (as : List Value) (i k : Nat) (v : Value), vg_nth (vg_l0 as) k = some (some v) → (i + k, vg_cv ad v) ∈ lv_args i (as.map (vg_cv ad)) := by
  intro as
  induction as with
  | nil => intro i k v h; simp [vg_l0, vg_nth] at h
  | cons a r ih =>
    intro i k v h
    have one : ∀ b : Value, b.category = 1 → vg_nth (some b :: vg_l0 r) k = some (some v) → (i + k, vg_cv ad v) ∈ lv_args i ((b :: r).map (vg_cv ad)) := by
      intro b hb hk
      simp only [List.map_cons, lv_args, vg_cv_cat, hb]
      match k, hk with
      | 0, hk =>
        simp only [vg_nth, Option.some.injEq] at hk
        subst hk
        exact List.mem_cons_self
      | k + 1, hk =>
        have := ih (i + 1) k v hk
        rw [Nat.add_assoc, Nat.add_comm 1 k] at this
        exact List.mem_cons_of_mem _ this
    have two : ∀ b : Value, b.category = 2 → vg_nth (some b :: none :: vg_l0 r) k = some (some v) → (i + k, vg_cv ad v) ∈ lv_args i ((b :: r).map (vg_cv ad)) := by
      intro b hb hk
      simp only [List.map_cons, lv_args, vg_cv_cat, hb]
      match k, hk with
      | 0, hk =>
        simp only [vg_nth, Option.some.injEq] at hk
        subst hk
        exact List.mem_cons_self
      | 1, hk => simp [vg_nth] at hk
      | k + 2, hk =>
        have := ih (i + 2) k v hk
        rw [Nat.add_assoc, Nat.add_comm 2 k] at this
        exact List.mem_cons_of_mem _ this
    cases a with
    | int x => exact one _ rfl h
    | long x => exact two _ rfl h
    | float x => exact one _ rfl h
    | double x => exact two _ rfl h
    | null => exact one _ rfl h
    | ref x => exact one _ rfl h
    | retAddr x => exact one _ rfl h
theorem vg_entry (ad : Nat → Nat) (as : List Value) (n : Nat) (h : (lg_sl (as.map (vg_cv ad))).length ≤ n) : vg_lr ad ((lg_sl (as.map (vg_cv ad)) ++ List.replicate (n - (lg_sl (as.map (vg_cv ad))).length) Slot.unset).toArray) n (vg_pad n (vg_l0 as)) := by
  have h1 := lv_entry (as.map (vg_cv ad)) (n := n) h
  refine ⟨⟨h1.1, h1.2.1, fun q hq => h1.2.2 q ?_⟩, vg_pad_len _ _⟩
  obtain ⟨k, v, rfl, hk⟩ := vg_la_of ad _ _ _ hq
  exact vg_l0_in ad as 0 k v (vg_pad_nth _ _ _ _ hk)
theorem vg_mask_nth : ∀ (ms : List Bool) (L : vg_L) (k : Nat) (v : Value), vg_nth (vg_mask ms L) k = some (some v) → vg_nth L k = some (some v)
  | ms, [], k, v, h => by cases ms <;> simp [vg_mask, vg_nth] at h
  | [], x :: r, 0, v, h => by simp [vg_mask, vg_nth] at h
  | true :: b, x :: r, 0, v, h => h
  | false :: b, x :: r, 0, v, h => by simp [vg_mask, vg_nth] at h
  | [], x :: r, k + 1, v, h => vg_mask_nth [] r k v h
  | true :: b, x :: r, k + 1, v, h => vg_mask_nth b r k v h
  | false :: b, x :: r, k + 1, v, h => vg_mask_nth b r k v h
theorem vg_mask_len : ∀ (ms : List Bool) (L : vg_L), (vg_mask ms L).length = L.length
  | ms, [] => by cases ms <;> simp [vg_mask]
  | [], x :: r => by simp [vg_mask, vg_mask_len [] r]
  | true :: b, x :: r => by simp [vg_mask, vg_mask_len b r]
  | false :: b, x :: r => by simp [vg_mask, vg_mask_len b r]
theorem vg_lr.mask {ad : Nat → Nat} {ls : Array Slot} {nL : Nat} {L : vg_L} (h : vg_lr ad ls nL L) (ms : List Bool) : vg_lr ad ls nL (vg_mask ms L) := by
  refine ⟨⟨h.1.1, h.1.2.1, fun q hq => h.1.2.2 q ?_⟩, by rw [vg_mask_len]; exact h.2⟩
  obtain ⟨k, w, rfl, hk⟩ := vg_la_of ad _ _ _ hq
  exact vg_la_in ad L 0 k w (vg_mask_nth ms L k w hk)
theorem vg_lkp_in : ∀ (l : List (Nat × vg_V)) (h : Nat) (iv : vg_V), vg_lkp l h = some iv → (h, iv) ∈ l
  | [], h, iv, e => by cases e
  | q :: r, h, iv, e => by
    unfold vg_lkp at e
    split at e
    · rename_i hb
      cases e
      have := Nat.eq_of_beq_eq_true hb
      subst this
      exact List.mem_cons_self
    · exact List.mem_cons_of_mem _ (vg_lkp_in r h iv e)
