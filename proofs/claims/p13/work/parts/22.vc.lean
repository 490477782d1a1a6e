/-! A SECOND WALKER for the constructors: code that makes cells, run on constants. A cell's place is its number in the order of making; its address is base.1 + place. -/
abbrev vc_C : Type := (Nat × Nat × List (Option Nat)) ⊕ (Nat × List Value)
abbrev vc_W : Type := List vc_C
/-- a constructor: name, code, locals, frames, words, cells and slots that it makes; what it makes of a world -/
abbrev vc_R : Type := (MethodName × ByteArray × Nat × Nat × Nat × Nat × Nat) × (vc_W → Nat → Option vc_W)
def vc_ty (b : Nat) : Nat → FieldType := match b with
  | 0 => tyX0
  | 1 => tyX1
  | 2 => tyX2
  | 3 => tyX3
  | 4 => tyX4
  | 5 => tyX5
  | 6 => tyX6
  | 7 => tyX7
  | 8 => tyX8
  | 9 => tyX9
  | 10 => tyX10
  | _ => tyX11
def vc_fs (b N : Nat) : List Value := (List.range N).map (fun j => defaultValue (vc_ty b j))
def vc_set {α : Type} : List α → Nat → α → List α
  | [], _, _ => []
  | _ :: r, 0, x => x :: r
  | y :: r, i + 1, x => y :: vc_set r i x
theorem vc_set_eq {α : Type} : ∀ (l : List α) (i : Nat) (x : α), vc_set l i x = l.set i x
  | [], i, x => by simp [vc_set]
  | y :: r, 0, x => by simp [vc_set]
  | y :: r, i + 1, x => by simp [vc_set, vc_set_eq r i x]
/-- one instruction: where to go on (none: behind it), locals, stack, world, cells and slots made -/
def vc_i (cs : List vc_R) (q : vg_I) (L : vg_L) (st : List Value) (aw : vc_W) (nc ns : Nat) : Option (Option Nat × vg_L × List Value × vc_W × Nat × Nat) := match q with
  | (pc, op, _, a, b, c, z) => match op with
    | .iconst i => some (none, L, .int (Int32.ofInt i) :: st, aw, nc, ns)
    | .bipush i => some (none, L, .int (Int32.ofInt i) :: st, aw, nc, ns)
    | .sipush i => some (none, L, .int (Int32.ofInt i) :: st, aw, nc, ns)
    | .ldc _ => some (none, L, .int (Int32.ofInt z) :: st, aw, nc, ns)
    | .aload_n i => (match vg_nth L i with
      | some (some (.ref x)) => some (none, L, .ref x :: st, aw, nc, ns)
      | _ => none)
    | .iload_n i => (match vg_nth L i with
      | some (some (.int x)) => some (none, L, .int x :: st, aw, nc, ns)
      | _ => none)
    | .istore_n i => (match vg_nth L i, st with
      | some _, .int x :: st => some (none, vg_s1 L i (.int x), st, aw, nc, ns)
      | _, _ => none)
    | .astore_n i => (match vg_nth L i, st with
      | some _, .ref x :: st => some (none, vg_s1 L i (.ref x), st, aw, nc, ns)
      | _, _ => none)
    | .iinc i n => (match vg_nth L i with
      | some (some (.int x)) => some (none, vg_s1 L i (.int (x + Int32.ofInt n)), st, aw, nc, ns)
      | _ => none)
    | .dup => (match st with
      | .ref x :: st => some (none, L, .ref x :: .ref x :: st, aw, nc, ns)
      | _ => none)
    | .goto off => some (some ((pc : Int) + off).toNat, L, st, aw, nc, ns)
    | .if_icmp .ge off => (match st with
      | .int y :: .int x :: st => (match decide (y.toInt ≤ x.toInt) with
        | true => some (some ((pc : Int) + off).toNat, L, st, aw, nc, ns)
        | false => some (none, L, st, aw, nc, ns))
      | _ => none)
    | .newarray t => (match st, t with
      | .int n :: st, .int => (match decide (0 ≤ n.toInt) with
        | true => some (none, L, .ref aw.length :: st, aw ++ [.inl (0, n.toNatClampNeg, [])], nc + 1, ns + n.toNatClampNeg)
        | false => none)
      | .int n :: st, .long => (match decide (0 ≤ n.toInt) with
        | true => some (none, L, .ref aw.length :: st, aw ++ [.inl (1, n.toNatClampNeg, [])], nc + 1, ns + n.toNatClampNeg)
        | false => none)
      | _, _ => none)
    | .anewarray _ => (match st with
      | .int n :: st => (match decide (0 ≤ n.toInt) with
        | true => some (none, L, .ref aw.length :: st, aw ++ [.inl (b, n.toNatClampNeg, List.replicate n.toNatClampNeg none)], nc + 1, ns + n.toNatClampNeg)
        | false => none)
      | _ => none)
    | .new _ => some (none, L, .ref aw.length :: st, aw ++ [.inr (b, vc_fs b c)], nc + 1, ns + c)
    | .putfield _ => (match st with
      | v :: .ref r :: st => (match vg_nth aw r with
        | some (.inr (ci, fs)) => (match Nat.beq ci b, Nat.blt c fs.length, v with
          | true, true, .int x => (match z with
            | .ofNat 0 => some (none, L, st, vc_set aw r (.inr (ci, vc_set fs c (.int x))), nc, ns)
            | _ => none)
          | true, true, .ref x => (match z with
            | .ofNat 5 => some (none, L, st, vc_set aw r (.inr (ci, vc_set fs c (.ref x))), nc, ns)
            | _ => none)
          | _, _, _ => none)
        | _ => none)
      | _ => none)
    | .getfield _ => (match st with
      | .ref r :: st => (match vg_nth aw r with
        | some (.inr (ci, fs)) => (match Nat.beq ci b, vg_nth fs c with
          | true, some (.ref x) => some (none, L, .ref x :: st, aw, nc, ns)
          | _, _ => none)
        | _ => none)
      | _ => none)
    | .aastore => (match st with
      | .ref v :: .int i :: .ref r :: st => (match vg_nth aw r, vg_nth aw v with
        | some (.inl (t + 2, n, rs)), some (.inr (ci, _)) => (match decide (0 ≤ i.toInt ∧ i.toInt < (n : Int)), Nat.beq ci (t + 3), Nat.ble t 1, Nat.ble n rs.length with
          | true, true, true, true => some (none, L, st, vc_set aw r (.inl (t + 2, n, vc_set rs i.toNatClampNeg (some v))), nc, ns)
          | _, _, _, _ => none)
        | _, _ => none)
      | _ => none)
    | .invokespecial _ => (match st, b with
      | .ref _ :: st, 0 => (match Nat.ble (vg_cat st) 8 with
        | true => some (none, L, st, aw, nc, ns)
        | false => none)
      | .ref r :: st, _ => (match vg_nth cs a, Nat.ble (vg_cat st) 8 with
        | some k, true => (match k.2 aw r with
          | some aw' => some (none, L, st, aw', nc + k.1.2.2.2.2.2.1, ns + k.1.2.2.2.2.2.2)
          | none => none)
        | _, _ => none)
      | _, _ => none)
    | _ => none
/-- a run up to the instruction 'return', or, with an end, up to that pc -/
def vc_run (cs : List vc_R) (cd : List vg_I) (en : Option Nat) : Nat → List vg_I → vg_L → List Value → vc_W → Nat → Nat → Option (vg_L × vc_W × Nat × Nat)
  | 0, _, _, _, _, _, _ => none
  | _ + 1, [], _, _, _, _, _ => none
  | n + 1, q :: nx, L, st, aw, nc, ns => match en, q.2.1, st with
    | none, .return_, [] => some (L, aw, nc, ns)
    | none, .return_, _ :: _ => none
    | none, _, _ => (match vc_i cs q L st aw nc ns with
      | some (none, L, st, aw, nc, ns) => vc_run cs cd en n nx L st aw nc ns
      | some (some t, L, st, aw, nc, ns) => vc_run cs cd en n (vg_find cd t) L st aw nc ns
      | none => none)
    | some t0, _, _ => (match Nat.beq q.1 t0, st with
      | true, [] => some (L, aw, nc, ns)
      | true, _ :: _ => none
      | false, _ => (match vc_i cs q L st aw nc ns with
        | some (none, L, st, aw, nc, ns) => vc_run cs cd en n nx L st aw nc ns
        | some (some t, L, st, aw, nc, ns) => vc_run cs cd en n (vg_find cd t) L st aw nc ns
        | none => none))
/-! worlds -/
/-- places: made cells behind base.1, other places by base.2 -/
def vc_ad (base : Nat × (Nat → Nat)) : Nat → Nat := fun k => if k < 100 then base.1 + k else base.2 k
theorem vc_ad_lt (base : Nat × (Nat → Nat)) {k : Nat} (h : k < 100) : vc_ad base k = base.1 + k := if_pos h
def vc_ce (dA : Nat → ClassId) (ad : Nat → Nat) (c : vc_C) : va_E := match c with
  | .inl (0, n, _) => .inl (dA 0, n, .inl (fun _ => 0))
  | .inl (1, n, _) => .inl (dA 1, n, .inr (.inl (fun _ => 0)))
  | .inl (t + 2, n, rs) => .inl (dA (t + 2), n, .inr (.inr (.inr (.inr (fun j => ((rs[j]?).join).map ad)))))
  | .inr (ci, fs) => .inr (ci, fs.map (vg_cv ad))
def vc_cw (dA : Nat → ClassId) (ad : Nat → Nat) : Nat → vc_W → va_W
  | _, [] => []
  | k, c :: r => (ad k, vc_ce dA ad c) :: vc_cw dA ad (k + 1) r
theorem vc_cw_at (dA : Nat → ClassId) (ad : Nat → Nat) : ∀ (cs : vc_W) (i j : Nat), (vc_cw dA ad i cs)[j]? = (cs[j]?).map (fun c => (ad (i + j), vc_ce dA ad c))
  | [], i, j => by simp [vc_cw]
  | c :: r, i, 0 => by simp [vc_cw]
  | c :: r, i, j + 1 => by
    simp only [vc_cw, List.getElem?_cons_succ]
    rw [vc_cw_at dA ad r (i + 1) j, Nat.add_assoc, Nat.add_comm 1 j]
theorem vc_cw_len (dA : Nat → ClassId) (ad : Nat → Nat) : ∀ (cs : vc_W) (i : Nat), (vc_cw dA ad i cs).length = cs.length
  | [], i => rfl
  | c :: r, i => by simp [vc_cw, vc_cw_len dA ad r (i + 1)]
theorem vc_cw_set (dA : Nat → ClassId) (ad : Nat → Nat) (cs : vc_W) (k : Nat) (c : vc_C) : (vc_cw dA ad 0 cs).set k (ad k, vc_ce dA ad c) = vc_cw dA ad 0 (cs.set k c) := by
  apply List.ext_getElem?
  intro j
  rw [List.getElem?_set, vc_cw_at, vc_cw_at, List.getElem?_set, vc_cw_len]
  by_cases hj : k = j
  · subst hj
    simp
  · simp [hj]
theorem vc_cw_app (dA : Nat → ClassId) (ad : Nat → Nat) (c : vc_C) : ∀ (cs : vc_W) (i : Nat), vc_cw dA ad i (cs ++ [c]) = vc_cw dA ad i cs ++ [(ad (i + cs.length), vc_ce dA ad c)]
  | [], i => by simp [vc_cw]
  | d :: r, i => by
    simp only [List.cons_append, vc_cw, List.length_cons]
    rw [vc_cw_app dA ad c r (i + 1), Nat.add_assoc, Nat.add_comm 1 r.length]
theorem vc_cw_D (dA : Nat → ClassId) (base : Nat × (Nat → Nat)) (cs : vc_W) (hlen : cs.length ≤ 99) : va_D (fun q => base.1 ≤ q) (vc_cw dA (vc_ad base) 0 cs) := by
  refine ⟨fun i j x y hx hy hxy => ?_, fun k q hk => ?_⟩
  · rw [vc_cw_at] at hx hy
    cases hi : cs[i]? with
    | none => rw [hi] at hx; cases hx
    | some ci =>
      cases hj : cs[j]? with
      | none => rw [hj] at hy; cases hy
      | some cj =>
        rw [hi] at hx
        rw [hj] at hy
        cases hx
        cases hy
        have l1 := (List.getElem?_eq_some_iff.mp hi).1
        have l2 := (List.getElem?_eq_some_iff.mp hj).1
        have hxy : vc_ad base (0 + i) = vc_ad base (0 + j) := hxy
        rw [Nat.zero_add, Nat.zero_add, vc_ad_lt base (by omega), vc_ad_lt base (by omega)] at hxy
        omega
  · rw [vc_cw_at] at hk
    cases hi : cs[k]? with
    | none => rw [hi] at hk; cases hk
    | some ci =>
      rw [hi] at hk
      cases hk
      have l1 := (List.getElem?_eq_some_iff.mp hi).1
      show base.1 ≤ vc_ad base (0 + k)
      rw [Nat.zero_add, vc_ad_lt base (by omega)]
      omega
