/-! THE WALKER (my own): a weakest precondition over javac's instructions, for methods that make no cell. The cells have fixed places; a store gives what ints and longs they hold. -/
/-- what the cells hold: ints and longs, by place and number -/
abbrev vg_S : Type := (Nat → Nat → Int32) × (Nat → Nat → Int64)
/-- a cell's shape: an array (0 ints, 1 longs, from 2 on references; its length; the places it holds), or an object (its class, its fields: 0 int, 1 long, n + 2 the place n) -/
abbrev vg_C : Type := (Nat × Nat × List Nat) ⊕ (Nat × List Nat)
/-- the locals -/
abbrev vg_L : Type := List (Option Value)
/-- an instruction: pc, the instruction, its length, and four numbers that say what it links -/
abbrev vg_I : Type := Nat × Instr × Nat × Nat × Nat × Nat × Int
/-- a method: name, code, locals, answer's type, frames, words, kind of answer (0 none, 1 int, 2 long, 3 a place), places that it may answer, whether it is static; what it asks; what it gives -/
abbrev vg_R : Type := (MethodName × ByteArray × Nat × Option FieldType × Nat × Nat × Nat × List Nat × Bool) × (List Value → vg_S → Prop) × (List Value → vg_S → Option Value → vg_S → Prop)
def vg_nth {α : Type} : List α → Nat → Option α
  | [], _ => none
  | x :: _, 0 => some x
  | _ :: r, i + 1 => vg_nth r i
theorem vg_nth_eq {α : Type} : ∀ (l : List α) (i : Nat), vg_nth l i = l[i]?
  | [], i => by simp [vg_nth]
  | x :: r, 0 => by simp [vg_nth]
  | x :: r, i + 1 => by simp [vg_nth, vg_nth_eq r i]
def vg_w1 (σ : vg_S) (k : Nat) (f : Nat → Int32) : vg_S := (fun a => if a = k then f else σ.1 a, σ.2)
def vg_w2 (σ : vg_S) (k : Nat) (f : Nat → Int64) : vg_S := (σ.1, fun a => if a = k then f else σ.2 a)
def vg_u1 (σ : vg_S) (k i : Nat) (x : Int32) : vg_S := vg_w1 σ k (upd (σ.1 k) i x)
def vg_u2 (σ : vg_S) (k i : Nat) (x : Int64) : vg_S := vg_w2 σ k (vp_updL (σ.2 k) i x)
/-! locals -/
def vg_k : Option Value → Option Value
  | some (.long _) => none
  | some (.double _) => none
  | x => x
def vg_s1 : vg_L → Nat → Value → vg_L
  | [], _, _ => []
  | _ :: r, 0, v => some v :: r
  | x :: r, 1, v => vg_k x :: vg_s1 r 0 v
  | x :: r, i + 2, v => x :: vg_s1 r (i + 1) v
def vg_n0 : vg_L → vg_L
  | [] => []
  | _ :: r => none :: r
def vg_s2 : vg_L → Nat → Value → vg_L
  | [], _, _ => []
  | _ :: r, 0, v => some v :: vg_n0 r
  | x :: r, 1, v => vg_k x :: vg_s2 r 0 v
  | x :: r, i + 2, v => x :: vg_s2 r (i + 1) v
def vg_cat : List Value → Nat
  | [] => 0
  | v :: r => v.category + vg_cat r
/-- the last n of a stack, as arguments, in front of acc -/
def vg_args : Nat → List Value → List Value → List Value
  | 0, _, acc => acc
  | n + 1, v :: r, acc => vg_args n r (v :: acc)
  | _ + 1, [], acc => acc
def vg_drop : Nat → List Value → List Value
  | 0, r => r
  | n + 1, _ :: r => vg_drop n r
  | _ + 1, [] => []
/-- an index lies within -/
def vg_ix (i : Int32) (n : Nat) : Prop := 0 ≤ i.toInt ∧ i.toInt < (n : Int)
def vg_c0 (c : Jvm.ClassFile.Cond) (x : Int32) : Prop := match c with
  | .eq => x.toInt = 0
  | .ne => ¬ x.toInt = 0
  | .lt => x.toInt < 0
  | .ge => 0 ≤ x.toInt
  | .gt => 0 < x.toInt
  | .le => x.toInt ≤ 0
def vg_c2 (c : Jvm.ClassFile.Cond) (x y : Int32) : Prop := match c with
  | .eq => x.toInt = y.toInt
  | .ne => ¬ x.toInt = y.toInt
  | .lt => x.toInt < y.toInt
  | .ge => y.toInt ≤ x.toInt
  | .gt => y.toInt < x.toInt
  | .le => x.toInt ≤ y.toInt
/-- every place of a list that the index may name -/
def vg_al (f : Nat → Prop) (i : Int32) : Nat → List Nat → Prop
  | _, [] => True
  | j, k :: r => (i.toInt = (j : Int) → f k) ∧ vg_al f i (j + 1) r
def vg_any (f : Nat → Prop) : List Nat → Prop
  | [] => True
  | k :: r => f k ∧ vg_any f r
def vg_tb (f : Nat → Prop) (pc : Nat) (x : Int32) : Int → List Int → Prop
  | _, [] => True
  | lo, o :: r => (x.toInt = lo → f ((pc : Int) + o).toNat) ∧ vg_tb f pc x (lo + 1) r
def vg_lk (f : Nat → Prop) (pc : Nat) (x : Int32) (d : Int) : List (Int × Int) → Prop
  | [] => f ((pc : Int) + d).toNat
  | (a, o) :: r => (x.toInt = a → f ((pc : Int) + o).toNat) ∧ (¬ x.toInt = a → vg_lk f pc x d r)
/-- a call -/
def vg_call (r : vg_R) (as rest : List Value) (σ : vg_S) (K : List Value → vg_S → Prop) : Prop :=
  vg_cat rest ≤ 8 ∧ r.2.1 as σ ∧ (match r.1.2.2.2.2.2.2.1 with
  | 0 => ∀ σ', r.2.2 as σ none σ' → K rest σ'
  | 1 => ∀ (x : Int32) σ', r.2.2 as σ (some (.int x)) σ' → K (.int x :: rest) σ'
  | 2 => ∀ (x : Int64) σ', r.2.2 as σ (some (.long x)) σ' → K (.long x :: rest) σ'
  | _ => vg_any (fun k => ∀ σ', r.2.2 as σ (some (.ref k)) σ' → K (.ref k :: rest) σ') r.1.2.2.2.2.2.2.2.1)
def vg_jp (J : Nat → Prop) (pc : Nat) (off : Int) : Prop := J ((pc : Int) + off).toNat
/-- one instruction: K goes on behind it, J goes on at another pc, po is what the method owes at its end -/
def vg_ex (sh : List vg_C) (ro : Nat → Option (Nat × (Nat → Int32))) (cs : List vg_R) (po : Option Value → vg_S → Prop) (K : vg_L → List Value → vg_S → Prop) (J : vg_L → List Value → vg_S → Nat → Prop) (q : vg_I) (L : vg_L) (st : List Value) (σ : vg_S) : Prop := match q with
  | (pc, op, _, a, b, c, z) => match op with
    | .iconst i => K L (.int (Int32.ofInt i) :: st) σ
    | .bipush i => K L (.int (Int32.ofInt i) :: st) σ
    | .sipush i => K L (.int (Int32.ofInt i) :: st) σ
    | .lconst i => K L (.long (Int64.ofNat (i : Nat)) :: st) σ
    | .ldc _ => K L (.int (Int32.ofInt z) :: st) σ
    | .ldc_w _ => K L (.int (Int32.ofInt z) :: st) σ
    | .ldc2_w _ => K L (.long (Int64.ofInt z) :: st) σ
    | .iload_n i => (match vg_nth L i with
      | some (some (.int x)) => K L (.int x :: st) σ
      | _ => False)
    | .iload i => (match vg_nth L i with
      | some (some (.int x)) => K L (.int x :: st) σ
      | _ => False)
    | .lload_n i => (match vg_nth L i with
      | some (some (.long x)) => K L (.long x :: st) σ
      | _ => False)
    | .lload i => (match vg_nth L i with
      | some (some (.long x)) => K L (.long x :: st) σ
      | _ => False)
    | .aload_n i => (match vg_nth L i with
      | some (some (.ref x)) => K L (.ref x :: st) σ
      | _ => False)
    | .aload i => (match vg_nth L i with
      | some (some (.ref x)) => K L (.ref x :: st) σ
      | _ => False)
    | .istore_n i => (match vg_nth L i, st with
      | some _, .int x :: st => K (vg_s1 L i (.int x)) st σ
      | _, _ => False)
    | .istore i => (match vg_nth L i, st with
      | some _, .int x :: st => K (vg_s1 L i (.int x)) st σ
      | _, _ => False)
    | .astore_n i => (match vg_nth L i, st with
      | some _, .ref x :: st => K (vg_s1 L i (.ref x)) st σ
      | _, _ => False)
    | .astore i => (match vg_nth L i, st with
      | some _, .ref x :: st => K (vg_s1 L i (.ref x)) st σ
      | _, _ => False)
    | .lstore_n i => (match vg_nth L (i + 1), st with
      | some _, .long x :: st => K (vg_s2 L i (.long x)) st σ
      | _, _ => False)
    | .lstore i => (match vg_nth L (i + 1), st with
      | some _, .long x :: st => K (vg_s2 L i (.long x)) st σ
      | _, _ => False)
    | .iinc i n => (match vg_nth L i with
      | some (some (.int x)) => ∀ v, v = x + Int32.ofInt n → K (vg_s1 L i (.int v)) st σ
      | _ => False)
    | .iadd => (match st with
      | .int y :: .int x :: st => ∀ v, v = x + y → K L (.int v :: st) σ
      | _ => False)
    | .isub => (match st with
      | .int y :: .int x :: st => ∀ v, v = x - y → K L (.int v :: st) σ
      | _ => False)
    | .imul => (match st with
      | .int y :: .int x :: st => ∀ v, v = x * y → K L (.int v :: st) σ
      | _ => False)
    | .iand => (match st with
      | .int y :: .int x :: st => ∀ v, v = x &&& y → K L (.int v :: st) σ
      | _ => False)
    | .ior => (match st with
      | .int y :: .int x :: st => ∀ v, v = x ||| y → K L (.int v :: st) σ
      | _ => False)
    | .ixor => (match st with
      | .int y :: .int x :: st => ∀ v, v = x ^^^ y → K L (.int v :: st) σ
      | _ => False)
    | .ishl => (match st with
      | .int y :: .int x :: st => ∀ v, v = x <<< (y &&& 31) → K L (.int v :: st) σ
      | _ => False)
    | .ishr => (match st with
      | .int y :: .int x :: st => ∀ v, v = x >>> (y &&& 31) → K L (.int v :: st) σ
      | _ => False)
    | .iushr => (match st with
      | .int y :: .int x :: st => ∀ v, v = (x.toUInt32 >>> (y.toUInt32 &&& Int32.toUInt32 31)).toInt32 → K L (.int v :: st) σ
      | _ => False)
    | .ineg => (match st with
      | .int x :: st => ∀ v, v = -x → K L (.int v :: st) σ
      | _ => False)
    | .idiv => (match st with
      | .int y :: .int x :: st => ¬ y.toInt = 0 ∧ ∀ v, v = x / y → K L (.int v :: st) σ
      | _ => False)
    | .irem => (match st with
      | .int y :: .int x :: st => ¬ y.toInt = 0 ∧ ∀ v, v = x - x / y * y → K L (.int v :: st) σ
      | _ => False)
    | .ladd => (match st with
      | .long y :: .long x :: st => ∀ v, v = x + y → K L (.long v :: st) σ
      | _ => False)
    | .lsub => (match st with
      | .long y :: .long x :: st => ∀ v, v = x - y → K L (.long v :: st) σ
      | _ => False)
    | .lmul => (match st with
      | .long y :: .long x :: st => ∀ v, v = x * y → K L (.long v :: st) σ
      | _ => False)
    | .land => (match st with
      | .long y :: .long x :: st => ∀ v, v = x &&& y → K L (.long v :: st) σ
      | _ => False)
    | .lneg => (match st with
      | .long x :: st => ∀ v, v = -x → K L (.long v :: st) σ
      | _ => False)
    | .ldiv => (match st with
      | .long y :: .long x :: st => ¬ y.toInt = 0 ∧ ∀ v, v = x / y → K L (.long v :: st) σ
      | _ => False)
    | .lrem => (match st with
      | .long y :: .long x :: st => ¬ y.toInt = 0 ∧ ∀ v, v = x - x / y * y → K L (.long v :: st) σ
      | _ => False)
    | .lshl => (match st with
      | .int y :: .long x :: st => ∀ v, v = x <<< (y.toInt64 &&& 63) → K L (.long v :: st) σ
      | _ => False)
    | .lshr => (match st with
      | .int y :: .long x :: st => ∀ v, v = x >>> (y.toInt64 &&& 63) → K L (.long v :: st) σ
      | _ => False)
    | .lcmp => (match st with
      | .long y :: .long x :: st => ∀ v, v = lg_cmp x y → K L (.int v :: st) σ
      | _ => False)
    | .i2l => (match st with
      | .int x :: st => ∀ v, v = x.toInt64 → K L (.long v :: st) σ
      | _ => False)
    | .l2i => (match st with
      | .long x :: st => ∀ v, v = x.toInt32 → K L (.int v :: st) σ
      | _ => False)
    | .dup => (match st with
      | .int x :: st => K L (.int x :: .int x :: st) σ
      | .ref x :: st => K L (.ref x :: .ref x :: st) σ
      | _ => False)
    | .dup2 => (match st with
      | .int x :: .ref y :: st => K L (.int x :: .ref y :: .int x :: .ref y :: st) σ
      | .long x :: st => K L (.long x :: .long x :: st) σ
      | _ => False)
    | .pop => (match st with
      | .int _ :: st => K L st σ
      | _ => False)
    | .pop2 => (match st with
      | .long _ :: st => K L st σ
      | _ => False)
    | .goto off => vg_jp (J L st σ) pc off
    | .ifCond cd off => (match st with
      | .int x :: st => (vg_c0 cd x → vg_jp (J L st σ) pc off) ∧ (¬ vg_c0 cd x → K L st σ)
      | _ => False)
    | .if_icmp cd off => (match st with
      | .int y :: .int x :: st => (vg_c2 cd x y → vg_jp (J L st σ) pc off) ∧ (¬ vg_c2 cd x y → K L st σ)
      | _ => False)
    | .tableswitch d lo hi offs => (match st with
      | .int x :: st => (x.toInt < lo ∨ hi < x.toInt → vg_jp (J L st σ) pc d) ∧ vg_tb (J L st σ) pc x lo offs.toList
      | _ => False)
    | .lookupswitch d ps => (match st with
      | .int x :: st => vg_lk (J L st σ) pc x d ps.toList
      | _ => False)
    | .getfield _ => (match st with
      | .ref r :: st => (match vg_nth sh r with
        | some (.inr (ci, ks)) => (match Nat.beq ci b, vg_nth ks c with
          | true, some 0 => ∀ v, v = σ.1 r c → K L (.int v :: st) σ
          | true, some 1 => ∀ v, v = σ.2 r c → K L (.long v :: st) σ
          | true, some (n + 2) => K L (.ref n :: st) σ
          | _, _ => False)
        | _ => False)
      | _ => False)
    | .putfield _ => (match st with
      | .int x :: .ref r :: st => (match vg_nth sh r with
        | some (.inr (ci, ks)) => (match Nat.beq ci b, vg_nth ks c, z with
          | true, some 0, .ofNat 0 => ∀ σ', σ' = vg_u1 σ r c x → K L st σ'
          | true, some 0, .ofNat 1 => (x = 0 ∨ x = 1) ∧ ∀ σ', σ' = vg_u1 σ r c x → K L st σ'
          | _, _, _ => False)
        | _ => False)
      | .long x :: .ref r :: st => (match vg_nth sh r with
        | some (.inr (ci, ks)) => (match Nat.beq ci b, vg_nth ks c, z with
          | true, some 1, .ofNat 2 => ∀ σ', σ' = vg_u2 σ r c x → K L st σ'
          | _, _, _ => False)
        | _ => False)
      | _ => False)
    | .getstatic _ => (match ro a with
      | some _ => K L (.ref a :: st) σ
      | none => False)
    | .iaload => (match st with
      | .int i :: .ref r :: st => (match vg_nth sh r with
        | some (.inl (0, n, _)) => vg_ix i n ∧ ∀ v, v = σ.1 r i.toNatClampNeg → K L (.int v :: st) σ
        | none => (match ro r with
          | some (n, f) => vg_ix i n ∧ ∀ v, v = f i.toNatClampNeg → K L (.int v :: st) σ
          | none => False)
        | _ => False)
      | _ => False)
    | .laload => (match st with
      | .int i :: .ref r :: st => (match vg_nth sh r with
        | some (.inl (1, n, _)) => vg_ix i n ∧ ∀ v, v = σ.2 r i.toNatClampNeg → K L (.long v :: st) σ
        | _ => False)
      | _ => False)
    | .aaload => (match st with
      | .int i :: .ref r :: st => (match vg_nth sh r with
        | some (.inl (_ + 2, n, rs)) => Nat.ble n rs.length = true ∧ vg_ix i n ∧ vg_al (fun k => K L (.ref k :: st) σ) i 0 rs
        | _ => False)
      | _ => False)
    | .iastore => (match st with
      | .int x :: .int i :: .ref r :: st => (match vg_nth sh r with
        | some (.inl (0, n, _)) => vg_ix i n ∧ ∀ σ', σ' = vg_u1 σ r i.toNatClampNeg x → K L st σ'
        | _ => False)
      | _ => False)
    | .lastore => (match st with
      | .long x :: .int i :: .ref r :: st => (match vg_nth sh r with
        | some (.inl (1, n, _)) => vg_ix i n ∧ ∀ σ', σ' = vg_u2 σ r i.toNatClampNeg x → K L st σ'
        | _ => False)
      | _ => False)
    | .arraylength => (match st with
      | .ref r :: st => (match vg_nth sh r with
        | some (.inl (_, n, _)) => K L (.int (Int32.ofNat n) :: st) σ
        | none => (match ro r with
          | some (n, _) => K L (.int (Int32.ofNat n) :: st) σ
          | none => False)
        | _ => False)
      | _ => False)
    | .invokevirtual _ => (match vg_nth cs a, vg_drop c st with
      | some r, .ref o :: rest => (match vg_nth sh o with
        | some (.inr (ci, _)) => (match Nat.beq ci b, Nat.ble c st.length with
          | true, true => vg_call r (.ref o :: vg_args c st []) rest σ (fun st σ => K L st σ)
          | _, _ => False)
        | _ => False)
      | _, _ => False)
    | .invokestatic _ => (match b with
      | 3 => (match st with
        | .int n :: .int dp :: .ref kd :: .int sp :: .ref ks :: rest => (match vg_nth sh ks, vg_nth sh kd with
          | some (.inl (0, n0, _)), some (.inl (0, n1, _)) => vg_cat rest ≤ 8 ∧ 0 ≤ sp.toInt ∧ 0 ≤ dp.toInt ∧ 0 ≤ n.toInt ∧ sp.toInt + n.toInt ≤ (n0 : Int) ∧ dp.toInt + n.toInt ≤ (n1 : Int) ∧ ∀ σ', σ' = vg_w1 σ kd (va_cpy (σ.1 ks) (σ.1 kd) sp.toNatClampNeg dp.toNatClampNeg n.toNatClampNeg) → K L rest σ'
          | _, _ => False)
        | _ => False)
      | _ => (match vg_nth cs a, Nat.ble c st.length with
        | some r, true => vg_call r (vg_args c st []) (vg_drop c st) σ (fun st σ => K L st σ)
        | _, _ => False))
    | .ireturn => (match st, z with
      | [.int x], .ofNat 0 => po (some (.int x)) σ
      | [.int x], .ofNat 1 => (x = 0 ∨ x = 1) ∧ po (some (.int x)) σ
      | _, _ => False)
    | .lreturn => (match st with
      | [.long x] => po (some (.long x)) σ
      | _ => False)
    | .areturn => (match st with
      | [.ref k] => po (some (.ref k)) σ
      | _ => False)
    | .return_ => (match st with
      | [] => po none σ
      | _ => False)
    | _ => False
def vg_find : List vg_I → Nat → List vg_I
  | [], _ => []
  | q :: r, pc => match Nat.beq q.1 pc with
    | true => q :: r
    | false => vg_find r pc
/-- a cut: which locals are kept, what holds there, a measure -/
abbrev vg_V : Type := List Bool × (vg_L → vg_S → Prop) × (vg_L → vg_S → Nat)
def vg_mask : List Bool → vg_L → vg_L
  | _, [] => []
  | [], _ :: r => none :: vg_mask [] r
  | true :: b, x :: r => x :: vg_mask b r
  | false :: b, _ :: r => none :: vg_mask b r
def vg_lkp : List (Nat × vg_V) → Nat → Option vg_V
  | [], _ => none
  | q :: r, h => match Nat.beq q.1 h with
    | true => some q.2
    | false => vg_lkp r h
/-- the int in a local -/
def vg_li (L : vg_L) (i : Nat) : Int32 := match vg_nth L i with
  | some (some (.int x)) => x
  | _ => 0
def vg_bd (bd : Option Nat) (k : Nat) : Prop := match bd with
  | none => True
  | some m => k < m
/-- the walk: at a cut the cut's word is owed (and, with a bound, a lesser measure) -/
def vg (sh : List vg_C) (ro : Nat → Option (Nat × (Nat → Int32))) (cs : List vg_R) (po : Option Value → vg_S → Prop) (I : Nat → Option vg_V) (cd : List vg_I) (bd : Option Nat) : Nat → Bool → List vg_I → vg_L → List Value → vg_S → Prop
  | 0, _, _, _, _, _ => False
  | _ + 1, _, [], _, _, _ => False
  | n + 1, true, q :: nx, L, st, σ => vg_ex sh ro cs po (fun L st σ => vg sh ro cs po I cd bd n false nx L st σ) (fun L st σ t => vg sh ro cs po I cd bd n false (vg_find cd t) L st σ) q L st σ
  | n + 1, false, q :: nx, L, st, σ => match I q.1 with
    | none => vg_ex sh ro cs po (fun L st σ => vg sh ro cs po I cd bd n false nx L st σ) (fun L st σ t => vg sh ro cs po I cd bd n false (vg_find cd t) L st σ) q L st σ
    | some iv => st = [] ∧ iv.2.1 (vg_mask iv.1 L) σ ∧ vg_bd bd (iv.2.2 (vg_mask iv.1 L) σ)
