
/-! THE WALKER IS SOUND -/
theorem vg_b_if_eq {x : Int32} : (x = 0) ↔ vg_c0 .eq x := by
  simp only [vg_c0, Int32.lt_iff_toInt_lt, Int32.le_iff_toInt_le, ← Int32.toInt_inj]
  simp
theorem vg_b_if_ne {x : Int32} : (¬ x = 0) ↔ vg_c0 .ne x := by
  simp only [vg_c0, Int32.lt_iff_toInt_lt, Int32.le_iff_toInt_le, ← Int32.toInt_inj]
  simp
theorem vg_b_if_lt {x : Int32} : (x < 0) ↔ vg_c0 .lt x := by
  simp only [vg_c0, Int32.lt_iff_toInt_lt, Int32.le_iff_toInt_le, ← Int32.toInt_inj]
  simp
theorem vg_b_if_ge {x : Int32} : (0 ≤ x) ↔ vg_c0 .ge x := by
  simp only [vg_c0, Int32.lt_iff_toInt_lt, Int32.le_iff_toInt_le, ← Int32.toInt_inj]
  simp
theorem vg_b_if_gt {x : Int32} : (0 < x) ↔ vg_c0 .gt x := by
  simp only [vg_c0, Int32.lt_iff_toInt_lt, Int32.le_iff_toInt_le, ← Int32.toInt_inj]
  simp
theorem vg_b_if_le {x : Int32} : (x ≤ 0) ↔ vg_c0 .le x := by
  simp only [vg_c0, Int32.lt_iff_toInt_lt, Int32.le_iff_toInt_le, ← Int32.toInt_inj]
  simp
theorem vg_b_icmp_eq {x y : Int32} : (x = y) ↔ vg_c2 .eq x y := by
  simp only [vg_c2, Int32.lt_iff_toInt_lt, Int32.le_iff_toInt_le, ← Int32.toInt_inj]
theorem vg_b_icmp_ne {x y : Int32} : (¬ x = y) ↔ vg_c2 .ne x y := by
  simp only [vg_c2, Int32.lt_iff_toInt_lt, Int32.le_iff_toInt_le, ← Int32.toInt_inj]
theorem vg_b_icmp_lt {x y : Int32} : (x < y) ↔ vg_c2 .lt x y := by
  simp only [vg_c2, Int32.lt_iff_toInt_lt, Int32.le_iff_toInt_le, ← Int32.toInt_inj]
theorem vg_b_icmp_ge {x y : Int32} : (y ≤ x) ↔ vg_c2 .ge x y := by
  simp only [vg_c2, Int32.lt_iff_toInt_lt, Int32.le_iff_toInt_le, ← Int32.toInt_inj]
theorem vg_b_icmp_gt {x y : Int32} : (y < x) ↔ vg_c2 .gt x y := by
  simp only [vg_c2, Int32.lt_iff_toInt_lt, Int32.le_iff_toInt_le, ← Int32.toInt_inj]
theorem vg_b_icmp_le {x y : Int32} : (x ≤ y) ↔ vg_c2 .le x y := by
  simp only [vg_c2, Int32.lt_iff_toInt_lt, Int32.le_iff_toInt_le, ← Int32.toInt_inj]
def vg_GW : List Cond := lw_tbl.filter goodWord
def vg_wd (i : Nat) (w : Cond) : Bool := decide (vg_nth lw_tbl i = some w) && goodWord w
theorem vg_wd_in {i : Nat} {w : Cond} (h : vg_wd i w = true) : w ∈ vg_GW := by
  simp only [vg_wd, Bool.and_eq_true, decide_eq_true_eq, vg_nth_eq] at h
  exact List.mem_filter.mpr ⟨List.mem_of_getElem? h.1, h.2⟩
theorem vg_GW_good : GoodIn vg_GW vg_GW := fun w h => ⟨h, good_of_word (List.mem_filter.mp h).2⟩
/-- links to a nest mate's private methods -/
def vg_nest : List Cond := [.methodLinkNest "NoiseShaper$Taps" 13 yX10_within "NoiseShaper", .methodLinkNest "NoiseShaper$Source" 23 yX10_putTo "NoiseShaper", .methodLinkNest "NoiseShaper$Loop" 149 yX10_putTo "NoiseShaper", .methodLinkNest "NoiseShaper$Elements" 103 yX10_putTo "NoiseShaper"]
def vg_stat : List (Nat × String) := [(100, "SHORT"), (101, "MIDDLE"), (102, "LONG")]
/-- the static rows of taps -/
def vg_ro0 (k : Nat) : Option (Nat × (Nat → Int32)) := match k with
  | 100 => some (3, fun j => ([1, 2, 1] : List Int32).getD j 0)
  | 101 => some (7, fun j => ([-1, 0, 9, 16, 9, 0, -1] : List Int32).getD j 0)
  | 102 => some (11, fun j => ([3, 0, -25, 0, 150, 256, 150, 0, -25, 0, 3] : List Int32).getD j 0)
  | _ => none
def vg_len (op : Instr) (n : Nat) : Nat := match op with
  | .bipush _ => 2
  | .sipush _ => 3
  | .ldc _ => 2
  | .ldc_w _ => 3
  | .ldc2_w _ => 3
  | .iload _ => 2
  | .lload _ => 2
  | .aload _ => 2
  | .istore _ => 2
  | .lstore _ => 2
  | .astore _ => 2
  | .iinc _ _ => 3
  | .goto _ => 3
  | .ifCond _ _ => 3
  | .if_icmp _ _ => 3
  | .getfield _ => 3
  | .putfield _ => 3
  | .getstatic _ => 3
  | .invokevirtual _ => 3
  | .invokestatic _ => 3
  | .tableswitch _ _ _ _ => n
  | .lookupswitch _ _ => n
  | _ => 1
def vg_zt (z : Int) : FieldType := match z with
  | .ofNat 0 => .int
  | .ofNat 1 => .boolean
  | _ => .long
/-- what an instruction links is in the tables -/
def vg_lks (own : String) (cs : List vg_R) (rt : Option FieldType) (cp : Bool) (op : Instr) (a b c : Nat) (z : Int) : Bool := match op with
  | .bipush n => decide ((Int8.ofInt n).toInt32 = Int32.ofInt n)
  | .sipush n => decide ((Int16.ofInt n).toInt32 = Int32.ofInt n)
  | .ldc i => vg_wd a (.constant own i (Int32.ofInt z))
  | .ldc_w i => vg_wd a (.constant own i (Int32.ofInt z))
  | .ldc2_w i => vg_wd a (.constantLong own i (Int64.ofInt z))
  | .getfield i => (match vg_nth vwCl b with
    | some q => Nat.blt c q.2.2 && vg_wd a (.fieldLink own i (q.2.1 c).1 (q.2.1 c).2.1 (q.2.1 c).2.2.1)
    | none => false)
  | .putfield i => (match vg_nth vwCl b with
    | some q => Nat.blt c q.2.2 && vg_wd a (.fieldLink own i (q.2.1 c).1 (q.2.1 c).2.1 (q.2.1 c).2.2.1) && !(q.2.1 c).2.2.2 && decide (parseFieldDescriptor (q.2.1 c).2.2.1 = some (vg_zt z))
    | none => false)
  | .getstatic i => (match vg_nth vg_stat b with
    | some q => Nat.beq q.1 a && vg_wd z.toNat (.fieldLink own i "NoiseShaper$Taps" q.2 "[I")
    | none => false)
  | .invokevirtual i => (match vg_nth cs a, vg_nth vwCl b with
    | some r, some q => vg_wd z.toNat (.methodLink own i r.1.1) && decide (r.1.1.cls = q.1) && decide ((parseMethodDescriptor r.1.1.desc).map (fun d => d.parameters.length) = some c) && !r.1.2.2.2.2.2.2.2.2
    | _, _ => false)
  | .invokestatic i => (match b with
    | 1 => (match vg_nth cs a with
      | some r => vg_wd z.toNat (.methodLink own i r.1.1) && decide ((parseMethodDescriptor r.1.1.desc).map (fun d => d.parameters.length) = some c) && r.1.2.2.2.2.2.2.2.2
      | none => false)
    | 2 => (match vg_nth cs a with
      | some r => decide (vg_nth vg_nest z.toNat = some (.methodLinkNest own i r.1.1 "NoiseShaper")) && decide ((parseMethodDescriptor r.1.1.desc).map (fun d => d.parameters.length) = some c) && r.1.2.2.2.2.2.2.2.2
      | none => false)
    | 3 => cp && vg_wd z.toNat (.methodLink own i arraycopyName)
    | _ => false)
  | .ireturn => decide (rt = some (vg_zt z))
  | .lreturn => decide (rt = some .long)
  | .areturn => decide (rt = some (.array .int))
  | .return_ => decide (rt = none)
  | .lookupswitch _ ps => (ps.toList.zip (ps.toList.drop 1)).all (fun (a, next) => a.1 < next.1)
  | .tableswitch _ lo hi offs => decide (hi - lo + 1 = (offs.toList.length : Int))
  | _ => true
/-- targets lie within -/
def vg_tg (pc : Nat) (op : Instr) : Bool := match op with
  | .goto o => decide (0 ≤ (pc : Int) + o)
  | .ifCond _ o => decide (0 ≤ (pc : Int) + o)
  | .if_icmp _ o => decide (0 ≤ (pc : Int) + o)
  | .tableswitch d _ _ offs => decide (0 ≤ (pc : Int) + d) && offs.toList.all (fun o => decide (0 ≤ (pc : Int) + o))
  | .lookupswitch d ps => decide (0 ≤ (pc : Int) + d) && ps.toList.all (fun o => decide (0 ≤ (pc : Int) + o.2))
  | _ => true
def vg_ok (own : String) (cc : ByteArray) (cs : List vg_R) (rt : Option FieldType) (cp : Bool) (q : vg_I) : Bool := match q with
  | (pc, op, len, a, b, c, z) => decide (decode cc pc = .ok (op, len)) && Nat.beq len (vg_len op len) && vg_lks own cs rt cp op a b c z && vg_tg pc op
theorem vg_ok_spec {own : String} {cc : ByteArray} {cs : List vg_R} {rt : Option FieldType} {cp : Bool} {pc len a b c : Nat} {op : Instr} {z : Int} (h : vg_ok own cc cs rt cp (pc, op, len, a, b, c, z) = true) : decode cc pc = .ok (op, len) ∧ len = vg_len op len ∧ vg_lks own cs rt cp op a b c z = true ∧ vg_tg pc op = true := by
  simp only [vg_ok, Bool.and_eq_true, decide_eq_true_eq] at h
  exact ⟨h.1.1.1, Nat.eq_of_beq_eq_true h.1.1.2, h.1.2, h.2⟩
def vg_chain : List vg_I → Bool
  | [] => true
  | q :: r => (match r with
    | [] => true
    | q2 :: _ => Nat.beq (q.1 + q.2.2.1) q2.1) && vg_chain r
/-! contracts -/
def vg_ty (dA : Nat → ClassId) : List (ClassId × FieldType) := [(dA 0, .int), (dA 1, .long), (dA 2, .object "NoiseShaper$Fold"), (dA 3, .object "NoiseShaper$Latest")]
/-- what stays as it is: the tables, links to nest mates, rows that nobody writes -/
def vg_E (G : vg_G) (sh : List vg_C) (ro : Nat → Option (Nat × (Nat → Int32))) (U : State) : Prop := va_K G.1 vwCl (vg_ty G.2.1) U ∧ (∀ w ∈ vg_nest, va_Nw w U) ∧ (∀ k n f, ro k = some (n, f) → va_T .int (G.2.2 k) n (fun j => .int (f j)) (vg_A G.2.2 sh.length) U U.heap) ∧ ∀ q ∈ vg_stat, va_Z "NoiseShaper$Taps" q.2 "[I" (.ref (G.2.2 q.1)) (vg_A G.2.2 sh.length) U U.heap
theorem vg_nest_warm {s U : State} (hW : s.WarmedH U.vm) (h : ∀ w ∈ vg_nest, va_Nw w s) : ∀ w ∈ vg_nest, va_Nw w U := by
  intro w hw
  have h1 := h w hw
  simp only [vg_nest, List.mem_cons, List.not_mem_nil, or_false] at hw
  rcases hw with rfl | rfl | rfl | rfl <;> exact va_Nw.warmM hW h1
theorem vg_nest_same {s U : State} (hW : s.vm = U.vm) (h : ∀ w ∈ vg_nest, va_Nw w s) : ∀ w ∈ vg_nest, va_Nw w U := by
  intro w hw
  have h1 := h w hw
  simp only [vg_nest, List.mem_cons, List.not_mem_nil, or_false] at hw
  rcases hw with rfl | rfl | rfl | rfl <;> exact va_Nw.same rfl hW h1
theorem vg_E.go {G : vg_G} {sh : List vg_C} {ro ro' : Nat → Option (Nat × (Nat → Int32))} {s U : State} {H : Heap} {locs : List Loc} (h : vg_E G sh ro s) (hro : ∀ k x, ro' k = some x → ro k = some x) (hS : va_S (vg_A G.2.2 sh.length) s.heap H locs) (hU : U.heap = H) (hW : s.WarmedH U.vm) : vg_E G sh ro' U := by
  obtain ⟨h1, h2, h3, h4⟩ := h
  refine ⟨va_K.moved hW.alike h1, vg_nest_warm hW h2, fun k n f hk => ?_, fun q hq => ?_⟩
  · rw [hU]
    exact ((h3 k n f (hro k _ hk)).moved hW.alike).kept (fun a ha hn => hS.2.1 a ha hn)
  · rw [hU]
    exact ((h4 q hq).moved hW.alike).kept (fun a ha hn => hS.2.1 a ha hn)
theorem vg_E.blind {G : vg_G} {sh : List vg_C} {ro : Nat → Option (Nat × (Nat → Int32))} {U : State} (g : JFrame) (mk : MethodId) (a : Array Value) (h : vg_E G sh ro U) : vg_E G sh ro (U.calling g mk a) := by
  obtain ⟨h1, h2, h3, h4⟩ := h
  exact ⟨va_K.moved (u := U) (U := U.calling g mk a) (Vm.Alike.refl U.vm) h1, vg_nest_same (s := U) (U := U.calling g mk a) rfl h2, fun k n f hk => (h3 k n f hk).moved (u := U) (U := U.calling g mk a) (Vm.Alike.refl U.vm), fun q hq => (h4 q hq).moved (u := U) (U := U.calling g mk a) (Vm.Alike.refl U.vm)⟩
def vg_rf (r : vg_R) (v : Option Value) : Prop := match r.1.2.2.2.2.2.2.1 with
  | 0 => v = none
  | 1 => ∃ x, v = some (.int x)
  | 2 => ∃ x, v = some (.long x)
  | _ => ∃ k, k ∈ r.1.2.2.2.2.2.2.2.1 ∧ v = some (.ref k)
abbrev vg_P (G : vg_G) (sh : List vg_C) (σ : vg_S) (H : Heap) : Prop := va_P G.1 vwCl (vg_cw G.2.1 G.2.2 σ 0 sh) H
def vg_Q (G : vg_G) (sh : List vg_C) (r : vg_R) (as : List Value) (σ : vg_S) : Array Value → State → Outcome → State → Prop := fun _ st oc t => (∃ (v : Option Value) (σ' : vg_S), oc = .returned (v.map (vg_cv G.2.2)) ∧ vg_rf r v ∧ r.2.2 as σ v σ' ∧ vg_P G sh σ' t.heap) ∧ va_F (vg_A G.2.2 sh.length) st t
def vg_rok (r : vg_R) : Prop := Cond.code r.1.1 r.1.2.1 r.1.2.2.1 r.1.2.2.2.1 ∈ vg_GW ∧ Cond.initialized r.1.1.cls ∈ vg_GW ∧ (r.1.1.cls ≠ "java/lang/invoke/MethodHandle" ∧ r.1.1.cls ≠ "java/lang/invoke/VarHandle") ∧ plainFor r.1.1 = true ∧ (match r.1.2.2.2.2.2.2.2.2 with
  | true => Cond.static r.1.1 ∈ vg_GW
  | false => Cond.instanceMethod r.1.1 ∈ vg_GW ∧ Cond.selects r.1.1.cls r.1.1 r.1.1 ∈ vg_GW)
/-- a method keeps its word -/
def vg_Ct (l : Launch) (G : vg_G) (sh : List vg_C) (r : vg_R) : Prop := vg_rok r ∧ ∀ (as : List Value) (σ : vg_S), r.2.1 as σ → Met l r.1.1 (.code r.1.1 r.1.2.1 r.1.2.2.1 r.1.2.2.2.1 :: vg_GW) ({ frames := r.1.2.2.2.2.1, cells := 0, slots := 0, locals := r.1.2.2.2.2.2.1 }) (va_Pc (as.map (vg_cv G.2.2)) (fun U => vg_P G sh σ U.heap ∧ vg_E G sh vg_ro0 U)) (vg_Q G sh r as σ) 0 0 (vg_A G.2.2 sh.length)
def vg_isret (op : Instr) (z : Int) (v : Option Value) : Prop := match op, z, v with
  | .ireturn, .ofNat 0, some (.int _) => True
  | .ireturn, .ofNat 1, some (.int x) => x = 0 ∨ x = 1
  | .lreturn, _, some (.long _) => True
  | .areturn, _, some (.ref _) => True
  | .return_, _, none => True
  | _, _, _ => False
section VGS
variable {p : Program} {l : Launch} {e : Env} {R : Room} {s : State} {m : MethodId} {args : Array Value} {below : List Frame} {meth : Method} {c : Code} {cells slots : Nat} {Q : State → Prop}
variable {own : String} {cc : ByteArray} {nL : Nat} {G : vg_G} {sh : List vg_C} {ro : Nat → Option (Nat × (Nat → Int32))} {cs : List vg_R} {cp : Bool} {rt : Option FieldType} {po : Option Value → vg_S → Prop}
/-- where a walk stands -/
def vg_X (p : Program) (l : Launch) (R : Room) (s : State) (m : MethodId) (args : Array Value) (c : Code) (cells slots : Nat) (own : String) (cc : ByteArray) (nL : Nat) (G : vg_G) (sh : List vg_C) (ro : Nat → Option (Nat × (Nat → Int32))) (cs : List vg_R) (cp : Bool) : Prop :=
  p.tables.exec = Jvm.exec ∧ c.code = cc ∧ c.maxLocals = nL ∧ s.vm.findClass own = some m.cls ∧ (∀ w ∈ vg_GW, w.before args s = true) ∧ (∀ i j, i < sh.length → j < sh.length → G.2.2 i = G.2.2 j → i = j) ∧ vg_E G sh ro s ∧ (∀ k x, vg_ro0 k = some x → ro k = some x) ∧
  (∀ r ∈ cs, vg_Ct l G sh r ∧ r.1.2.2.2.2.1 + 1 ≤ R.frames ∧ 8 + (r.1.2.2.1 + 11) + r.1.2.2.2.2.2.1 ≤ R.locals) ∧ (cp = true → 1 ≤ R.frames ∧ 8 + (nativeFrameWords "java/lang/System" "arraycopy" 5 + 11) ≤ R.locals ∧ (Cond.native arraycopyName).before args s = true ∧ (Cond.static arraycopyName).before args s = true ∧ (Cond.initialized "java/lang/System").before args s = true) ∧ cells ≤ R.cells ∧ slots ≤ R.slots
/-- the classes' words -/
theorem vg_cls {b : Nat} {q : vw_C} (h : vg_nth vwCl b = some q) : (∀ w ∈ u_ws q.1 q.2.1 q.2.2, w ∈ vg_GW) ∧ (∀ a, a < q.2.2 → ∀ b, b < q.2.2 → a ≠ b → (q.2.1 a).2.1 ≠ (q.2.1 b).2.1) ∧ ∃ ty : Nat → FieldType, ∀ k, k < q.2.2 → parseFieldDescriptor (q.2.1 k).2.2.1 = some (ty k) := by
  have good : ∀ (C : String) (T : u_T) (N : Nat), (∀ w ∈ u_ws C T N, w ∈ lw_tbl) → ∀ w ∈ u_ws C T N, w ∈ vg_GW := by
    intro C T N hin w hw
    refine List.mem_filter.mpr ⟨hin w hw, ?_⟩
    obtain ⟨k, -, rfl⟩ := List.mem_map.mp hw
    unfold u_lay
    split <;> rfl
  match b, h with
  | 0, h => cases h; exact ⟨good _ _ _ inX0, nmX0, tyX0, tyX0_ok⟩
  | 1, h => cases h; exact ⟨good _ _ _ inX1, nmX1, tyX1, tyX1_ok⟩
  | 2, h => cases h; exact ⟨good _ _ _ inX2, nmX2, tyX2, tyX2_ok⟩
  | 3, h => cases h; exact ⟨good _ _ _ inX3, nmX3, tyX3, tyX3_ok⟩
  | 4, h => cases h; exact ⟨good _ _ _ inX4, nmX4, tyX4, tyX4_ok⟩
  | 5, h => cases h; exact ⟨good _ _ _ inX5, nmX5, tyX5, tyX5_ok⟩
  | 6, h => cases h; exact ⟨good _ _ _ inX6, nmX6, tyX6, tyX6_ok⟩
  | 7, h => cases h; exact ⟨good _ _ _ inX7, nmX7, tyX7, tyX7_ok⟩
  | 8, h => cases h; exact ⟨good _ _ _ inX8, nmX8, tyX8, tyX8_ok⟩
  | 9, h => cases h; exact ⟨good _ _ _ inX9, nmX9, tyX9, tyX9_ok⟩
  | 10, h => cases h; exact ⟨good _ _ _ inX10, nmX10, tyX10, tyX10_ok⟩
  | 11, h => cases h; exact ⟨good _ _ _ inX11, nmX11, tyX11, tyX11_ok⟩
  | n + 12, h => cases h
theorem vg_nr {z : Int} {x : Int32} (h : z = 0 ∨ (z = 1 ∧ (x = 0 ∨ x = 1))) : narrow (vg_zt z) (.int x) = .int x ∧ fits (vg_zt z) (.int x) = true := by
  rcases h with rfl | ⟨rfl, rfl | rfl⟩ <;> exact ⟨rfl, rfl⟩
/-- behind a call -/
theorem vg_cont {H : Heap} {locs : List Loc} {pc : Nat} {ls : Array Slot} {st0 rest as : List Value} {σ : vg_S} {r : vg_R} {aa : Array Value} (hr : va_Run p l e R s m args below meth c H locs cells slots 0 0 (F0 m pc ls st0) rest (vg_Q G sh r as σ aa) (vg_A G.2.2 sh.length)) (hS : va_S (vg_A G.2.2 sh.length) s.heap H locs)
    (kk : ∀ (v : Option Value) (σ' : vg_S) (H1 : Heap) (locs1 : List Loc), vg_rf r v → r.2.2 as σ v σ' → vg_P G sh σ' H1 → va_S (vg_A G.2.2 sh.length) s.heap H1 locs1 → W p l e R s m args below meth c H1 locs1 cells slots Q (F0 m (pc + 3) ls ((v.map (vg_cv G.2.2)).toList ++ rest))) : W p l e R s m args below meth c H locs cells slots Q (F0 m pc ls st0) := by
  intro T hT X
  obtain ⟨v0, st₀, t, T', L, h0, X', hL, e1, e2, ⟨⟨v, σ', hv, hf, hp, hb⟩, hz, hk⟩, st⟩ := hr T hT X
  cases hv
  rw [h0] at hz hk
  obtain ⟨t2, a1, b1⟩ := kk v σ' T'.heap (locs ++ L) hf hp (by rw [e1]; exact hb)
    ⟨Nat.le_trans hS.1 (by rw [e1]; exact hz), fun q h1 h2 => by rw [e1, hk q (Nat.lt_of_lt_of_le h1 hS.1) h2]; exact hS.2.1 q h1 h2, fun q hq => by
      rcases List.mem_append.mp hq with h | h
      · exact hS.2.2 q h
      · exact hL q h⟩ T' rfl X'
  exact ⟨t2, st t2 a1, b1⟩
theorem vg_pre {σ : vg_S} {H : Heap} {locs : List Loc} (hE : vg_E G sh ro s) (hro : ∀ k x, vg_ro0 k = some x → ro k = some x) (hP : vg_P G sh σ H) (hS : va_S (vg_A G.2.2 sh.length) s.heap H locs) (as : List Value) : PreS s H (va_Pc (as.map (vg_cv G.2.2)) (fun U => vg_P G sh σ U.heap ∧ vg_E G sh vg_ro0 U)) (as.map (vg_cv G.2.2)) := by
  refine ⟨fun a U g mk q => ⟨q.1, q.2.1, q.2.2.blind g mk a⟩, fun U hU hW => ⟨rfl, by rw [hU]; exact hP, hE.go hro hS hU hW⟩⟩
theorem vg_sig {y : MethodName} {n : Nat} (h : (parseMethodDescriptor y.desc).map (fun d => d.parameters.length) = some n) : ∀ sig, parseMethodDescriptor y.desc = some sig → n = sig.parameters.length := by
  intro sig hs
  rw [hs] at h
  exact (Option.some.inj h).symm
/-- the answer of a call, by its kind -/
theorem vg_ans {r : vg_R} {as rest : List Value} {σ σ' : vg_S} {v : Option Value} {K : List Value → vg_S → Prop} (h : vg_call r as rest σ K) (hf : vg_rf r v) (hp : r.2.2 as σ v σ') : K (v.toList ++ rest) σ' := by
  obtain ⟨-, -, h⟩ := h
  unfold vg_rf at hf
  split at h
  · rename_i hk
    rw [hk] at hf
    have hf : v = none := hf
    subst hf
    exact h σ' hp
  · rename_i hk
    rw [hk] at hf
    obtain ⟨x, rfl⟩ : ∃ x, v = some (.int x) := hf
    exact h x σ' hp
  · rename_i hk
    rw [hk] at hf
    obtain ⟨x, rfl⟩ : ∃ x, v = some (.long x) := hf
    exact h x σ' hp
  · rename_i h0 h1 h2
    split at hf
    · exact (h0 ‹_›).elim
    · exact (h1 ‹_›).elim
    · exact (h2 ‹_›).elim
    · obtain ⟨k, hk, rfl⟩ := hf
      generalize r.1.2.2.2.2.2.2.2.1 = refs at h hk
      induction refs with
      | nil => cases hk
      | cons a t ih =>
        rcases List.mem_cons.mp hk with rfl | hk
        · exact h.1 σ' hp
        · exact ih h.2 hk
theorem vg_toList (ad : Nat → Nat) (v : Option Value) (rest : List Value) : (v.map (vg_cv ad)).toList ++ rest.map (vg_cv ad) = (v.toList ++ rest).map (vg_cv ad) := by
  cases v <;> rfl
theorem vg_goV {H : Heap} {locs : List Loc} {ls : Array Slot} {pc a b n i : Nat} {z : Int} {L : vg_L} {st rest : List Value} {σ : vg_S} {o ci : Nat} {ks : List Nat} {r : vg_R} {K : List Value → vg_S → Prop} (X : vg_X p l R s m args c cells slots own cc nL G sh ro cs cp) (hdg : decode cc pc = .ok (.invokevirtual i, 3)) (hlk : vg_lks own cs rt cp (.invokevirtual i) a b n z = true)
    (hl : vg_lr G.2.2 ls nL L) (hP : vg_P G sh σ H) (hS : va_S (vg_A G.2.2 sh.length) s.heap H locs) (hr : vg_nth cs a = some r) (hd : vg_drop n st = .ref o :: rest) (ho : vg_nth sh o = some (.inr (ci, ks))) (hci : Nat.beq ci b = true) (hn : Nat.ble n st.length = true) (h : vg_call r (.ref o :: vg_args n st []) rest σ K)
    (kK : ∀ st σ H locs, K st σ → vg_P G sh σ H → va_S (vg_A G.2.2 sh.length) s.heap H locs → W p l e R s m args below meth c H locs cells slots Q (F0 m (pc + 3) ls (st.map (vg_cv G.2.2)))) : W p l e R s m args below meth c H locs cells slots Q (F0 m pc ls (st.map (vg_cv G.2.2))) := by
  obtain ⟨hx, hb, hml, hown, hts, hap, hE, hro, hcs, -, hc1, hc2⟩ := X
  have hci : ci = b := Nat.eq_of_beq_eq_true hci
  subst hci
  have hn : n ≤ st.length := Nat.le_of_ble_eq_true hn
  have hmem : r ∈ cs := by rw [vg_nth_eq] at hr; exact List.mem_of_getElem? hr
  obtain ⟨⟨⟨hcode, hini, hnm, hpl, hin⟩, hM⟩, hfr, hlo⟩ := hcs r hmem
  simp only [vg_lks, hr] at hlk
  split at hlk
  · rename_i r' q hr' hq
    cases hr'
    simp only [Bool.and_eq_true, decide_eq_true_eq, Bool.not_eq_true'] at hlk
    obtain ⟨⟨⟨h1, h2⟩, h3⟩, h4⟩ := hlk
    rw [h4] at hin
    obtain ⟨hin1, hin2⟩ := hin
    have hstk := vg_stack G.2.2 n st hn
    rw [hd] at hstk
    have ho2 : (vg_cw G.2.1 G.2.2 σ 0 sh)[o]? = some (G.2.2 o, .inr (ci, vg_fl G.2.2 (σ.1 o) (σ.2 o) 0 ks)) := by
      rw [vg_cw_at, ← vg_nth_eq, ho]
      simp [vg_ce]
    have hrec := va_recv (q := q) (q0 := o) hE.1 hP (by rw [← vg_nth_eq]; exact hq) ho2
    rw [← h2] at hrec
    have hws := pay_in hts (fun w hw => (show w ∈ vg_GW ∧ _ from (List.mem_cons.mp hw).elim (fun e => by rw [e]; exact vg_GW_good _ hcode) (fun hw => vg_GW_good w hw)) : GoodIn vg_GW (Cond.code r.1.1 r.1.2.1 r.1.2.2.1 r.1.2.2.2.1 :: vg_GW))
    have hpre := vg_pre (σ := σ) hE hro hP hS (.ref o :: vg_args n st [])
    refine vg_cont (va_runV (C := r.1.1.cls) (b := G.2.2 o) (As := (vg_args n st []).map (vg_cv G.2.2)) (rest := rest.map (vg_cv G.2.2)) (bytes := r.1.2.1) (maxL := r.1.2.2.1) (ret := r.1.2.2.2.1) (n := n) ⟨hx, hb, hml, hown, hts⟩ (hM _ σ h.2.1) ⟨⟨rfl, rfl, hfr, hlo, hws, List.mem_cons_self, hts _ hcode, hts _ hini, hnm, vg_sig h3, hts _ (vg_wd_in h1)⟩, hts _ hin1, hts _ hin2⟩ ⟨hpre.1, hrec, hpre.2⟩ rfl (by rw [List.length_map]; exact vg_args_len n st hn) hl.1.1 hstk (lv_room (by rw [vg_cat_eq]; exact h.1)) hdg ⟨hc1, hc2⟩) hS (fun v σ' H1 locs1 hf hp hP1 hS1 => ?_)
    rw [vg_toList]
    exact kK _ _ _ _ (vg_ans h hf hp) hP1 hS1
  · cases hlk
theorem vg_goS {H : Heap} {locs : List Loc} {ls : Array Slot} {pc a n i : Nat} {z : Int} {L : vg_L} {st : List Value} {σ : vg_S} {r : vg_R} {K : List Value → vg_S → Prop} (X : vg_X p l R s m args c cells slots own cc nL G sh ro cs cp) (hdg : decode cc pc = .ok (.invokestatic i, 3)) {b : Nat} (hb3 : ¬ b = 3) (hlk : vg_lks own cs rt cp (.invokestatic i) a b n z = true)
    (hl : vg_lr G.2.2 ls nL L) (hP : vg_P G sh σ H) (hS : va_S (vg_A G.2.2 sh.length) s.heap H locs) (hr : vg_nth cs a = some r) (hn : Nat.ble n st.length = true) (h : vg_call r (vg_args n st []) (vg_drop n st) σ K)
    (kK : ∀ st σ H locs, K st σ → vg_P G sh σ H → va_S (vg_A G.2.2 sh.length) s.heap H locs → W p l e R s m args below meth c H locs cells slots Q (F0 m (pc + 3) ls (st.map (vg_cv G.2.2)))) : W p l e R s m args below meth c H locs cells slots Q (F0 m pc ls (st.map (vg_cv G.2.2))) := by
  obtain ⟨hx, hb, hml, hown, hts, hap, hE, hro, hcs, -, hc1, hc2⟩ := X
  have hn : n ≤ st.length := Nat.le_of_ble_eq_true hn
  have hmem : r ∈ cs := by rw [vg_nth_eq] at hr; exact List.mem_of_getElem? hr
  obtain ⟨⟨⟨hcode, hini, hnm, hpl, hin⟩, hM⟩, hfr, hlo⟩ := hcs r hmem
  have hstk := vg_stack G.2.2 n st hn
  have hws := pay_in hts (fun w hw => (show w ∈ vg_GW ∧ _ from (List.mem_cons.mp hw).elim (fun e => by rw [e]; exact vg_GW_good _ hcode) (fun hw => vg_GW_good w hw)) : GoodIn vg_GW (Cond.code r.1.1 r.1.2.1 r.1.2.2.1 r.1.2.2.2.1 :: vg_GW))
  have hpre := vg_pre (σ := σ) hE hro hP hS (vg_args n st [])
  simp only [vg_lks, hr] at hlk
  split at hlk
  · simp only [Bool.and_eq_true, decide_eq_true_eq] at hlk
    obtain ⟨⟨h1, h3⟩, h4⟩ := hlk
    rw [h4] at hin
    refine vg_cont (va_runS (As := (vg_args n st []).map (vg_cv G.2.2)) (rest := (vg_drop n st).map (vg_cv G.2.2)) (bytes := r.1.2.1) (maxL := r.1.2.2.1) (ret := r.1.2.2.2.1) (n := n) ⟨hx, hb, hml, hown, hts⟩ (hM _ σ h.2.1) ⟨⟨rfl, rfl, hfr, hlo, hws, List.mem_cons_self, hts _ hcode, hts _ hini, hnm, vg_sig h3, hts _ (vg_wd_in h1)⟩, hts _ hin⟩ hpre rfl (by rw [List.length_map]; exact vg_args_len n st hn) hl.1.1 hstk (lv_room (by rw [vg_cat_eq]; exact h.1)) hdg ⟨hc1, hc2⟩) hS (fun v σ' H1 locs1 hf hp hP1 hS1 => ?_)
    rw [vg_toList]
    exact kK _ _ _ _ (vg_ans h hf hp) hP1 hS1
  · simp only [Bool.and_eq_true, decide_eq_true_eq] at hlk
    obtain ⟨⟨h1, h3⟩, h4⟩ := hlk
    rw [h4] at hin
    have hnw := va_Nw.use (A := args) rfl (hE.2.1 _ (by rw [vg_nth_eq] at h1; exact List.mem_of_getElem? h1))
    refine vg_cont (va_runSN (host := "NoiseShaper") (As := (vg_args n st []).map (vg_cv G.2.2)) (rest := (vg_drop n st).map (vg_cv G.2.2)) (bytes := r.1.2.1) (maxL := r.1.2.2.1) (ret := r.1.2.2.2.1) (n := n) ⟨hx, hb, hml, hown, hts⟩ (hM _ σ h.2.1) ⟨⟨⟨rfl, rfl, hfr, hlo, hws, List.mem_cons_self⟩, hts _ hcode, hts _ hini, hnm, vg_sig h3, hnw⟩, hts _ hin, trivial⟩ hpre rfl (by rw [List.length_map]; exact vg_args_len n st hn) hl.1.1 hstk (lv_room (by rw [vg_cat_eq]; exact h.1)) hdg ⟨hc1, hc2⟩) hS (fun v σ' H1 locs1 hf hp hP1 hS1 => ?_)
    rw [vg_toList]
    exact kK _ _ _ _ (vg_ans h hf hp) hP1 hS1
  · exact (hb3 rfl).elim
  · cases hlk
theorem vg_nn {x : Int32} (h : 0 ≤ x.toInt) : ¬ x < 0 := fun q => by
  have := Int32.lt_iff_toInt_lt.mp q
  simp at this
  omega
theorem vg_clamp (x : Int32) : x.toNatClampNeg = x.toInt.toNat := rfl
theorem vg_tb_go {f : Nat → Prop} {pc : Nat} {x : Int32} : ∀ (offs : List Int) (lo : Int), vg_tb f pc x lo offs → ∀ (k : Nat) (o : Int), x.toInt = lo + k → offs[k]? = some o → f ((pc : Int) + o).toNat
  | [], lo, h, k, o, hx, ho => by simp at ho
  | o0 :: r, lo, h, 0, o, hx, ho => by
    simp at ho
    subst ho
    exact h.1 (by simpa using hx)
  | o0 :: r, lo, h, k + 1, o, hx, ho => vg_tb_go r (lo + 1) h.2 k o (by rw [hx]; push_cast; omega) (by simpa using ho)
theorem vg_lk_go {f : Nat → Prop} {pc : Nat} {x : Int32} {d : Int} : ∀ (ps : List (Int × Int)), vg_lk f pc x d ps → f ((pc : Int) + Op.lookupswitch.offset ps d x.toInt).toNat
  | [], h => h
  | (a, o) :: r, h => by
    rw [Op.lookupswitch.offset_cons]
    by_cases hx : x.toInt = a
    · rw [if_pos hx.symm]
      exact h.1 hx
    · rw [if_neg (fun q => hx q.symm)]
      exact vg_lk_go r (h.2 hx)
theorem vg_lk_nn {pc : Nat} {d x : Int} : ∀ (ps : List (Int × Int)), 0 ≤ (pc : Int) + d → ps.all (fun o => decide (0 ≤ (pc : Int) + o.2)) = true → 0 ≤ (pc : Int) + Op.lookupswitch.offset ps d x
  | [], h, _ => h
  | (a, o) :: r, h, h2 => by
    simp only [List.all_cons, Bool.and_eq_true, decide_eq_true_eq] at h2
    rw [Op.lookupswitch.offset_cons]
    split
    · exact h2.1
    · exact vg_lk_nn r h h2.2
theorem vg_al_go {f : Nat → Prop} {i : Int32} : ∀ (rs : List Nat) (j : Nat), vg_al f i j rs → ∀ (t k : Nat), i.toInt = ((j + t : Nat) : Int) → rs[t]? = some k → f k
  | [], j, h, t, k, hi, hk => by simp at hk
  | a :: r, j, h, 0, k, hi, hk => by
    simp at hk
    subst hk
    exact h.1 (by simpa using hi)
  | a :: r, j, h, t + 1, k, hi, hk => vg_al_go r (j + 1) h.2 t k (by rw [hi]; congr 1; omega) (by simpa using hk)
set_option maxHeartbeats 4000000 in
/-- one instruction -/
theorem vg_ex_sound {H : Heap} {locs : List Loc} {ls : Array Slot} {pc len a b c0 : Nat} {op : Instr} {z : Int} {L : vg_L} {st : List Value} {σ : vg_S} {K : vg_L → List Value → vg_S → Prop} {J : vg_L → List Value → vg_S → Nat → Prop} (X : vg_X p l R s m args c cells slots own cc nL G sh ro cs cp) (hsh : ∀ r t n rs, vg_nth sh r = some (.inl (t + 2, n, rs)) → t = 0 ∨ t = 1) (hok : vg_ok own cc cs rt cp (pc, op, len, a, b, c0, z) = true)
    (hl : vg_lr G.2.2 ls nL L) (hP : vg_P G sh σ H) (hS : va_S (vg_A G.2.2 sh.length) s.heap H locs) (h : vg_ex sh ro cs po K J (pc, op, len, a, b, c0, z) L st σ)
    (kK : ∀ L st σ H locs ls, K L st σ → vg_lr G.2.2 ls nL L → vg_P G sh σ H → va_S (vg_A G.2.2 sh.length) s.heap H locs → W p l e R s m args below meth c H locs cells slots Q (F0 m (pc + len) ls (st.map (vg_cv G.2.2))))
    (kJ : ∀ L st σ t H locs ls, J L st σ t → vg_lr G.2.2 ls nL L → vg_P G sh σ H → va_S (vg_A G.2.2 sh.length) s.heap H locs → W p l e R s m args below meth c H locs cells slots Q (F0 m t ls (st.map (vg_cv G.2.2))))
    (kR : ∀ v σ H locs ls, vg_ok own cc cs rt cp (pc, op, len, a, b, c0, z) = true → vg_isret op z v → po v σ → vg_lr G.2.2 ls nL L → vg_P G sh σ H → va_S (vg_A G.2.2 sh.length) s.heap H locs → W p l e R s m args below meth c H locs cells slots Q (F0 m pc ls ((v.map (vg_cv G.2.2)).toList))) : W p l e R s m args below meth c H locs cells slots Q (F0 m pc ls (st.map (vg_cv G.2.2))) := by
  obtain ⟨hx, hb, hml, hown, hts, hap, hE, hro, hcs, hcp, hc1, hc2⟩ := id X
  obtain ⟨hdg, hln, hlk, htg⟩ := vg_ok_spec hok
  cases op with
  | iconst i =>
    have hln : len = 1 := hln
    subst hln
    exact lv_iconst hx hb hdg rfl (kK _ _ _ _ _ _ h hl hP hS)
  | bipush i =>
    have hln : len = 2 := hln
    subst hln
    exact lv_bipush hx hb hdg (of_decide_eq_true hlk) (kK _ _ _ _ _ _ h hl hP hS)
  | sipush i =>
    have hln : len = 3 := hln
    subst hln
    exact lv_sipush hx hb hdg (of_decide_eq_true hlk) (kK _ _ _ _ _ _ h hl hP hS)
  | lconst i =>
    have hln : len = 1 := hln
    subst hln
    exact lv_lconst hx hb hdg rfl (kK _ _ _ _ _ _ h hl hP hS)
  | ldc i =>
    have hln : len = 2 := hln
    subst hln
    exact lv_ldc hx hb hown (hts _ (vg_wd_in hlk)) hdg (kK _ _ _ _ _ _ h hl hP hS)
  | ldc_w i =>
    have hln : len = 3 := hln
    subst hln
    exact lv_ldcw hx hb hown (hts _ (vg_wd_in hlk)) hdg (kK _ _ _ _ _ _ h hl hP hS)
  | ldc2_w i =>
    have hln : len = 3 := hln
    subst hln
    exact lv_ldc2 hx hb hown (hts _ (vg_wd_in hlk)) hdg (kK _ _ _ _ _ _ h hl hP hS)
  | iload_n i =>
    have hln : len = 1 := hln
    subst hln
    simp only [vg_ex] at h
    split at h
    · rename_i x hi
      exact lv_iload_n hx hb hdg rfl (hl.at hi) (kK _ _ _ _ _ _ h hl hP hS)
    · exact h.elim
  | iload i =>
    have hln : len = 2 := hln
    subst hln
    simp only [vg_ex] at h
    split at h
    · rename_i x hi
      exact lv_iload hx hb hdg (hl.at hi) (kK _ _ _ _ _ _ h hl hP hS)
    · exact h.elim
  | lload_n i =>
    have hln : len = 1 := hln
    subst hln
    simp only [vg_ex] at h
    split at h
    · rename_i x hi
      exact lv_lload_n hx hb hdg rfl (hl.at hi) (kK _ _ _ _ _ _ h hl hP hS)
    · exact h.elim
  | lload i =>
    have hln : len = 2 := hln
    subst hln
    simp only [vg_ex] at h
    split at h
    · rename_i x hi
      exact lv_lload hx hb hdg (hl.at hi) (kK _ _ _ _ _ _ h hl hP hS)
    · exact h.elim
  | aload_n i =>
    have hln : len = 1 := hln
    subst hln
    simp only [vg_ex] at h
    split at h
    · rename_i x hi
      exact lv_aload_n hx hb hdg rfl (hl.at hi) (kK _ _ _ _ _ _ h hl hP hS)
    · exact h.elim
  | aload i =>
    have hln : len = 2 := hln
    subst hln
    simp only [vg_ex] at h
    split at h
    · rename_i x hi
      exact lv_aload hx hb hdg (hl.at hi) (kK _ _ _ _ _ _ h hl hP hS)
    · exact h.elim
  | istore_n i =>
    have hln : len = 1 := hln
    subst hln
    simp only [vg_ex] at h
    split at h
    · rename_i hi
      exact lv_istore_n (nL := nL) hx hb hdg rfl hl.1 (by rw [← hl.2]; exact vg_nth_lt hi) rfl (fun ls' hl' => kK _ _ _ _ _ _ h (hl.s1 (v := (.int _)) hl') hP hS)
    · exact h.elim
  | istore i =>
    have hln : len = 2 := hln
    subst hln
    simp only [vg_ex] at h
    split at h
    · rename_i hi
      exact lv_istore (nL := nL) hx hb hdg hl.1 (by rw [← hl.2]; exact vg_nth_lt hi) rfl (fun ls' hl' => kK _ _ _ _ _ _ h (hl.s1 (v := (.int _)) hl') hP hS)
    · exact h.elim
  | astore_n i =>
    have hln : len = 1 := hln
    subst hln
    simp only [vg_ex] at h
    split at h
    · rename_i hi
      exact lv_astore_n (nL := nL) hx hb hdg rfl hl.1 (by rw [← hl.2]; exact vg_nth_lt hi) rfl (fun ls' hl' => kK _ _ _ _ _ _ h (hl.s1 (v := (.ref _)) hl') hP hS)
    · exact h.elim
  | astore i =>
    have hln : len = 2 := hln
    subst hln
    simp only [vg_ex] at h
    split at h
    · rename_i hi
      exact lv_astore (nL := nL) hx hb hdg hl.1 (by rw [← hl.2]; exact vg_nth_lt hi) rfl (fun ls' hl' => kK _ _ _ _ _ _ h (hl.s1 (v := (.ref _)) hl') hP hS)
    · exact h.elim
  | lstore_n i =>
    have hln : len = 1 := hln
    subst hln
    simp only [vg_ex] at h
    split at h
    · rename_i hi
      exact lv_lstore_n (nL := nL) hx hb hdg rfl hl.1 (by rw [← hl.2]; exact vg_nth_lt hi) rfl (fun ls' hl' => kK _ _ _ _ _ _ h (hl.s2 (v := .long _) (vg_nth_lt hi) hl') hP hS)
    · exact h.elim
  | lstore i =>
    have hln : len = 2 := hln
    subst hln
    simp only [vg_ex] at h
    split at h
    · rename_i hi
      exact lv_lstore (nL := nL) hx hb hdg hl.1 (by rw [← hl.2]; exact vg_nth_lt hi) rfl (fun ls' hl' => kK _ _ _ _ _ _ h (hl.s2 (v := .long _) (vg_nth_lt hi) hl') hP hS)
    · exact h.elim
  | iinc i n =>
    have hln : len = 3 := hln
    subst hln
    simp only [vg_ex] at h
    split at h
    · rename_i x hi
      obtain ⟨k, hk⟩ := List.getElem?_of_mem (vg_la_in G.2.2 L 0 i (.int x) hi)
      rw [Nat.zero_add] at hk
      exact lv_iinc (nL := nL) (k := k) (x := x) hx hb hdg hl.1 hk rfl (by rw [← hl.2]; exact vg_nth_lt hi) rfl (fun ls' hl' => kK _ _ _ _ _ _ (h _ rfl) (hl.s1 (v := .int _) hl') hP hS)
    · exact h.elim
  | iadd =>
    have hln : len = 1 := hln
    subst hln
    simp only [vg_ex] at h
    split at h
    · exact lv_iadd hx hb hdg (kK _ _ _ _ _ _ (h _ rfl) hl hP hS)
    · exact h.elim
  | isub =>
    have hln : len = 1 := hln
    subst hln
    simp only [vg_ex] at h
    split at h
    · exact lv_isub hx hb hdg (kK _ _ _ _ _ _ (h _ rfl) hl hP hS)
    · exact h.elim
  | imul =>
    have hln : len = 1 := hln
    subst hln
    simp only [vg_ex] at h
    split at h
    · exact lv_imul hx hb hdg (kK _ _ _ _ _ _ (h _ rfl) hl hP hS)
    · exact h.elim
  | iand =>
    have hln : len = 1 := hln
    subst hln
    simp only [vg_ex] at h
    split at h
    · exact lv_iand hx hb hdg (kK _ _ _ _ _ _ (h _ rfl) hl hP hS)
    · exact h.elim
  | ior =>
    have hln : len = 1 := hln
    subst hln
    simp only [vg_ex] at h
    split at h
    · exact lv_ior hx hb hdg (kK _ _ _ _ _ _ (h _ rfl) hl hP hS)
    · exact h.elim
  | ixor =>
    have hln : len = 1 := hln
    subst hln
    simp only [vg_ex] at h
    split at h
    · exact lv_ixor hx hb hdg (kK _ _ _ _ _ _ (h _ rfl) hl hP hS)
    · exact h.elim
  | ishl =>
    have hln : len = 1 := hln
    subst hln
    simp only [vg_ex] at h
    split at h
    · exact lv_ishl hx hb hdg (kK _ _ _ _ _ _ (h _ rfl) hl hP hS)
    · exact h.elim
  | ishr =>
    have hln : len = 1 := hln
    subst hln
    simp only [vg_ex] at h
    split at h
    · exact lv_ishr hx hb hdg (kK _ _ _ _ _ _ (h _ rfl) hl hP hS)
    · exact h.elim
  | ineg =>
    have hln : len = 1 := hln
    subst hln
    simp only [vg_ex] at h
    split at h
    · exact lv_ineg hx hb hdg (kK _ _ _ _ _ _ (h _ rfl) hl hP hS)
    · exact h.elim
  | ladd =>
    have hln : len = 1 := hln
    subst hln
    simp only [vg_ex] at h
    split at h
    · exact lv_ladd hx hb hdg (kK _ _ _ _ _ _ (h _ rfl) hl hP hS)
    · exact h.elim
  | lsub =>
    have hln : len = 1 := hln
    subst hln
    simp only [vg_ex] at h
    split at h
    · exact lv_lsub hx hb hdg (kK _ _ _ _ _ _ (h _ rfl) hl hP hS)
    · exact h.elim
  | lmul =>
    have hln : len = 1 := hln
    subst hln
    simp only [vg_ex] at h
    split at h
    · exact lv_lmul hx hb hdg (kK _ _ _ _ _ _ (h _ rfl) hl hP hS)
    · exact h.elim
  | land =>
    have hln : len = 1 := hln
    subst hln
    simp only [vg_ex] at h
    split at h
    · exact lv_land hx hb hdg (kK _ _ _ _ _ _ (h _ rfl) hl hP hS)
    · exact h.elim
  | lneg =>
    have hln : len = 1 := hln
    subst hln
    simp only [vg_ex] at h
    split at h
    · exact lv_lneg hx hb hdg (kK _ _ _ _ _ _ (h _ rfl) hl hP hS)
    · exact h.elim
  | lcmp =>
    have hln : len = 1 := hln
    subst hln
    simp only [vg_ex] at h
    split at h
    · exact W.lcmp hx hb hdg (kK _ _ _ _ _ _ (h _ rfl) hl hP hS)
    · exact h.elim
  | iushr =>
    have hln : len = 1 := hln
    subst hln
    simp only [vg_ex] at h
    split at h
    · exact lv_iushr hx hb hdg rfl (kK _ _ _ _ _ _ (h _ rfl) hl hP hS)
    · exact h.elim
  | lshl =>
    have hln : len = 1 := hln
    subst hln
    simp only [vg_ex] at h
    split at h
    · exact lv_lshl hx hb hdg rfl (kK _ _ _ _ _ _ (h _ rfl) hl hP hS)
    · exact h.elim
  | lshr =>
    have hln : len = 1 := hln
    subst hln
    simp only [vg_ex] at h
    split at h
    · exact lv_lshr hx hb hdg rfl (kK _ _ _ _ _ _ (h _ rfl) hl hP hS)
    · exact h.elim
  | i2l =>
    have hln : len = 1 := hln
    subst hln
    simp only [vg_ex] at h
    split at h
    · exact lv_i2l hx hb hdg rfl (kK _ _ _ _ _ _ (h _ rfl) hl hP hS)
    · exact h.elim
  | l2i =>
    have hln : len = 1 := hln
    subst hln
    simp only [vg_ex] at h
    split at h
    · exact lv_l2i hx hb hdg rfl (kK _ _ _ _ _ _ (h _ rfl) hl hP hS)
    · exact h.elim
  | idiv =>
    have hln : len = 1 := hln
    subst hln
    simp only [vg_ex] at h
    split at h
    · exact lv_idiv hx hb hdg (fun q => h.1 (by rw [q]; rfl)) (kK _ _ _ _ _ _ (h.2 _ rfl) hl hP hS)
    · exact h.elim
  | irem =>
    have hln : len = 1 := hln
    subst hln
    simp only [vg_ex] at h
    split at h
    · exact lv_irem hx hb hdg (fun q => h.1 (by rw [q]; rfl)) (kK _ _ _ _ _ _ (h.2 _ rfl) hl hP hS)
    · exact h.elim
  | ldiv =>
    have hln : len = 1 := hln
    subst hln
    simp only [vg_ex] at h
    split at h
    · exact lv_ldiv hx hb hdg (fun q => h.1 (by rw [q]; rfl)) (kK _ _ _ _ _ _ (h.2 _ rfl) hl hP hS)
    · exact h.elim
  | lrem =>
    have hln : len = 1 := hln
    subst hln
    simp only [vg_ex] at h
    split at h
    · exact lv_lrem hx hb hdg (fun q => h.1 (by rw [q]; rfl)) (kK _ _ _ _ _ _ (h.2 _ rfl) hl hP hS)
    · exact h.elim
  | dup =>
    have hln : len = 1 := hln
    subst hln
    simp only [vg_ex] at h
    split at h
    · exact lv_dup hx hb hdg rfl (kK _ _ _ _ _ _ h hl hP hS)
    · exact lv_dup hx hb hdg rfl (kK _ _ _ _ _ _ h hl hP hS)
    · exact h.elim
  | dup2 =>
    have hln : len = 1 := hln
    subst hln
    simp only [vg_ex] at h
    split at h
    · exact lv_dup2_11 hx hb hdg rfl rfl (kK _ _ _ _ _ _ h hl hP hS)
    · exact lv_dup2_2 hx hb hdg rfl (kK _ _ _ _ _ _ h hl hP hS)
    · exact h.elim
  | pop =>
    have hln : len = 1 := hln
    subst hln
    simp only [vg_ex] at h
    split at h
    · exact lv_pop hx hb hdg rfl (kK _ _ _ _ _ _ h hl hP hS)
    · exact h.elim
  | pop2 =>
    have hln : len = 1 := hln
    subst hln
    simp only [vg_ex] at h
    split at h
    · exact lv_pop2_2 hx hb hdg rfl (kK _ _ _ _ _ _ h hl hP hS)
    · exact h.elim
  | goto off =>
    have hln : len = 3 := hln
    subst hln
    have htg : 0 ≤ (pc : Int) + off := of_decide_eq_true htg
    exact lv_goto hx hb hdg (Int.toNat_of_nonneg htg).symm (kJ _ _ _ _ _ _ _ h hl hP hS)
  | ifCond cd off =>
    have hln : len = 3 := hln
    subst hln
    have htq : 0 ≤ (pc : Int) + off := of_decide_eq_true htg
    clear htg
    simp only [vg_ex] at h
    split at h
    · cases cd with
      | eq => exact lv_if_eq (tgt := ((pc : Int) + off).toNat) hx hb hdg (Int.toNat_of_nonneg htq).symm (fun q => kJ _ _ _ _ _ _ _ (h.1 (vg_b_if_eq.mp q)) hl hP hS) (fun q => kK _ _ _ _ _ _ (h.2 (fun z => q (vg_b_if_eq.mpr z))) hl hP hS)
      | ne => exact lv_if_ne (tgt := ((pc : Int) + off).toNat) hx hb hdg (Int.toNat_of_nonneg htq).symm (fun q => kJ _ _ _ _ _ _ _ (h.1 (vg_b_if_ne.mp q)) hl hP hS) (fun q => kK _ _ _ _ _ _ (h.2 (fun z => vg_b_if_ne.mpr z q)) hl hP hS)
      | lt => exact lv_if_lt (tgt := ((pc : Int) + off).toNat) hx hb hdg (Int.toNat_of_nonneg htq).symm (fun q => kJ _ _ _ _ _ _ _ (h.1 (vg_b_if_lt.mp q)) hl hP hS) (fun q => kK _ _ _ _ _ _ (h.2 (fun z => q (vg_b_if_lt.mpr z))) hl hP hS)
      | ge => exact lv_if_ge (tgt := ((pc : Int) + off).toNat) hx hb hdg (Int.toNat_of_nonneg htq).symm (fun q => kJ _ _ _ _ _ _ _ (h.1 (vg_b_if_ge.mp q)) hl hP hS) (fun q => kK _ _ _ _ _ _ (h.2 (fun z => q (vg_b_if_ge.mpr z))) hl hP hS)
      | gt => exact lv_if_gt (tgt := ((pc : Int) + off).toNat) hx hb hdg (Int.toNat_of_nonneg htq).symm (fun q => kJ _ _ _ _ _ _ _ (h.1 (vg_b_if_gt.mp q)) hl hP hS) (fun q => kK _ _ _ _ _ _ (h.2 (fun z => q (vg_b_if_gt.mpr z))) hl hP hS)
      | le => exact lv_if_le (tgt := ((pc : Int) + off).toNat) hx hb hdg (Int.toNat_of_nonneg htq).symm (fun q => kJ _ _ _ _ _ _ _ (h.1 (vg_b_if_le.mp q)) hl hP hS) (fun q => kK _ _ _ _ _ _ (h.2 (fun z => q (vg_b_if_le.mpr z))) hl hP hS)
    · exact h.elim
  | if_icmp cd off =>
    have hln : len = 3 := hln
    subst hln
    have htq : 0 ≤ (pc : Int) + off := of_decide_eq_true htg
    clear htg
    simp only [vg_ex] at h
    split at h
    · cases cd with
      | eq => exact lv_icmp_eq (tgt := ((pc : Int) + off).toNat) hx hb hdg (Int.toNat_of_nonneg htq).symm (fun q => kJ _ _ _ _ _ _ _ (h.1 (vg_b_icmp_eq.mp q)) hl hP hS) (fun q => kK _ _ _ _ _ _ (h.2 (fun z => q (vg_b_icmp_eq.mpr z))) hl hP hS)
      | ne => exact lv_icmp_ne (tgt := ((pc : Int) + off).toNat) hx hb hdg (Int.toNat_of_nonneg htq).symm (fun q => kJ _ _ _ _ _ _ _ (h.1 (vg_b_icmp_ne.mp q)) hl hP hS) (fun q => kK _ _ _ _ _ _ (h.2 (fun z => vg_b_icmp_ne.mpr z q)) hl hP hS)
      | lt => exact lv_icmp_lt (tgt := ((pc : Int) + off).toNat) hx hb hdg (Int.toNat_of_nonneg htq).symm (fun q => kJ _ _ _ _ _ _ _ (h.1 (vg_b_icmp_lt.mp q)) hl hP hS) (fun q => kK _ _ _ _ _ _ (h.2 (fun z => q (vg_b_icmp_lt.mpr z))) hl hP hS)
      | ge => exact lv_icmp_ge (tgt := ((pc : Int) + off).toNat) hx hb hdg (Int.toNat_of_nonneg htq).symm (fun q => kJ _ _ _ _ _ _ _ (h.1 (vg_b_icmp_ge.mp q)) hl hP hS) (fun q => kK _ _ _ _ _ _ (h.2 (fun z => q (vg_b_icmp_ge.mpr z))) hl hP hS)
      | gt => exact lv_icmp_gt (tgt := ((pc : Int) + off).toNat) hx hb hdg (Int.toNat_of_nonneg htq).symm (fun q => kJ _ _ _ _ _ _ _ (h.1 (vg_b_icmp_gt.mp q)) hl hP hS) (fun q => kK _ _ _ _ _ _ (h.2 (fun z => q (vg_b_icmp_gt.mpr z))) hl hP hS)
      | le => exact lv_icmp_le (tgt := ((pc : Int) + off).toNat) hx hb hdg (Int.toNat_of_nonneg htq).symm (fun q => kJ _ _ _ _ _ _ _ (h.1 (vg_b_icmp_le.mp q)) hl hP hS) (fun q => kK _ _ _ _ _ _ (h.2 (fun z => q (vg_b_icmp_le.mpr z))) hl hP hS)
    · exact h.elim
  | tableswitch d lo hi offs =>
    simp only [vg_tg, Bool.and_eq_true, decide_eq_true_eq, List.all_eq_true] at htg
    simp only [vg_ex] at h
    split at h
    · rename_i x st
      by_cases hx1 : x.toInt < lo ∨ hi < x.toInt
      · exact lv_tableOut hx hb hdg hx1 (Int.toNat_of_nonneg htg.1).symm (kJ _ _ _ _ _ _ _ (h.1 hx1) hl hP hS)
      · have h1 : ¬ x.toInt < lo := fun q => hx1 (Or.inl q)
        have h2 : ¬ hi < x.toInt := fun q => hx1 (Or.inr q)
        have hlen : hi - lo + 1 = (offs.toList.length : Int) := of_decide_eq_true hlk
        have hk : (x.toInt - lo).toNat < offs.toList.length := by omega
        have ho : offs[(x.toInt - lo).toNat]? = some (offs.toList[(x.toInt - lo).toNat]'hk) := by
          rw [← Array.getElem?_toList]
          exact List.getElem?_eq_getElem hk
        have hg := vg_tb_go offs.toList lo h.2 (x.toInt - lo).toNat _ (by omega) (List.getElem?_eq_getElem hk)
        exact lv_tableIn hx hb hdg h1 h2 ho (Int.toNat_of_nonneg (htg.2 _ (List.getElem_mem hk))).symm (kJ _ _ _ _ _ _ _ hg hl hP hS)
    · exact h.elim
  | lookupswitch d ps =>
    simp only [vg_tg, Bool.and_eq_true, decide_eq_true_eq] at htg
    simp only [vg_ex] at h
    split at h
    · rename_i x st
      have hg := vg_lk_go ps.toList h
      exact lv_lookup hx hb hdg hlk rfl (Int.toNat_of_nonneg (vg_lk_nn ps.toList htg.1 htg.2)).symm (kJ _ _ _ _ _ _ _ hg hl hP hS)
    · exact h.elim
  | getfield i =>
    have hln : len = 3 := hln
    subst hln
    simp only [vg_ex] at h
    split at h
    · rename_i r st
      split at h
      · rename_i ci ks hr
        simp only [vg_lks] at hlk
        split at hlk
        · rename_i q hq
          simp only [Bool.and_eq_true] at hlk
          have hcls := vg_cls hq
          have hc0 : c0 < q.2.2 := by simpa [Nat.blt_eq] using hlk.1
          have he : (vg_cw G.2.1 G.2.2 σ 0 sh)[r]? = some (G.2.2 r, .inr (ci, vg_fl G.2.2 (σ.1 r) (σ.2 r) 0 ks)) := by
            rw [vg_cw_at, ← vg_nth_eq, hr]
            simp [vg_ce]
          have hq2 : vwCl[b]? = some q := by rw [← vg_nth_eq]; exact hq
          have go : ∀ v, vg_fl G.2.2 (σ.1 r) (σ.2 r) 0 ks = vg_fl G.2.2 (σ.1 r) (σ.2 r) 0 ks → ci = b → (vg_fl G.2.2 (σ.1 r) (σ.2 r) 0 ks)[c0]? = some (vg_cv G.2.2 v) → K L (v :: st) σ → W p l e R s m args below meth c H locs cells slots Q (F0 m pc ls (List.map (vg_cv G.2.2) (Value.ref r :: st))) := by
            intro v _ hb2 hv hk
            subst hb2
            exact va_get (D := G.1) (C := q.1) (T := q.2.1) (N := q.2.2) hx hb hts hcls.1 hown hE.1 hP r he hq2 c0 hc0 (hts _ (vg_wd_in hlk.2)) (fun _ h9 => h9) hv hdg (kK _ _ _ _ _ _ hk hl hP hS)
          split at h
          · rename_i hb2 hk
            exact go (.int (σ.1 r c0)) rfl (Nat.eq_of_beq_eq_true hb2) (by rw [vg_fl_at, ← vg_nth_eq, hk]; simp [vg_fv, vg_cv]) (h _ rfl)
          · rename_i hb2 hk
            exact go (.long (σ.2 r c0)) rfl (Nat.eq_of_beq_eq_true hb2) (by rw [vg_fl_at, ← vg_nth_eq, hk]; simp [vg_fv, vg_cv]) (h _ rfl)
          · rename_i n hb2 hk
            exact go (.ref n) rfl (Nat.eq_of_beq_eq_true hb2) (by rw [vg_fl_at, ← vg_nth_eq, hk]; simp [vg_fv, vg_cv]) h
          · exact h.elim
        · cases hlk
      · exact h.elim
    · exact h.elim
  | putfield i =>
    have hln : len = 3 := hln
    subst hln
    simp only [vg_ex] at h
    simp only [vg_lks] at hlk
    split at hlk
    · rename_i q hq
      simp only [Bool.and_eq_true, decide_eq_true_eq, Bool.not_eq_true'] at hlk
      obtain ⟨⟨⟨hk0, hlw⟩, hfin⟩, hpd⟩ := hlk
      have hcls := vg_cls hq
      obtain ⟨ty0, hty⟩ := hcls.2.2
      have hc0 : c0 < q.2.2 := by simpa [Nat.blt_eq] using hk0
      have hq2 : vwCl[b]? = some q := by rw [← vg_nth_eq]; exact hq
      have hD := vg_cw_D G.2.1 G.2.2 σ sh hap
      split at h
      · rename_i x r st
        split at h
        · rename_i ci ks hr
          have hr2 : sh[r]? = some (.inr (ci, ks)) := by rw [← vg_nth_eq]; exact hr
          have he : (vg_cw G.2.1 G.2.2 σ 0 sh)[r]? = some (G.2.2 r, .inr (ci, vg_fl G.2.2 (σ.1 r) (σ.2 r) 0 ks)) := by
            rw [vg_cw_at, hr2]
            simp [vg_ce]
          have go : ci = b → vg_nth ks c0 = some 0 → (z = 0 ∨ (z = 1 ∧ (x = 0 ∨ x = 1))) → K L st (vg_u1 σ r c0 x) → W p l e R s m args below meth c H locs cells slots Q (F0 m pc ls (List.map (vg_cv G.2.2) (Value.int x :: Value.ref r :: st))) := by
            intro hb2 hk hz hh
            subst hb2
            have hk2 : ks[c0]? = some 0 := by rw [← vg_nth_eq]; exact hk
            have hnr := vg_nr hz
            refine va_put (D := G.1) (C := q.1) (T := q.2.1) (N := q.2.2) (v := .int x) hx hb hts hcls.1 ty0 hty hcls.2.1 hown hE.1 hP hD hS r he hq2 c0 hc0 (hts _ (vg_wd_in hlw)) (fun _ h9 => h9) hfin hpd hnr.1 hnr.2 (by rw [vg_fl_len]; exact (List.getElem?_eq_some_iff.mp hk2).1) hdg (fun H1 locs1 hP1 hD1 hS1 => kK _ _ _ _ _ _ hh hl ?_ hS1)
            rw [vg_fl_set1 _ _ _ _ _ _ hk2] at hP1
            have := vg_cw_set1 G.2.1 G.2.2 σ sh r (.inr (ci, ks)) (upd (σ.1 r) c0 x) hr2
            simp only [vg_ce] at this
            rw [this] at hP1
            exact hP1
          split at h
          · rename_i hb2 hk
            exact go (Nat.eq_of_beq_eq_true hb2) hk (Or.inl rfl) (h _ rfl)
          · rename_i hb2 hk
            exact go (Nat.eq_of_beq_eq_true hb2) hk (Or.inr ⟨rfl, h.1⟩) (h.2 _ rfl)
          · exact h.elim
        · exact h.elim
      · rename_i x r st
        split at h
        · rename_i ci ks hr
          have hr2 : sh[r]? = some (.inr (ci, ks)) := by rw [← vg_nth_eq]; exact hr
          have he : (vg_cw G.2.1 G.2.2 σ 0 sh)[r]? = some (G.2.2 r, .inr (ci, vg_fl G.2.2 (σ.1 r) (σ.2 r) 0 ks)) := by
            rw [vg_cw_at, hr2]
            simp [vg_ce]
          split at h
          · rename_i hb2 hk
            have hb2 := Nat.eq_of_beq_eq_true hb2
            subst hb2
            have hk2 : ks[c0]? = some 1 := by rw [← vg_nth_eq]; exact hk
            refine va_put (D := G.1) (C := q.1) (T := q.2.1) (N := q.2.2) (ty := .long) (v := .long x) hx hb hts hcls.1 ty0 hty hcls.2.1 hown hE.1 hP hD hS r he hq2 c0 hc0 (hts _ (vg_wd_in hlw)) (fun _ h9 => h9) hfin hpd rfl rfl (by rw [vg_fl_len]; exact (List.getElem?_eq_some_iff.mp hk2).1) hdg (fun H1 locs1 hP1 hD1 hS1 => kK _ _ _ _ _ _ (h _ rfl) hl ?_ hS1)
            rw [vg_fl_set2 _ _ _ _ _ _ hk2] at hP1
            have := vg_cw_set2 G.2.1 G.2.2 σ sh r (.inr (ci, ks)) (vp_updL (σ.2 r) c0 x) hr2
            simp only [vg_ce] at this
            rw [this] at hP1
            exact hP1
          · exact h.elim
        · exact h.elim
      · exact h.elim
    · cases hlk
  | getstatic i =>
    have hln : len = 3 := hln
    subst hln
    simp only [vg_ex] at h
    simp only [vg_lks] at hlk
    split at hlk
    · rename_i q hq
      simp only [Bool.and_eq_true] at hlk
      have ha : q.1 = a := Nat.eq_of_beq_eq_true hlk.1
      subst ha
      split at h
      · exact va_gets hx hb (hE.2.2.2 q (by rw [vg_nth_eq] at hq; exact List.mem_of_getElem? hq)) hS hown (hts _ (vg_wd_in hlk.2)) (fun _ h9 => h9) hdg (kK _ _ _ _ _ _ h hl hP hS)
      · exact h.elim
    · cases hlk
  | iaload =>
    have hln : len = 1 := hln
    subst hln
    simp only [vg_ex] at h
    split at h
    · rename_i i r st
      split at h
      · rename_i n rs hr
        have he : (vg_cw G.2.1 G.2.2 σ 0 sh)[r]? = some (G.2.2 r, .inl (G.2.1 0, n, .inl (σ.1 r))) := by
          rw [vg_cw_at, ← vg_nth_eq, hr]
          simp [vg_ce]
        exact va_iald hx hb hE.1 hP r 0 he rfl h.1.in hdg (kK _ _ _ _ _ _ (h.2 _ rfl) hl hP hS)
      · split at h
        · rename_i n f hf
          exact va_ti hx hb (hE.2.2.1 r n f hf) hS h.1.in rfl hdg (kK _ _ _ _ _ _ (h.2 _ rfl) hl hP hS)
        · exact h.elim
      · exact h.elim
    · exact h.elim
  | laload =>
    have hln : len = 1 := hln
    subst hln
    simp only [vg_ex] at h
    split at h
    · rename_i i r st
      split at h
      · rename_i n rs hr
        have he : (vg_cw G.2.1 G.2.2 σ 0 sh)[r]? = some (G.2.2 r, .inl (G.2.1 1, n, .inr (.inl (σ.2 r)))) := by
          rw [vg_cw_at, ← vg_nth_eq, hr]
          simp [vg_ce]
        exact va_lald hx hb hE.1 hP r 1 he rfl h.1.in hdg (kK _ _ _ _ _ _ (h.2 _ rfl) hl hP hS)
      · exact h.elim
    · exact h.elim
  | aaload =>
    have hln : len = 1 := hln
    subst hln
    simp only [vg_ex] at h
    split at h
    · rename_i i r st
      split at h
      · rename_i t n rs hr
        have he : (vg_cw G.2.1 G.2.2 σ 0 sh)[r]? = some (G.2.2 r, .inl (G.2.1 (t + 2), n, .inr (.inr (.inr (.inr (fun j => (rs[j]?).map G.2.2)))))) := by
          rw [vg_cw_at, ← vg_nth_eq, hr]
          simp [vg_ce]
        have hn : n ≤ rs.length := Nat.le_of_ble_eq_true h.1
        have hin := h.2.1.in
        obtain ⟨h1, h2⟩ := h.2.1
        have hlt : i.toInt.toNat < rs.length := by omega
        have hkk : rs[i.toNatClampNeg]? = some (rs[i.toInt.toNat]'hlt) := List.getElem?_eq_getElem hlt
        have hgo := vg_al_go rs 0 h.2.2 i.toInt.toNat _ (by omega) (List.getElem?_eq_getElem hlt)
        have hty : t = 0 ∨ t = 1 := hsh r t n rs hr
        rcases hty with rfl | rfl
        · refine va_aldq (C := "NoiseShaper$Fold") hx hb hE.1 hP r 2 he rfl hin hdg ?_
          simp only [hkk]
          exact kK _ _ _ _ _ _ hgo hl hP hS
        · refine va_aldq (C := "NoiseShaper$Latest") hx hb hE.1 hP r 3 he rfl hin hdg ?_
          simp only [hkk]
          exact kK _ _ _ _ _ _ hgo hl hP hS
      · exact h.elim
    · exact h.elim
  | iastore =>
    have hln : len = 1 := hln
    subst hln
    simp only [vg_ex] at h
    split at h
    · rename_i x i r st
      split at h
      · rename_i n rs hr
        have hr2 : sh[r]? = some (.inl (0, n, rs)) := by rw [← vg_nth_eq]; exact hr
        have he : (vg_cw G.2.1 G.2.2 σ 0 sh)[r]? = some (G.2.2 r, .inl (G.2.1 0, n, .inl (σ.1 r))) := by
          rw [vg_cw_at, hr2]
          simp [vg_ce]
        refine va_iast hx hb hE.1 hP (vg_cw_D G.2.1 G.2.2 σ sh hap) hS r 0 he rfl h.1.in hdg (fun H1 locs1 hP1 hD1 hS1 => kK _ _ _ _ _ _ (h.2 _ rfl) hl ?_ hS1)
        have := vg_cw_set1 G.2.1 G.2.2 σ sh r (.inl (0, n, rs)) (upd (σ.1 r) i.toNatClampNeg x) hr2
        simp only [vg_ce] at this
        rw [this] at hP1
        exact hP1
      · exact h.elim
    · exact h.elim
  | lastore =>
    have hln : len = 1 := hln
    subst hln
    simp only [vg_ex] at h
    split at h
    · rename_i x i r st
      split at h
      · rename_i n rs hr
        have hr2 : sh[r]? = some (.inl (1, n, rs)) := by rw [← vg_nth_eq]; exact hr
        have he : (vg_cw G.2.1 G.2.2 σ 0 sh)[r]? = some (G.2.2 r, .inl (G.2.1 1, n, .inr (.inl (σ.2 r)))) := by
          rw [vg_cw_at, hr2]
          simp [vg_ce]
        refine va_last hx hb hE.1 hP (vg_cw_D G.2.1 G.2.2 σ sh hap) hS r 1 he rfl h.1.in hdg (fun H1 locs1 hP1 hD1 hS1 => kK _ _ _ _ _ _ (h.2 _ rfl) hl ?_ hS1)
        have := vg_cw_set2 G.2.1 G.2.2 σ sh r (.inl (1, n, rs)) (vp_updL (σ.2 r) i.toNatClampNeg x) hr2
        simp only [vg_ce] at this
        rw [this] at hP1
        exact hP1
      · exact h.elim
    · exact h.elim
  | arraylength =>
    have hln : len = 1 := hln
    subst hln
    simp only [vg_ex] at h
    split at h
    · rename_i r st
      split at h
      · rename_i t n rs hr
        match t, hr with
        | 0, hr =>
          have he : (vg_cw G.2.1 G.2.2 σ 0 sh)[r]? = some (G.2.2 r, .inl (G.2.1 0, n, .inl (σ.1 r))) := by
            rw [vg_cw_at, ← vg_nth_eq, hr]
            simp [vg_ce]
          exact va_alen hx hb hE.1 hP r 0 he (ty := .int) rfl rfl hdg (kK _ _ _ _ _ _ h hl hP hS)
        | 1, hr =>
          have he : (vg_cw G.2.1 G.2.2 σ 0 sh)[r]? = some (G.2.2 r, .inl (G.2.1 1, n, .inr (.inl (σ.2 r)))) := by
            rw [vg_cw_at, ← vg_nth_eq, hr]
            simp [vg_ce]
          exact va_alen hx hb hE.1 hP r 1 he (ty := .long) rfl rfl hdg (kK _ _ _ _ _ _ h hl hP hS)
        | t + 2, hr =>
          have he : (vg_cw G.2.1 G.2.2 σ 0 sh)[r]? = some (G.2.2 r, .inl (G.2.1 (t + 2), n, .inr (.inr (.inr (.inr (fun j => (rs[j]?).map G.2.2)))))) := by
            rw [vg_cw_at, ← vg_nth_eq, hr]
            simp [vg_ce]
          rcases hsh r t n rs hr with rfl | rfl
          · exact va_alen hx hb hE.1 hP r 2 he (ty := .object "NoiseShaper$Fold") rfl rfl hdg (kK _ _ _ _ _ _ h hl hP hS)
          · exact va_alen hx hb hE.1 hP r 3 he (ty := .object "NoiseShaper$Latest") rfl rfl hdg (kK _ _ _ _ _ _ h hl hP hS)
      · split at h
        · rename_i n f hf
          exact va_tlen hx hb (hE.2.2.1 r n f hf) hS rfl hdg (kK _ _ _ _ _ _ h hl hP hS)
        · exact h.elim
      · exact h.elim
    · exact h.elim
  | invokevirtual i =>
    have hln : len = 3 := hln
    subst hln
    simp only [vg_ex] at h
    split at h
    · rename_i r o rest hr hd
      split at h
      · rename_i ci ks ho
        split at h
        · rename_i hci hn
          exact vg_goV (rt := rt) X hdg hlk hl hP hS hr hd ho hci hn h (fun st σ H locs hk hP hS => kK _ _ _ _ _ _ hk hl hP hS)
        · exact h.elim
      · exact h.elim
    · exact h.elim
  | invokestatic i =>
    have hln : len = 3 := hln
    subst hln
    simp only [vg_ex] at h
    split at h
    · simp only [vg_lks, Bool.and_eq_true] at hlk
      split at h
      · rename_i n dp kd sp ks rest
        split at h
        · rename_i n0 r0 n1 r1 hs hdd
          obtain ⟨h0, h1, h2, h3, h4, h5, h6⟩ := h
          obtain ⟨g1, g2, g3, g4, g5⟩ := hcp hlk.1
          have hd2 : sh[kd]? = some (.inl (0, n1, r1)) := by rw [← vg_nth_eq]; exact hdd
          have he0 : (vg_cw G.2.1 G.2.2 σ 0 sh)[ks]? = some (G.2.2 ks, .inl (G.2.1 0, n0, .inl (σ.1 ks))) := by
            rw [vg_cw_at, ← vg_nth_eq, hs]
            simp [vg_ce]
          have he1 : (vg_cw G.2.1 G.2.2 σ 0 sh)[kd]? = some (G.2.2 kd, .inl (G.2.1 0, n1, .inl (σ.1 kd))) := by
            rw [vg_cw_at, hd2]
            simp [vg_ce]
          refine va_copyi hx hb (hml.trans hl.1.1.symm) hown (hts _ (vg_wd_in hlk.2)) g3 g4 g5 hE.1 hP (vg_cw_D G.2.1 G.2.2 σ sh hap) hS ks kd 0 0 he0 he1 rfl rfl rfl (vg_nn h1) (vg_nn h2) (vg_nn h3) (by rw [vg_clamp, vg_clamp]; omega) (by rw [vg_clamp, vg_clamp]; omega) (fun i hi => rfl) g1 (by rw [vg_cat_eq]; omega) hdg (fun H1 locs1 hP1 hD1 hS1 => kK _ _ _ _ _ _ (h6 _ rfl) hl ?_ hS1)
          have := vg_cw_set1 G.2.1 G.2.2 σ sh kd (.inl (0, n1, r1)) (va_cpy (σ.1 ks) (σ.1 kd) sp.toNatClampNeg dp.toNatClampNeg n.toNatClampNeg) hd2
          simp only [vg_ce] at this
          rw [this] at hP1
          exact hP1
        · exact h.elim
      · exact h.elim
    · rename_i hb3
      split at h
      · rename_i r hr hn
        exact vg_goS (rt := rt) X hdg hb3 hlk hl hP hS hr hn h (fun st σ H locs hk hP hS => kK _ _ _ _ _ _ hk hl hP hS)
      · exact h.elim
  | ireturn =>
    have hln : len = 1 := hln
    subst hln
    simp only [vg_ex] at h
    split at h
    · rename_i x
      exact kR (some (.int x)) _ _ _ _ hok trivial h hl hP hS
    · rename_i x
      exact kR (some (.int x)) _ _ _ _ hok h.1 h.2 hl hP hS
    · exact h.elim
  | lreturn =>
    have hln : len = 1 := hln
    subst hln
    simp only [vg_ex] at h
    split at h
    · rename_i x
      exact kR (some (.long x)) _ _ _ _ hok trivial h hl hP hS
    · exact h.elim
  | areturn =>
    have hln : len = 1 := hln
    subst hln
    simp only [vg_ex] at h
    split at h
    · rename_i x
      exact kR (some (.ref x)) _ _ _ _ hok trivial h hl hP hS
    · exact h.elim
  | return_ =>
    have hln : len = 1 := hln
    subst hln
    simp only [vg_ex] at h
    split at h
    · exact kR none _ _ _ _ hok trivial h hl hP hS
    · exact h.elim
  | _ => exact False.elim h
end VGS
