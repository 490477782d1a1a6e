/-! THE CLAIM OUT OF ONE WALK OF THE LAW'S BODY -/
def R_law : String := "NoiseShaperLaw"
def lw_P (b : Addr) (xs : List Int32) (args : Array Value) (s : State) : Prop := args = #[.ref b] ∧ s.IntsAt b xs ∧ xs.length ≤ 3584 ∧ (Jvm.Cond.and given_1 narrow_1).before args s = true
def lw_Q (_ : Array Value) (s : State) (o : Outcome) (t : State) : Prop := o = .returned (some (.int 1)) ∧ Framed s o t [] 600000 7302250
def lw_Z (below : List Frame) (a : Array Value) (s : State) : State → Prop := fun t => ∃ o, t.status = .running ∧ Ended t below o ∧ lw_Q a s o t
/-- the law's own end, with 1 on the stack, nothing written that was there before, its room as the claim has it -/
theorem lw_ret {p : Program} {l : Launch} {e : Env} {s : State} {m : MethodId} {below : List Frame} {meth : Method} {c : Code} {b : Nat} (hx : p.tables.exec = Jvm.exec) (hb : c.code = code) (hr : meth.sig.returnType = ret) (hlocks : meth.locks = false) {pc : Nat} {H : Heap} {ls : Array Slot} (hdg : decode code pc = .ok (.ireturn, 1)) : W p l e room_1 s m #[Value.ref b] below meth c H [] 600000 7302250 (lw_Z below #[Value.ref b] s) (F0 m pc ls [.int 1]) := by
  intro T hT X
  obtain ⟨fs, hret, hrun, hended, hW, hframe⟩ := X.leave (v := some (.int 1)) (hlocks := hlocks) (fun h => by rw [hr] at h; cases h)
  have hmeth' : T.vm.method? m = some meth := X.method'
  refine ⟨T.setFrames fs, ?_, .returned (some (.int 1)), hrun, hended, rfl, ⟨_, rfl⟩, hW, hframe⟩
  jvm_step X.here [X.here.top, hx, hb, hdg, hmeth', hr, ret, narrow_b1]
  (try refine ⟨rfl, ?_⟩); (try refine ⟨rfl, ?_⟩)
  first | (intro acts; rw [hret _ acts rfl rfl rfl]) | rw [hret _ _ rfl rfl rfl]
  exact Steps.refl _
/-- what holds at the law's entry: the machine, the code, the tables' words (any of lw_tbl by 'hts w (by decide +kernel)'), the script of L ints xs at the cell b, what the Statement gives of the start (any of its parts by flat_of_before) -/
def lw_At (p : Program) (s : State) (m : MethodId) (meth : Method) (c : Code) (b L : Nat) (xs : Nat → Int32) : Prop :=
  p.tables.exec = Jvm.exec ∧ c.code = code ∧ meth.sig.returnType = ret ∧ c.maxLocals = 4 ∧ s.vm.findClass R_law = some m.cls ∧ (∀ w ∈ lw_tbl, w.before #[Value.ref b] s = true) ∧ va_X b L xs s s.heap ∧ b < s.heap.size ∧ meth.locks = false ∧ (Jvm.Cond.and given_1 narrow_1).before #[Value.ref b] s = true
/-- a word by its place -/
theorem lw_w {args : Array Value} {s : State} (hts : ∀ w ∈ lw_tbl, w.before args s = true) (i : Nat) {w : Cond} (h : vg_nth lw_tbl i = some w) : w.before args s = true := hts w (by rw [vg_nth_eq] at h; exact List.mem_of_getElem? h)
set_option maxRecDepth 100000 in
/-- the classes' numbers and slots -/
theorem lw_cls {args : Array Value} {s : State} (hts : ∀ w ∈ lw_tbl, w.before args s = true) : ∀ c : Nat, ∃ x : ClassId × (Nat → Nat), ∀ q : vw_C, vwCl[c]? = some q → u_Kn s q.1 q.2.1 q.2.2 x.1 x.2 := by
  intro c
  match c with
  | 0 =>
    obtain ⟨cC, iS, h⟩ := u_known (C := RX0) (T := TX0) (N := 2) hts inX0 (lw_w hts 346 (w := .instantiable "NoiseShaper$Asked" 2) rfl)
    exact ⟨(cC, iS), fun q hq => by cases hq; exact h⟩
  | 1 =>
    obtain ⟨cC, iS, h⟩ := u_known (C := RX1) (T := TX1) (N := 10) hts inX1 (lw_w hts 285 (w := .instantiable "NoiseShaper$Comb" 10) rfl)
    exact ⟨(cC, iS), fun q hq => by cases hq; exact h⟩
  | 2 =>
    obtain ⟨cC, iS, h⟩ := u_known (C := RX2) (T := TX2) (N := 11) hts inX2 (lw_w hts 234 (w := .instantiable "NoiseShaper$Elements" 11) rfl)
    exact ⟨(cC, iS), fun q hq => by cases hq; exact h⟩
  | 3 =>
    obtain ⟨cC, iS, h⟩ := u_known (C := RX3) (T := TX3) (N := 4) hts inX3 (lw_w hts 388 (w := .instantiable "NoiseShaper$Fold" 4) rfl)
    exact ⟨(cC, iS), fun q hq => by cases hq; exact h⟩
  | 4 =>
    obtain ⟨cC, iS, h⟩ := u_known (C := RX4) (T := TX4) (N := 4) hts inX4 (lw_w hts 407 (w := .instantiable "NoiseShaper$Latest" 4) rfl)
    exact ⟨(cC, iS), fun q hq => by cases hq; exact h⟩
  | 5 =>
    obtain ⟨cC, iS, h⟩ := u_known (C := RX5) (T := TX5) (N := 14) hts inX5 (lw_w hts 127 (w := .instantiable "NoiseShaper$Loop" 14) rfl)
    exact ⟨(cC, iS), fun q hq => by cases hq; exact h⟩
  | 6 =>
    obtain ⟨cC, iS, h⟩ := u_known (C := RX6) (T := TX6) (N := 8) hts inX6 (lw_w hts 133 (w := .instantiable "NoiseShaper$LoopPlan" 8) rfl)
    exact ⟨(cC, iS), fun q hq => by cases hq; exact h⟩
  | 7 =>
    obtain ⟨cC, iS, h⟩ := u_known (C := RX7) (T := TX7) (N := 5) hts inX7 (lw_w hts 99 (w := .instantiable "NoiseShaper$Source" 5) rfl)
    exact ⟨(cC, iS), fun q hq => by cases hq; exact h⟩
  | 8 =>
    obtain ⟨cC, iS, h⟩ := u_known (C := RX8) (T := TX8) (N := 2) hts inX8 (lw_w hts 329 (w := .instantiable "NoiseShaper$Taps" 2) rfl)
    exact ⟨(cC, iS), fun q hq => by cases hq; exact h⟩
  | 9 =>
    obtain ⟨cC, iS, h⟩ := u_known (C := RX9) (T := TX9) (N := 6) hts inX9 (lw_w hts 361 (w := .instantiable "NoiseShaper$Tone" 6) rfl)
    exact ⟨(cC, iS), fun q hq => by cases hq; exact h⟩
  | 10 =>
    obtain ⟨cC, iS, h⟩ := u_known (C := RX10) (T := TX10) (N := 14) hts inX10 (lw_w hts 91 (w := .instantiable "NoiseShaper" 14) rfl)
    exact ⟨(cC, iS), fun q hq => by cases hq; exact h⟩
  | 11 =>
    obtain ⟨cC, iS, h⟩ := u_known (C := RX11) (T := TX11) (N := 35) hts inX11 (lw_w hts 1055 (w := .instantiable "NoiseShaperModel" 35) rfl)
    exact ⟨(cC, iS), fun q hq => by cases hq; exact h⟩
  | _ + 12 => exact ⟨(0, fun _ => 0), fun q hq => by cases hq⟩
set_option maxRecDepth 100000 in
theorem lw_arr {args : Array Value} {s : State} (hts : ∀ w ∈ lw_tbl, w.before args s = true) : ∃ dA : Nat → ClassId, ∀ (k : Nat) (q : ClassId × FieldType), (vg_ty dA)[k]? = some q → ArrOfT s q.1 q.2 ∧ va_RA s q.1 q.2 := by
  obtain ⟨c0, k0, p0, f0, g0, h0⟩ := Cond.arrayClass_spec (lw_w hts 125 (w := .arrayClass .int) rfl)
  obtain ⟨c1, k1, p1, f1, g1, h1⟩ := Cond.arrayClass_spec (lw_w hts 327 (w := .arrayClass .long) rfl)
  obtain ⟨p2, c2, k2, f2, -, g2, h2, j2⟩ := Cond.arrayOver_spec (lw_w hts 342 (w := .arrayOver (.object "NoiseShaper$Fold")) rfl)
  obtain ⟨p3, c3, k3, f3, -, g3, h3, j3⟩ := Cond.arrayOver_spec (lw_w hts 344 (w := .arrayOver (.object "NoiseShaper$Latest")) rfl)
  refine ⟨fun k => match k with | 0 => c0 | 1 => c1 | 2 => c2 | _ => c3, fun k q hq => ?_⟩
  match k, hq with
  | 0, hq => cases hq; exact ⟨fun N z => ⟨(fun k h => by cases h), k0, g0, p0, h0⟩, f0⟩
  | 1, hq => cases hq; exact ⟨fun N z => ⟨(fun k h => by cases h), k1, g1, p1, h1⟩, f1⟩
  | 2, hq => cases hq; exact ⟨fun N z => ⟨(fun k h => by cases h), k2, g2, p2, h2⟩, k2, p2, g2, h2, f2, j2⟩
  | 3, hq => cases hq; exact ⟨fun N z => ⟨(fun k h => by cases h), k3, g3, p3, h3⟩, k3, p3, g3, h3, f3, j3⟩
  | _ + 4, hq => cases hq
theorem lw_K {args : Array Value} {s : State} (hts : ∀ w ∈ lw_tbl, w.before args s = true) : ∃ (D : va_G) (dA : Nat → ClassId), va_K D vwCl (vg_ty dA) s := by
  obtain ⟨x, hx⟩ := Classical.axiomOfChoice (lw_cls hts)
  obtain ⟨dA, hA⟩ := lw_arr hts
  exact ⟨(fun c => (x c).1, fun c => (x c).2), dA, fun c q hq => hx c q hq, hA⟩
set_option maxRecDepth 100000 in
theorem lw_st_SHORT {args : Array Value} {s : State} {A : Nat → Prop} (hts : ∀ w ∈ lw_tbl, w.before args s = true) (hgv : (Jvm.Cond.and given_1 narrow_1).before args s = true) (hA : ∀ a : Nat, a < s.heap.size → ¬ A a) : ∃ t : Nat, t < s.heap.size ∧ va_T .int t 3 (fun j => .int (([1, 2, 1] : List Int32).getD j 0)) A s s.heap ∧ va_Z "NoiseShaper$Taps" "SHORT" "[I" (.ref t) A s s.heap := by
  have hs := flat_of_before _ hgv
  have har : (Cond.arrayOf (.static "NoiseShaper$Taps" "SHORT" "[I") .int).before args s = true := hs _ (by decide +kernel)
  have hle : (Cond.eq (.length (.static "NoiseShaper$Taps" "SHORT" "[I")) (.int 3)).before args s = true := hs _ (by decide +kernel)
  have h0 : (Cond.eq (.elem (.static "NoiseShaper$Taps" "SHORT" "[I") (.int 0)) (.int 1)).before args s = true := hs _ (by decide +kernel)
  have h1 : (Cond.eq (.elem (.static "NoiseShaper$Taps" "SHORT" "[I") (.int 1)) (.int 2)).before args s = true := hs _ (by decide +kernel)
  have h2 : (Cond.eq (.elem (.static "NoiseShaper$Taps" "SHORT" "[I") (.int 2)) (.int 1)).before args s = true := hs _ (by decide +kernel)
  obtain ⟨t, ht, hT⟩ := va_Tof (f := fun j => .int (([1, 2, 1] : List Int32).getD j 0)) (A := A) (N := 3) (by omega) har (va_eqt hle) (fun j hj => by
    match j, hj with
    | 0, _ => exact va_eqt h0
    | 1, _ => exact va_eqt h1
    | 2, _ => exact va_eqt h2
    | k + 3, hj => exact absurd hj (by omega)) hA
  refine ⟨t, ?_, hT, va_Zref (lw_w hts 592 (w := .laysStatic "NoiseShaper$Taps" "SHORT" "[I") rfl) (lw_w hts 80 (w := .initialized "NoiseShaper$Taps") rfl) ht hA⟩
  obtain ⟨cell, hc, -⟩ := hT
  exact (Array.getElem?_eq_some_iff.mp hc).1
set_option maxRecDepth 100000 in
theorem lw_st_MIDDLE {args : Array Value} {s : State} {A : Nat → Prop} (hts : ∀ w ∈ lw_tbl, w.before args s = true) (hgv : (Jvm.Cond.and given_1 narrow_1).before args s = true) (hA : ∀ a : Nat, a < s.heap.size → ¬ A a) : ∃ t : Nat, t < s.heap.size ∧ va_T .int t 7 (fun j => .int (([-1, 0, 9, 16, 9, 0, -1] : List Int32).getD j 0)) A s s.heap ∧ va_Z "NoiseShaper$Taps" "MIDDLE" "[I" (.ref t) A s s.heap := by
  have hs := flat_of_before _ hgv
  have har : (Cond.arrayOf (.static "NoiseShaper$Taps" "MIDDLE" "[I") .int).before args s = true := hs _ (by decide +kernel)
  have hle : (Cond.eq (.length (.static "NoiseShaper$Taps" "MIDDLE" "[I")) (.int 7)).before args s = true := hs _ (by decide +kernel)
  have h0 : (Cond.eq (.elem (.static "NoiseShaper$Taps" "MIDDLE" "[I") (.int 0)) (.int (-1))).before args s = true := hs _ (by decide +kernel)
  have h1 : (Cond.eq (.elem (.static "NoiseShaper$Taps" "MIDDLE" "[I") (.int 1)) (.int 0)).before args s = true := hs _ (by decide +kernel)
  have h2 : (Cond.eq (.elem (.static "NoiseShaper$Taps" "MIDDLE" "[I") (.int 2)) (.int 9)).before args s = true := hs _ (by decide +kernel)
  have h3 : (Cond.eq (.elem (.static "NoiseShaper$Taps" "MIDDLE" "[I") (.int 3)) (.int 16)).before args s = true := hs _ (by decide +kernel)
  have h4 : (Cond.eq (.elem (.static "NoiseShaper$Taps" "MIDDLE" "[I") (.int 4)) (.int 9)).before args s = true := hs _ (by decide +kernel)
  have h5 : (Cond.eq (.elem (.static "NoiseShaper$Taps" "MIDDLE" "[I") (.int 5)) (.int 0)).before args s = true := hs _ (by decide +kernel)
  have h6 : (Cond.eq (.elem (.static "NoiseShaper$Taps" "MIDDLE" "[I") (.int 6)) (.int (-1))).before args s = true := hs _ (by decide +kernel)
  obtain ⟨t, ht, hT⟩ := va_Tof (f := fun j => .int (([-1, 0, 9, 16, 9, 0, -1] : List Int32).getD j 0)) (A := A) (N := 7) (by omega) har (va_eqt hle) (fun j hj => by
    match j, hj with
    | 0, _ => exact va_eqt h0
    | 1, _ => exact va_eqt h1
    | 2, _ => exact va_eqt h2
    | 3, _ => exact va_eqt h3
    | 4, _ => exact va_eqt h4
    | 5, _ => exact va_eqt h5
    | 6, _ => exact va_eqt h6
    | k + 7, hj => exact absurd hj (by omega)) hA
  refine ⟨t, ?_, hT, va_Zref (lw_w hts 594 (w := .laysStatic "NoiseShaper$Taps" "MIDDLE" "[I") rfl) (lw_w hts 80 (w := .initialized "NoiseShaper$Taps") rfl) ht hA⟩
  obtain ⟨cell, hc, -⟩ := hT
  exact (Array.getElem?_eq_some_iff.mp hc).1
set_option maxRecDepth 100000 in
theorem lw_st_LONG {args : Array Value} {s : State} {A : Nat → Prop} (hts : ∀ w ∈ lw_tbl, w.before args s = true) (hgv : (Jvm.Cond.and given_1 narrow_1).before args s = true) (hA : ∀ a : Nat, a < s.heap.size → ¬ A a) : ∃ t : Nat, t < s.heap.size ∧ va_T .int t 11 (fun j => .int (([3, 0, -25, 0, 150, 256, 150, 0, -25, 0, 3] : List Int32).getD j 0)) A s s.heap ∧ va_Z "NoiseShaper$Taps" "LONG" "[I" (.ref t) A s s.heap := by
  have hs := flat_of_before _ hgv
  have har : (Cond.arrayOf (.static "NoiseShaper$Taps" "LONG" "[I") .int).before args s = true := hs _ (by decide +kernel)
  have hle : (Cond.eq (.length (.static "NoiseShaper$Taps" "LONG" "[I")) (.int 11)).before args s = true := hs _ (by decide +kernel)
  have h0 : (Cond.eq (.elem (.static "NoiseShaper$Taps" "LONG" "[I") (.int 0)) (.int 3)).before args s = true := hs _ (by decide +kernel)
  have h1 : (Cond.eq (.elem (.static "NoiseShaper$Taps" "LONG" "[I") (.int 1)) (.int 0)).before args s = true := hs _ (by decide +kernel)
  have h2 : (Cond.eq (.elem (.static "NoiseShaper$Taps" "LONG" "[I") (.int 2)) (.int (-25))).before args s = true := hs _ (by decide +kernel)
  have h3 : (Cond.eq (.elem (.static "NoiseShaper$Taps" "LONG" "[I") (.int 3)) (.int 0)).before args s = true := hs _ (by decide +kernel)
  have h4 : (Cond.eq (.elem (.static "NoiseShaper$Taps" "LONG" "[I") (.int 4)) (.int 150)).before args s = true := hs _ (by decide +kernel)
  have h5 : (Cond.eq (.elem (.static "NoiseShaper$Taps" "LONG" "[I") (.int 5)) (.int 256)).before args s = true := hs _ (by decide +kernel)
  have h6 : (Cond.eq (.elem (.static "NoiseShaper$Taps" "LONG" "[I") (.int 6)) (.int 150)).before args s = true := hs _ (by decide +kernel)
  have h7 : (Cond.eq (.elem (.static "NoiseShaper$Taps" "LONG" "[I") (.int 7)) (.int 0)).before args s = true := hs _ (by decide +kernel)
  have h8 : (Cond.eq (.elem (.static "NoiseShaper$Taps" "LONG" "[I") (.int 8)) (.int (-25))).before args s = true := hs _ (by decide +kernel)
  have h9 : (Cond.eq (.elem (.static "NoiseShaper$Taps" "LONG" "[I") (.int 9)) (.int 0)).before args s = true := hs _ (by decide +kernel)
  have h10 : (Cond.eq (.elem (.static "NoiseShaper$Taps" "LONG" "[I") (.int 10)) (.int 3)).before args s = true := hs _ (by decide +kernel)
  obtain ⟨t, ht, hT⟩ := va_Tof (f := fun j => .int (([3, 0, -25, 0, 150, 256, 150, 0, -25, 0, 3] : List Int32).getD j 0)) (A := A) (N := 11) (by omega) har (va_eqt hle) (fun j hj => by
    match j, hj with
    | 0, _ => exact va_eqt h0
    | 1, _ => exact va_eqt h1
    | 2, _ => exact va_eqt h2
    | 3, _ => exact va_eqt h3
    | 4, _ => exact va_eqt h4
    | 5, _ => exact va_eqt h5
    | 6, _ => exact va_eqt h6
    | 7, _ => exact va_eqt h7
    | 8, _ => exact va_eqt h8
    | 9, _ => exact va_eqt h9
    | 10, _ => exact va_eqt h10
    | k + 11, hj => exact absurd hj (by omega)) hA
  refine ⟨t, ?_, hT, va_Zref (lw_w hts 596 (w := .laysStatic "NoiseShaper$Taps" "LONG" "[I") rfl) (lw_w hts 80 (w := .initialized "NoiseShaper$Taps") rfl) ht hA⟩
  obtain ⟨cell, hc, -⟩ := hT
  exact (Array.getElem?_eq_some_iff.mp hc).1
set_option maxRecDepth 100000 in
theorem lw_nestc {args : Array Value} {s : State} (hts : ∀ w ∈ lw_tbl, w.before args s = true) : ∀ w ∈ vc_nest, va_Nw w s := by
  intro w hw
  simp only [vc_nest, List.mem_cons, List.not_mem_nil, or_false] at hw
  rcases hw with rfl | rfl | rfl | rfl | rfl | rfl | rfl | rfl | rfl | rfl
  · exact va_Nw.of rfl (lw_w hts 100 rfl)
  · exact va_Nw.of rfl (lw_w hts 128 rfl)
  · exact va_Nw.of rfl (lw_w hts 134 rfl)
  · exact va_Nw.of rfl (lw_w hts 235 rfl)
  · exact va_Nw.of rfl (lw_w hts 286 rfl)
  · exact va_Nw.of rfl (lw_w hts 330 rfl)
  · exact va_Nw.of rfl (lw_w hts 347 rfl)
  · exact va_Nw.of rfl (lw_w hts 362 rfl)
  · exact va_Nw.of rfl (lw_w hts 389 rfl)
  · exact va_Nw.of rfl (lw_w hts 408 rfl)
set_option maxRecDepth 100000 in
theorem lw_nestv {args : Array Value} {s : State} (hts : ∀ w ∈ lw_tbl, w.before args s = true) : ∀ w ∈ vg_nest, va_Nw w s := by
  intro w hw
  simp only [vg_nest, List.mem_cons, List.not_mem_nil, or_false] at hw
  rcases hw with rfl | rfl | rfl | rfl
  · exact va_Nw.of rfl (lw_w hts 604 rfl)
  · exact va_Nw.of rfl (lw_w hts 631 rfl)
  · exact va_Nw.of rfl (lw_w hts 665 rfl)
  · exact va_Nw.of rfl (lw_w hts 746 rfl)
set_option maxRecDepth 100000 in
theorem lw_cs_ok (l : Launch) (G : vg_G) (hp : vg_Hp G) : ∀ r ∈ lw_cs, vg_Ct l G vg_sh r ∧ r.1.2.2.2.2.1 + 1 ≤ room_1.frames ∧ 8 + (r.1.2.2.1 + 11) + r.1.2.2.2.2.2.1 ≤ room_1.locals := List.forall_mem_cons.mpr ⟨⟨c_X10_status l G hp, Nat.le_of_ble_eq_true rfl, Nat.le_of_ble_eq_true rfl⟩, List.forall_mem_cons.mpr ⟨⟨c_X11_status l G hp, Nat.le_of_ble_eq_true rfl, Nat.le_of_ble_eq_true rfl⟩, List.forall_mem_cons.mpr ⟨⟨c_X10_source l G hp, Nat.le_of_ble_eq_true rfl, Nat.le_of_ble_eq_true rfl⟩, List.forall_mem_cons.mpr ⟨⟨c_X11_source l G hp, Nat.le_of_ble_eq_true rfl, Nat.le_of_ble_eq_true rfl⟩, List.forall_mem_cons.mpr ⟨⟨c_X10_sample l G hp, Nat.le_of_ble_eq_true rfl, Nat.le_of_ble_eq_true rfl⟩, List.forall_mem_cons.mpr ⟨⟨c_X11_sample l G hp, Nat.le_of_ble_eq_true rfl, Nat.le_of_ble_eq_true rfl⟩, List.forall_mem_cons.mpr ⟨⟨c_X10_loop l G hp, Nat.le_of_ble_eq_true rfl, Nat.le_of_ble_eq_true rfl⟩, List.forall_mem_cons.mpr ⟨⟨c_X11_loop l G hp, Nat.le_of_ble_eq_true rfl, Nat.le_of_ble_eq_true rfl⟩, List.forall_mem_cons.mpr ⟨⟨c_X10_dither l G hp, Nat.le_of_ble_eq_true rfl, Nat.le_of_ble_eq_true rfl⟩, List.forall_mem_cons.mpr ⟨⟨c_X11_dither l G hp, Nat.le_of_ble_eq_true rfl, Nat.le_of_ble_eq_true rfl⟩, List.forall_mem_cons.mpr ⟨⟨c_X10_way l G hp, Nat.le_of_ble_eq_true rfl, Nat.le_of_ble_eq_true rfl⟩, List.forall_mem_cons.mpr ⟨⟨c_X11_way l G hp, Nat.le_of_ble_eq_true rfl, Nat.le_of_ble_eq_true rfl⟩, List.forall_mem_cons.mpr ⟨⟨c_X10_deviation l G hp, Nat.le_of_ble_eq_true rfl, Nat.le_of_ble_eq_true rfl⟩, List.forall_mem_cons.mpr ⟨⟨c_X11_deviation l G hp, Nat.le_of_ble_eq_true rfl, Nat.le_of_ble_eq_true rfl⟩, List.forall_mem_cons.mpr ⟨⟨c_X10_comb l G hp, Nat.le_of_ble_eq_true rfl, Nat.le_of_ble_eq_true rfl⟩, List.forall_mem_cons.mpr ⟨⟨c_X11_comb l G hp, Nat.le_of_ble_eq_true rfl, Nat.le_of_ble_eq_true rfl⟩, List.forall_mem_cons.mpr ⟨⟨c_X10_taps l G hp, Nat.le_of_ble_eq_true rfl, Nat.le_of_ble_eq_true rfl⟩, List.forall_mem_cons.mpr ⟨⟨c_X11_taps l G hp, Nat.le_of_ble_eq_true rfl, Nat.le_of_ble_eq_true rfl⟩, List.forall_mem_cons.mpr ⟨⟨c_X10_folds l G hp, Nat.le_of_ble_eq_true rfl, Nat.le_of_ble_eq_true rfl⟩, List.forall_mem_cons.mpr ⟨⟨c_X11_folds_ l G hp, Nat.le_of_ble_eq_true rfl, Nat.le_of_ble_eq_true rfl⟩, List.forall_mem_cons.mpr ⟨⟨c_X10_anew l G hp, Nat.le_of_ble_eq_true rfl, Nat.le_of_ble_eq_true rfl⟩, List.forall_mem_cons.mpr ⟨⟨c_X11_anew l G hp, Nat.le_of_ble_eq_true rfl, Nat.le_of_ble_eq_true rfl⟩, List.forall_mem_cons.mpr ⟨⟨c_X10_clocks l G hp, Nat.le_of_ble_eq_true rfl, Nat.le_of_ble_eq_true rfl⟩, List.forall_mem_cons.mpr ⟨⟨c_X11_clocks l G hp, Nat.le_of_ble_eq_true rfl, Nat.le_of_ble_eq_true rfl⟩, List.forall_mem_cons.mpr ⟨⟨c_X10_told l G hp, Nat.le_of_ble_eq_true rfl, Nat.le_of_ble_eq_true rfl⟩, List.forall_mem_cons.mpr ⟨⟨c_X11_told l G hp, Nat.le_of_ble_eq_true rfl, Nat.le_of_ble_eq_true rfl⟩, List.forall_mem_cons.mpr ⟨⟨c_X10_latest l G hp, Nat.le_of_ble_eq_true rfl, Nat.le_of_ble_eq_true rfl⟩, List.forall_mem_cons.mpr ⟨⟨c_X11_latest l G hp, Nat.le_of_ble_eq_true rfl, Nat.le_of_ble_eq_true rfl⟩, List.forall_mem_cons.mpr ⟨⟨c_X10_state l G hp, Nat.le_of_ble_eq_true rfl, Nat.le_of_ble_eq_true rfl⟩, List.forall_mem_cons.mpr ⟨⟨c_X11_state l G hp, Nat.le_of_ble_eq_true rfl, Nat.le_of_ble_eq_true rfl⟩, List.forall_mem_cons.mpr ⟨⟨c_X10_sum l G hp, Nat.le_of_ble_eq_true rfl, Nat.le_of_ble_eq_true rfl⟩, List.forall_mem_cons.mpr ⟨⟨c_X11_sum l G hp, Nat.le_of_ble_eq_true rfl, Nat.le_of_ble_eq_true rfl⟩, List.forall_mem_cons.mpr ⟨⟨c_X10_gap l G hp, Nat.le_of_ble_eq_true rfl, Nat.le_of_ble_eq_true rfl⟩, List.forall_mem_cons.mpr ⟨⟨c_X11_gap l G hp, Nat.le_of_ble_eq_true rfl, Nat.le_of_ble_eq_true rfl⟩, List.forall_mem_cons.mpr ⟨⟨c_X10_range l G hp, Nat.le_of_ble_eq_true rfl, Nat.le_of_ble_eq_true rfl⟩, List.forall_mem_cons.mpr ⟨⟨c_X11_range l G hp, Nat.le_of_ble_eq_true rfl, Nat.le_of_ble_eq_true rfl⟩, List.forall_mem_cons.mpr ⟨⟨c_X10_steady l G hp, Nat.le_of_ble_eq_true rfl, Nat.le_of_ble_eq_true rfl⟩, List.forall_mem_cons.mpr ⟨⟨c_X11_steady l G hp, Nat.le_of_ble_eq_true rfl, Nat.le_of_ble_eq_true rfl⟩, List.forall_mem_cons.mpr ⟨⟨c_X10_element l G hp, Nat.le_of_ble_eq_true rfl, Nat.le_of_ble_eq_true rfl⟩, List.forall_mem_cons.mpr ⟨⟨c_X11_element l G hp, Nat.le_of_ble_eq_true rfl, Nat.le_of_ble_eq_true rfl⟩, List.forall_mem_cons.mpr ⟨⟨c_X10_spread l G hp, Nat.le_of_ble_eq_true rfl, Nat.le_of_ble_eq_true rfl⟩, List.forall_mem_cons.mpr ⟨⟨c_X11_spread l G hp, Nat.le_of_ble_eq_true rfl, Nat.le_of_ble_eq_true rfl⟩, List.forall_mem_cons.mpr ⟨⟨c_X10_combed l G hp, Nat.le_of_ble_eq_true rfl, Nat.le_of_ble_eq_true rfl⟩, List.forall_mem_cons.mpr ⟨⟨c_X11_combed l G hp, Nat.le_of_ble_eq_true rfl, Nat.le_of_ble_eq_true rfl⟩, List.forall_mem_cons.mpr ⟨⟨c_X10_wrong l G hp, Nat.le_of_ble_eq_true rfl, Nat.le_of_ble_eq_true rfl⟩, List.forall_mem_cons.mpr ⟨⟨c_X11_wrong l G hp, Nat.le_of_ble_eq_true rfl, Nat.le_of_ble_eq_true rfl⟩, List.forall_mem_cons.mpr ⟨⟨c_X10_work l G hp, Nat.le_of_ble_eq_true rfl, Nat.le_of_ble_eq_true rfl⟩, List.forall_mem_cons.mpr ⟨⟨c_X11_work l G hp, Nat.le_of_ble_eq_true rfl, Nat.le_of_ble_eq_true rfl⟩, List.forall_mem_cons.mpr ⟨⟨c_X10_need l G hp, Nat.le_of_ble_eq_true rfl, Nat.le_of_ble_eq_true rfl⟩, List.forall_mem_cons.mpr ⟨⟨c_X11_need l G hp, Nat.le_of_ble_eq_true rfl, Nat.le_of_ble_eq_true rfl⟩, List.forall_mem_cons.mpr ⟨⟨c_X10_response l G hp, Nat.le_of_ble_eq_true rfl, Nat.le_of_ble_eq_true rfl⟩, List.forall_mem_cons.mpr ⟨⟨c_X11_response l G hp, Nat.le_of_ble_eq_true rfl, Nat.le_of_ble_eq_true rfl⟩, List.forall_mem_cons.mpr ⟨⟨c_X10_half l G hp, Nat.le_of_ble_eq_true rfl, Nat.le_of_ble_eq_true rfl⟩, List.forall_mem_cons.mpr ⟨⟨c_X11_half l G hp, Nat.le_of_ble_eq_true rfl, Nat.le_of_ble_eq_true rfl⟩, List.forall_mem_cons.mpr ⟨⟨c_X10_beat l G hp, Nat.le_of_ble_eq_true rfl, Nat.le_of_ble_eq_true rfl⟩, List.forall_mem_cons.mpr ⟨⟨c_X11_beat l G hp, Nat.le_of_ble_eq_true rfl, Nat.le_of_ble_eq_true rfl⟩, List.forall_mem_cons.mpr ⟨⟨c_X10_tonal l G hp, Nat.le_of_ble_eq_true rfl, Nat.le_of_ble_eq_true rfl⟩, List.forall_mem_cons.mpr ⟨⟨c_X11_tonal l G hp, Nat.le_of_ble_eq_true rfl, Nat.le_of_ble_eq_true rfl⟩, List.forall_mem_cons.mpr ⟨⟨c_X10_tone l G hp, Nat.le_of_ble_eq_true rfl, Nat.le_of_ble_eq_true rfl⟩, List.forall_mem_cons.mpr ⟨⟨c_X11_tone l G hp, Nat.le_of_ble_eq_true rfl, Nat.le_of_ble_eq_true rfl⟩, List.forall_mem_cons.mpr ⟨⟨c_X10_out l G hp, Nat.le_of_ble_eq_true rfl, Nat.le_of_ble_eq_true rfl⟩, List.forall_mem_cons.mpr ⟨⟨c_X11_out l G hp, Nat.le_of_ble_eq_true rfl, Nat.le_of_ble_eq_true rfl⟩, List.forall_mem_cons.mpr ⟨⟨c_X10_asked l G hp, Nat.le_of_ble_eq_true rfl, Nat.le_of_ble_eq_true rfl⟩, List.forall_mem_cons.mpr ⟨⟨c_X11_asked l G hp, Nat.le_of_ble_eq_true rfl, Nat.le_of_ble_eq_true rfl⟩, List.forall_mem_cons.mpr ⟨⟨c_X10_idle l G hp, Nat.le_of_ble_eq_true rfl, Nat.le_of_ble_eq_true rfl⟩, List.forall_mem_cons.mpr ⟨⟨c_X11_idle l G hp, Nat.le_of_ble_eq_true rfl, Nat.le_of_ble_eq_true rfl⟩, List.forall_mem_cons.mpr ⟨⟨c_X10_next l G hp, Nat.le_of_ble_eq_true rfl, Nat.le_of_ble_eq_true rfl⟩, List.forall_mem_cons.mpr ⟨⟨c_X11_next l G hp, Nat.le_of_ble_eq_true rfl, Nat.le_of_ble_eq_true rfl⟩, List.forall_mem_cons.mpr ⟨⟨c_X10_ahead l G hp, Nat.le_of_ble_eq_true rfl, Nat.le_of_ble_eq_true rfl⟩, List.forall_mem_cons.mpr ⟨⟨c_X11_ahead l G hp, Nat.le_of_ble_eq_true rfl, Nat.le_of_ble_eq_true rfl⟩, List.forall_mem_cons.mpr ⟨⟨c_X10_strain l G hp, Nat.le_of_ble_eq_true rfl, Nat.le_of_ble_eq_true rfl⟩, List.forall_mem_cons.mpr ⟨⟨c_X11_strain l G hp, Nat.le_of_ble_eq_true rfl, Nat.le_of_ble_eq_true rfl⟩, List.forall_mem_cons.mpr ⟨⟨c_X10_calmed l G hp, Nat.le_of_ble_eq_true rfl, Nat.le_of_ble_eq_true rfl⟩, List.forall_mem_cons.mpr ⟨⟨c_X11_calmed l G hp, Nat.le_of_ble_eq_true rfl, Nat.le_of_ble_eq_true rfl⟩, fun _ h => absurd h List.not_mem_nil⟩⟩⟩⟩⟩⟩⟩⟩⟩⟩⟩⟩⟩⟩⟩⟩⟩⟩⟩⟩⟩⟩⟩⟩⟩⟩⟩⟩⟩⟩⟩⟩⟩⟩⟩⟩⟩⟩⟩⟩⟩⟩⟩⟩⟩⟩⟩⟩⟩⟩⟩⟩⟩⟩⟩⟩⟩⟩⟩⟩⟩⟩⟩⟩⟩⟩⟩⟩⟩⟩⟩⟩⟩⟩
def o_law_0 : List vg_I := [(18, .iload_n 3, 1, 0, 0, 0, 0), (19, .aload_n 0, 1, 0, 0, 0, 0), (20, .arraylength, 1, 0, 0, 0, 0), (21, .bipush 7, 2, 0, 0, 0, 0), (23, .isub, 1, 0, 0, 0, 0), (24, .if_icmp .gt 1407, 3, 0, 0, 0, 0), (27, .aload_n 0, 1, 0, 0, 0, 0), (28, .iload_n 3, 1, 0, 0, 0, 0), (29, .iaload, 1, 0, 0, 0, 0), (30, .bipush 63, 2, 0, 0, 0, 0), (32, .iand, 1, 0, 0, 0, 0), (33, .tableswitch 1392 0 36 #[163, 176, 229, 262, 353, 386, 409, 442, 495, 558, 611, 634, 657, 680, 713, 736, 759, 792, 825, 858, 891, 904, 927, 950, 983, 1006, 1029, 1062, 1095, 1118, 1151, 1184, 1207, 1260, 1283, 1326, 1359], 163, 0, 0, 0, 0), (196, .aload_n 1, 1, 0, 0, 0, 0), (197, .invokevirtual 13, 3, 0, 10, 0, 470), (200, .pop, 1, 0, 0, 0, 0), (201, .aload_n 2, 1, 0, 0, 0, 0), (202, .invokevirtual 17, 3, 1, 11, 0, 1167), (205, .pop, 1, 0, 0, 0, 0), (206, .goto 1219, 3, 0, 0, 0, 0), (209, .aload_n 1, 1, 0, 0, 0, 0), (210, .aload_n 0, 1, 0, 0, 0, 0), (211, .iload_n 3, 1, 0, 0, 0, 0), (212, .iconst 1, 1, 0, 0, 0, 0), (213, .iadd, 1, 0, 0, 0, 0), (214, .iaload, 1, 0, 0, 0, 0), (215, .aload_n 0, 1, 0, 0, 0, 0), (216, .iload_n 3, 1, 0, 0, 0, 0), (217, .iconst 2, 1, 0, 0, 0, 0), (218, .iadd, 1, 0, 0, 0, 0), (219, .iaload, 1, 0, 0, 0, 0), (220, .aload_n 0, 1, 0, 0, 0, 0), (221, .iload_n 3, 1, 0, 0, 0, 0), (222, .iconst 3, 1, 0, 0, 0, 0), (223, .iadd, 1, 0, 0, 0, 0), (224, .iaload, 1, 0, 0, 0, 0), (225, .aload_n 0, 1, 0, 0, 0, 0), (226, .iload_n 3, 1, 0, 0, 0, 0), (227, .iconst 4, 1, 0, 0, 0, 0), (228, .iadd, 1, 0, 0, 0, 0), (229, .iaload, 1, 0, 0, 0, 0), (230, .invokevirtual 18, 3, 2, 10, 4, 474), (233, .pop, 1, 0, 0, 0, 0), (234, .aload_n 2, 1, 0, 0, 0, 0), (235, .aload_n 0, 1, 0, 0, 0, 0), (236, .iload_n 3, 1, 0, 0, 0, 0), (237, .iconst 1, 1, 0, 0, 0, 0), (238, .iadd, 1, 0, 0, 0, 0), (239, .iaload, 1, 0, 0, 0, 0), (240, .aload_n 0, 1, 0, 0, 0, 0), (241, .iload_n 3, 1, 0, 0, 0, 0)]
set_option maxRecDepth 100000 in
theorem lw_ops_0 : o_law_0.all (vg_ok "NoiseShaperLaw" code lw_cs (some .boolean) false) = true := by decide +kernel
def o_law_1 : List vg_I := [(242, .iconst 2, 1, 0, 0, 0, 0), (243, .iadd, 1, 0, 0, 0, 0), (244, .iaload, 1, 0, 0, 0, 0), (245, .aload_n 0, 1, 0, 0, 0, 0), (246, .iload_n 3, 1, 0, 0, 0, 0), (247, .iconst 3, 1, 0, 0, 0, 0), (248, .iadd, 1, 0, 0, 0, 0), (249, .iaload, 1, 0, 0, 0, 0), (250, .aload_n 0, 1, 0, 0, 0, 0), (251, .iload_n 3, 1, 0, 0, 0, 0), (252, .iconst 4, 1, 0, 0, 0, 0), (253, .iadd, 1, 0, 0, 0, 0), (254, .iaload, 1, 0, 0, 0, 0), (255, .invokevirtual 22, 3, 3, 11, 4, 1171), (258, .pop, 1, 0, 0, 0, 0), (259, .goto 1166, 3, 0, 0, 0, 0), (262, .aload_n 1, 1, 0, 0, 0, 0), (263, .aload_n 0, 1, 0, 0, 0, 0), (264, .iload_n 3, 1, 0, 0, 0, 0), (265, .iconst 1, 1, 0, 0, 0, 0), (266, .iadd, 1, 0, 0, 0, 0), (267, .iaload, 1, 0, 0, 0, 0), (268, .aload_n 0, 1, 0, 0, 0, 0), (269, .iload_n 3, 1, 0, 0, 0, 0), (270, .iconst 2, 1, 0, 0, 0, 0), (271, .iadd, 1, 0, 0, 0, 0), (272, .iaload, 1, 0, 0, 0, 0), (273, .invokevirtual 23, 3, 4, 10, 2, 524), (276, .pop, 1, 0, 0, 0, 0), (277, .aload_n 2, 1, 0, 0, 0, 0), (278, .aload_n 0, 1, 0, 0, 0, 0), (279, .iload_n 3, 1, 0, 0, 0, 0), (280, .iconst 1, 1, 0, 0, 0, 0), (281, .iadd, 1, 0, 0, 0, 0), (282, .iaload, 1, 0, 0, 0, 0), (283, .aload_n 0, 1, 0, 0, 0, 0), (284, .iload_n 3, 1, 0, 0, 0, 0), (285, .iconst 2, 1, 0, 0, 0, 0), (286, .iadd, 1, 0, 0, 0, 0), (287, .iaload, 1, 0, 0, 0, 0), (288, .invokevirtual 27, 3, 5, 11, 2, 1210), (291, .pop, 1, 0, 0, 0, 0), (292, .goto 1133, 3, 0, 0, 0, 0), (295, .aload_n 1, 1, 0, 0, 0, 0), (296, .aload_n 0, 1, 0, 0, 0, 0), (297, .iload_n 3, 1, 0, 0, 0, 0), (298, .iconst 1, 1, 0, 0, 0, 0), (299, .iadd, 1, 0, 0, 0, 0), (300, .iaload, 1, 0, 0, 0, 0), (301, .aload_n 0, 1, 0, 0, 0, 0)]
set_option maxRecDepth 100000 in
theorem lw_ops_1 : o_law_1.all (vg_ok "NoiseShaperLaw" code lw_cs (some .boolean) false) = true := by decide +kernel
def o_law_2 : List vg_I := [(302, .iload_n 3, 1, 0, 0, 0, 0), (303, .iconst 2, 1, 0, 0, 0, 0), (304, .iadd, 1, 0, 0, 0, 0), (305, .iaload, 1, 0, 0, 0, 0), (306, .aload_n 0, 1, 0, 0, 0, 0), (307, .iload_n 3, 1, 0, 0, 0, 0), (308, .iconst 3, 1, 0, 0, 0, 0), (309, .iadd, 1, 0, 0, 0, 0), (310, .iaload, 1, 0, 0, 0, 0), (311, .aload_n 0, 1, 0, 0, 0, 0), (312, .iload_n 3, 1, 0, 0, 0, 0), (313, .iconst 4, 1, 0, 0, 0, 0), (314, .iadd, 1, 0, 0, 0, 0), (315, .iaload, 1, 0, 0, 0, 0), (316, .aload_n 0, 1, 0, 0, 0, 0), (317, .iload_n 3, 1, 0, 0, 0, 0), (318, .iconst 5, 1, 0, 0, 0, 0), (319, .iadd, 1, 0, 0, 0, 0), (320, .iaload, 1, 0, 0, 0, 0), (321, .aload_n 0, 1, 0, 0, 0, 0), (322, .iload_n 3, 1, 0, 0, 0, 0), (323, .bipush 6, 2, 0, 0, 0, 0), (325, .iadd, 1, 0, 0, 0, 0), (326, .iaload, 1, 0, 0, 0, 0), (327, .ifCond .eq 7, 3, 0, 0, 0, 0), (330, .iconst 1, 1, 0, 0, 0, 0), (331, .goto 4, 3, 0, 0, 0, 0), (334, .iconst 0, 1, 0, 0, 0, 0), (335, .invokevirtual 28, 3, 6, 10, 6, 528), (338, .pop, 1, 0, 0, 0, 0), (339, .aload_n 2, 1, 0, 0, 0, 0), (340, .aload_n 0, 1, 0, 0, 0, 0), (341, .iload_n 3, 1, 0, 0, 0, 0), (342, .iconst 1, 1, 0, 0, 0, 0), (343, .iadd, 1, 0, 0, 0, 0), (344, .iaload, 1, 0, 0, 0, 0), (345, .aload_n 0, 1, 0, 0, 0, 0), (346, .iload_n 3, 1, 0, 0, 0, 0), (347, .iconst 2, 1, 0, 0, 0, 0), (348, .iadd, 1, 0, 0, 0, 0), (349, .iaload, 1, 0, 0, 0, 0), (350, .aload_n 0, 1, 0, 0, 0, 0), (351, .iload_n 3, 1, 0, 0, 0, 0), (352, .iconst 3, 1, 0, 0, 0, 0), (353, .iadd, 1, 0, 0, 0, 0), (354, .iaload, 1, 0, 0, 0, 0), (355, .aload_n 0, 1, 0, 0, 0, 0), (356, .iload_n 3, 1, 0, 0, 0, 0), (357, .iconst 4, 1, 0, 0, 0, 0), (358, .iadd, 1, 0, 0, 0, 0)]
set_option maxRecDepth 100000 in
theorem lw_ops_2 : o_law_2.all (vg_ok "NoiseShaperLaw" code lw_cs (some .boolean) false) = true := by decide +kernel
def o_law_3 : List vg_I := [(359, .iaload, 1, 0, 0, 0, 0), (360, .aload_n 0, 1, 0, 0, 0, 0), (361, .iload_n 3, 1, 0, 0, 0, 0), (362, .iconst 5, 1, 0, 0, 0, 0), (363, .iadd, 1, 0, 0, 0, 0), (364, .iaload, 1, 0, 0, 0, 0), (365, .aload_n 0, 1, 0, 0, 0, 0), (366, .iload_n 3, 1, 0, 0, 0, 0), (367, .bipush 6, 2, 0, 0, 0, 0), (369, .iadd, 1, 0, 0, 0, 0), (370, .iaload, 1, 0, 0, 0, 0), (371, .ifCond .eq 7, 3, 0, 0, 0, 0), (374, .iconst 1, 1, 0, 0, 0, 0), (375, .goto 4, 3, 0, 0, 0, 0), (378, .iconst 0, 1, 0, 0, 0, 0), (379, .invokevirtual 32, 3, 7, 11, 6, 1214), (382, .pop, 1, 0, 0, 0, 0), (383, .goto 1042, 3, 0, 0, 0, 0), (386, .aload_n 1, 1, 0, 0, 0, 0), (387, .aload_n 0, 1, 0, 0, 0, 0), (388, .iload_n 3, 1, 0, 0, 0, 0), (389, .iconst 1, 1, 0, 0, 0, 0), (390, .iadd, 1, 0, 0, 0, 0), (391, .iaload, 1, 0, 0, 0, 0), (392, .aload_n 0, 1, 0, 0, 0, 0), (393, .iload_n 3, 1, 0, 0, 0, 0), (394, .iconst 2, 1, 0, 0, 0, 0), (395, .iadd, 1, 0, 0, 0, 0), (396, .iaload, 1, 0, 0, 0, 0), (397, .invokevirtual 33, 3, 8, 10, 2, 540), (400, .pop, 1, 0, 0, 0, 0), (401, .aload_n 2, 1, 0, 0, 0, 0), (402, .aload_n 0, 1, 0, 0, 0, 0), (403, .iload_n 3, 1, 0, 0, 0, 0), (404, .iconst 1, 1, 0, 0, 0, 0), (405, .iadd, 1, 0, 0, 0, 0), (406, .iaload, 1, 0, 0, 0, 0), (407, .aload_n 0, 1, 0, 0, 0, 0), (408, .iload_n 3, 1, 0, 0, 0, 0), (409, .iconst 2, 1, 0, 0, 0, 0), (410, .iadd, 1, 0, 0, 0, 0), (411, .iaload, 1, 0, 0, 0, 0), (412, .invokevirtual 36, 3, 9, 11, 2, 1222), (415, .pop, 1, 0, 0, 0, 0), (416, .goto 1009, 3, 0, 0, 0, 0), (419, .aload_n 1, 1, 0, 0, 0, 0), (420, .aload_n 0, 1, 0, 0, 0, 0), (421, .iload_n 3, 1, 0, 0, 0, 0), (422, .iconst 1, 1, 0, 0, 0, 0), (423, .iadd, 1, 0, 0, 0, 0)]
set_option maxRecDepth 100000 in
theorem lw_ops_3 : o_law_3.all (vg_ok "NoiseShaperLaw" code lw_cs (some .boolean) false) = true := by decide +kernel
def o_law_4 : List vg_I := [(424, .iaload, 1, 0, 0, 0, 0), (425, .invokevirtual 37, 3, 10, 10, 1, 544), (428, .pop, 1, 0, 0, 0, 0), (429, .aload_n 2, 1, 0, 0, 0, 0), (430, .aload_n 0, 1, 0, 0, 0, 0), (431, .iload_n 3, 1, 0, 0, 0, 0), (432, .iconst 1, 1, 0, 0, 0, 0), (433, .iadd, 1, 0, 0, 0, 0), (434, .iaload, 1, 0, 0, 0, 0), (435, .invokevirtual 41, 3, 11, 11, 1, 1226), (438, .pop, 1, 0, 0, 0, 0), (439, .goto 986, 3, 0, 0, 0, 0), (442, .aload_n 1, 1, 0, 0, 0, 0), (443, .aload_n 0, 1, 0, 0, 0, 0), (444, .iload_n 3, 1, 0, 0, 0, 0), (445, .iconst 1, 1, 0, 0, 0, 0), (446, .iadd, 1, 0, 0, 0, 0), (447, .iaload, 1, 0, 0, 0, 0), (448, .aload_n 0, 1, 0, 0, 0, 0), (449, .iload_n 3, 1, 0, 0, 0, 0), (450, .iconst 2, 1, 0, 0, 0, 0), (451, .iadd, 1, 0, 0, 0, 0), (452, .iaload, 1, 0, 0, 0, 0), (453, .invokevirtual 42, 3, 12, 10, 2, 548), (456, .pop, 1, 0, 0, 0, 0), (457, .aload_n 2, 1, 0, 0, 0, 0), (458, .aload_n 0, 1, 0, 0, 0, 0), (459, .iload_n 3, 1, 0, 0, 0, 0), (460, .iconst 1, 1, 0, 0, 0, 0), (461, .iadd, 1, 0, 0, 0, 0), (462, .iaload, 1, 0, 0, 0, 0), (463, .aload_n 0, 1, 0, 0, 0, 0), (464, .iload_n 3, 1, 0, 0, 0, 0), (465, .iconst 2, 1, 0, 0, 0, 0), (466, .iadd, 1, 0, 0, 0, 0), (467, .iaload, 1, 0, 0, 0, 0), (468, .invokevirtual 45, 3, 13, 11, 2, 1230), (471, .pop, 1, 0, 0, 0, 0), (472, .goto 953, 3, 0, 0, 0, 0), (475, .aload_n 1, 1, 0, 0, 0, 0), (476, .aload_n 0, 1, 0, 0, 0, 0), (477, .iload_n 3, 1, 0, 0, 0, 0), (478, .iconst 1, 1, 0, 0, 0, 0), (479, .iadd, 1, 0, 0, 0, 0), (480, .iaload, 1, 0, 0, 0, 0), (481, .aload_n 0, 1, 0, 0, 0, 0), (482, .iload_n 3, 1, 0, 0, 0, 0), (483, .iconst 2, 1, 0, 0, 0, 0), (484, .iadd, 1, 0, 0, 0, 0), (485, .iaload, 1, 0, 0, 0, 0)]
set_option maxRecDepth 100000 in
theorem lw_ops_4 : o_law_4.all (vg_ok "NoiseShaperLaw" code lw_cs (some .boolean) false) = true := by decide +kernel
def o_law_5 : List vg_I := [(486, .aload_n 0, 1, 0, 0, 0, 0), (487, .iload_n 3, 1, 0, 0, 0, 0), (488, .iconst 3, 1, 0, 0, 0, 0), (489, .iadd, 1, 0, 0, 0, 0), (490, .iaload, 1, 0, 0, 0, 0), (491, .aload_n 0, 1, 0, 0, 0, 0), (492, .iload_n 3, 1, 0, 0, 0, 0), (493, .iconst 4, 1, 0, 0, 0, 0), (494, .iadd, 1, 0, 0, 0, 0), (495, .iaload, 1, 0, 0, 0, 0), (496, .invokevirtual 46, 3, 14, 10, 4, 552), (499, .pop, 1, 0, 0, 0, 0), (500, .aload_n 2, 1, 0, 0, 0, 0), (501, .aload_n 0, 1, 0, 0, 0, 0), (502, .iload_n 3, 1, 0, 0, 0, 0), (503, .iconst 1, 1, 0, 0, 0, 0), (504, .iadd, 1, 0, 0, 0, 0), (505, .iaload, 1, 0, 0, 0, 0), (506, .aload_n 0, 1, 0, 0, 0, 0), (507, .iload_n 3, 1, 0, 0, 0, 0), (508, .iconst 2, 1, 0, 0, 0, 0), (509, .iadd, 1, 0, 0, 0, 0), (510, .iaload, 1, 0, 0, 0, 0), (511, .aload_n 0, 1, 0, 0, 0, 0), (512, .iload_n 3, 1, 0, 0, 0, 0), (513, .iconst 3, 1, 0, 0, 0, 0), (514, .iadd, 1, 0, 0, 0, 0), (515, .iaload, 1, 0, 0, 0, 0), (516, .aload_n 0, 1, 0, 0, 0, 0), (517, .iload_n 3, 1, 0, 0, 0, 0), (518, .iconst 4, 1, 0, 0, 0, 0), (519, .iadd, 1, 0, 0, 0, 0), (520, .iaload, 1, 0, 0, 0, 0), (521, .invokevirtual 49, 3, 15, 11, 4, 1234), (524, .pop, 1, 0, 0, 0, 0), (525, .goto 900, 3, 0, 0, 0, 0), (528, .aload_n 1, 1, 0, 0, 0, 0), (529, .aload_n 0, 1, 0, 0, 0, 0), (530, .iload_n 3, 1, 0, 0, 0, 0), (531, .iconst 1, 1, 0, 0, 0, 0), (532, .iadd, 1, 0, 0, 0, 0), (533, .iaload, 1, 0, 0, 0, 0), (534, .aload_n 0, 1, 0, 0, 0, 0), (535, .iload_n 3, 1, 0, 0, 0, 0), (536, .iconst 2, 1, 0, 0, 0, 0), (537, .iadd, 1, 0, 0, 0, 0), (538, .iaload, 1, 0, 0, 0, 0), (539, .aload_n 0, 1, 0, 0, 0, 0), (540, .iload_n 3, 1, 0, 0, 0, 0), (541, .iconst 3, 1, 0, 0, 0, 0)]
set_option maxRecDepth 100000 in
theorem lw_ops_5 : o_law_5.all (vg_ok "NoiseShaperLaw" code lw_cs (some .boolean) false) = true := by decide +kernel
def o_law_6 : List vg_I := [(542, .iadd, 1, 0, 0, 0, 0), (543, .iaload, 1, 0, 0, 0, 0), (544, .aload_n 0, 1, 0, 0, 0, 0), (545, .iload_n 3, 1, 0, 0, 0, 0), (546, .iconst 4, 1, 0, 0, 0, 0), (547, .iadd, 1, 0, 0, 0, 0), (548, .iaload, 1, 0, 0, 0, 0), (549, .aload_n 0, 1, 0, 0, 0, 0), (550, .iload_n 3, 1, 0, 0, 0, 0), (551, .iconst 5, 1, 0, 0, 0, 0), (552, .iadd, 1, 0, 0, 0, 0), (553, .iaload, 1, 0, 0, 0, 0), (554, .invokevirtual 50, 3, 16, 10, 5, 572), (557, .pop, 1, 0, 0, 0, 0), (558, .aload_n 2, 1, 0, 0, 0, 0), (559, .aload_n 0, 1, 0, 0, 0, 0), (560, .iload_n 3, 1, 0, 0, 0, 0), (561, .iconst 1, 1, 0, 0, 0, 0), (562, .iadd, 1, 0, 0, 0, 0), (563, .iaload, 1, 0, 0, 0, 0), (564, .aload_n 0, 1, 0, 0, 0, 0), (565, .iload_n 3, 1, 0, 0, 0, 0), (566, .iconst 2, 1, 0, 0, 0, 0), (567, .iadd, 1, 0, 0, 0, 0), (568, .iaload, 1, 0, 0, 0, 0), (569, .aload_n 0, 1, 0, 0, 0, 0), (570, .iload_n 3, 1, 0, 0, 0, 0), (571, .iconst 3, 1, 0, 0, 0, 0), (572, .iadd, 1, 0, 0, 0, 0), (573, .iaload, 1, 0, 0, 0, 0), (574, .aload_n 0, 1, 0, 0, 0, 0), (575, .iload_n 3, 1, 0, 0, 0, 0), (576, .iconst 4, 1, 0, 0, 0, 0), (577, .iadd, 1, 0, 0, 0, 0), (578, .iaload, 1, 0, 0, 0, 0), (579, .aload_n 0, 1, 0, 0, 0, 0), (580, .iload_n 3, 1, 0, 0, 0, 0), (581, .iconst 5, 1, 0, 0, 0, 0), (582, .iadd, 1, 0, 0, 0, 0), (583, .iaload, 1, 0, 0, 0, 0), (584, .invokevirtual 54, 3, 17, 11, 5, 1250), (587, .pop, 1, 0, 0, 0, 0), (588, .goto 837, 3, 0, 0, 0, 0), (591, .aload_n 1, 1, 0, 0, 0, 0), (592, .aload_n 0, 1, 0, 0, 0, 0), (593, .iload_n 3, 1, 0, 0, 0, 0), (594, .iconst 1, 1, 0, 0, 0, 0), (595, .iadd, 1, 0, 0, 0, 0), (596, .iaload, 1, 0, 0, 0, 0), (597, .aload_n 0, 1, 0, 0, 0, 0)]
set_option maxRecDepth 100000 in
theorem lw_ops_6 : o_law_6.all (vg_ok "NoiseShaperLaw" code lw_cs (some .boolean) false) = true := by decide +kernel
def o_law_7 : List vg_I := [(598, .iload_n 3, 1, 0, 0, 0, 0), (599, .iconst 2, 1, 0, 0, 0, 0), (600, .iadd, 1, 0, 0, 0, 0), (601, .iaload, 1, 0, 0, 0, 0), (602, .aload_n 0, 1, 0, 0, 0, 0), (603, .iload_n 3, 1, 0, 0, 0, 0), (604, .iconst 3, 1, 0, 0, 0, 0), (605, .iadd, 1, 0, 0, 0, 0), (606, .iaload, 1, 0, 0, 0, 0), (607, .aload_n 0, 1, 0, 0, 0, 0), (608, .iload_n 3, 1, 0, 0, 0, 0), (609, .iconst 4, 1, 0, 0, 0, 0), (610, .iadd, 1, 0, 0, 0, 0), (611, .iaload, 1, 0, 0, 0, 0), (612, .invokevirtual 55, 3, 18, 10, 4, 597), (615, .pop, 1, 0, 0, 0, 0), (616, .aload_n 2, 1, 0, 0, 0, 0), (617, .aload_n 0, 1, 0, 0, 0, 0), (618, .iload_n 3, 1, 0, 0, 0, 0), (619, .iconst 1, 1, 0, 0, 0, 0), (620, .iadd, 1, 0, 0, 0, 0), (621, .iaload, 1, 0, 0, 0, 0), (622, .aload_n 0, 1, 0, 0, 0, 0), (623, .iload_n 3, 1, 0, 0, 0, 0), (624, .iconst 2, 1, 0, 0, 0, 0), (625, .iadd, 1, 0, 0, 0, 0), (626, .iaload, 1, 0, 0, 0, 0), (627, .aload_n 0, 1, 0, 0, 0, 0), (628, .iload_n 3, 1, 0, 0, 0, 0), (629, .iconst 3, 1, 0, 0, 0, 0), (630, .iadd, 1, 0, 0, 0, 0), (631, .iaload, 1, 0, 0, 0, 0), (632, .aload_n 0, 1, 0, 0, 0, 0), (633, .iload_n 3, 1, 0, 0, 0, 0), (634, .iconst 4, 1, 0, 0, 0, 0), (635, .iadd, 1, 0, 0, 0, 0), (636, .iaload, 1, 0, 0, 0, 0), (637, .invokevirtual 58, 3, 19, 11, 4, 1257), (640, .pop, 1, 0, 0, 0, 0), (641, .goto 784, 3, 0, 0, 0, 0), (644, .aload_n 1, 1, 0, 0, 0, 0), (645, .aload_n 0, 1, 0, 0, 0, 0), (646, .iload_n 3, 1, 0, 0, 0, 0), (647, .iconst 1, 1, 0, 0, 0, 0), (648, .iadd, 1, 0, 0, 0, 0), (649, .iaload, 1, 0, 0, 0, 0), (650, .invokevirtual 59, 3, 20, 10, 1, 605), (653, .pop, 1, 0, 0, 0, 0), (654, .aload_n 2, 1, 0, 0, 0, 0), (655, .aload_n 0, 1, 0, 0, 0, 0)]
set_option maxRecDepth 100000 in
theorem lw_ops_7 : o_law_7.all (vg_ok "NoiseShaperLaw" code lw_cs (some .boolean) false) = true := by decide +kernel
def o_law_8 : List vg_I := [(656, .iload_n 3, 1, 0, 0, 0, 0), (657, .iconst 1, 1, 0, 0, 0, 0), (658, .iadd, 1, 0, 0, 0, 0), (659, .iaload, 1, 0, 0, 0, 0), (660, .invokevirtual 62, 3, 21, 11, 1, 1261), (663, .pop, 1, 0, 0, 0, 0), (664, .goto 761, 3, 0, 0, 0, 0), (667, .aload_n 1, 1, 0, 0, 0, 0), (668, .aload_n 0, 1, 0, 0, 0, 0), (669, .iload_n 3, 1, 0, 0, 0, 0), (670, .iconst 1, 1, 0, 0, 0, 0), (671, .iadd, 1, 0, 0, 0, 0), (672, .iaload, 1, 0, 0, 0, 0), (673, .invokevirtual 63, 3, 22, 10, 1, 612), (676, .aload_n 2, 1, 0, 0, 0, 0), (677, .aload_n 0, 1, 0, 0, 0, 0), (678, .iload_n 3, 1, 0, 0, 0, 0), (679, .iconst 1, 1, 0, 0, 0, 0), (680, .iadd, 1, 0, 0, 0, 0), (681, .iaload, 1, 0, 0, 0, 0), (682, .invokevirtual 66, 3, 23, 11, 1, 1268), (685, .if_icmp .eq 740, 3, 0, 0, 0, 0), (688, .iconst 0, 1, 0, 0, 0, 0), (689, .ireturn, 1, 0, 0, 0, 1), (690, .aload_n 1, 1, 0, 0, 0, 0), (691, .aload_n 0, 1, 0, 0, 0, 0), (692, .iload_n 3, 1, 0, 0, 0, 0), (693, .iconst 1, 1, 0, 0, 0, 0), (694, .iadd, 1, 0, 0, 0, 0), (695, .iaload, 1, 0, 0, 0, 0), (696, .invokevirtual 67, 3, 24, 10, 1, 780), (699, .pop, 1, 0, 0, 0, 0), (700, .aload_n 2, 1, 0, 0, 0, 0), (701, .aload_n 0, 1, 0, 0, 0, 0), (702, .iload_n 3, 1, 0, 0, 0, 0), (703, .iconst 1, 1, 0, 0, 0, 0), (704, .iadd, 1, 0, 0, 0, 0), (705, .iaload, 1, 0, 0, 0, 0), (706, .invokevirtual 70, 3, 25, 11, 1, 1373), (709, .pop, 1, 0, 0, 0, 0), (710, .goto 715, 3, 0, 0, 0, 0), (713, .aload_n 1, 1, 0, 0, 0, 0), (714, .aload_n 0, 1, 0, 0, 0, 0), (715, .iload_n 3, 1, 0, 0, 0, 0), (716, .iconst 1, 1, 0, 0, 0, 0), (717, .iadd, 1, 0, 0, 0, 0), (718, .iaload, 1, 0, 0, 0, 0), (719, .aload_n 0, 1, 0, 0, 0, 0), (720, .iload_n 3, 1, 0, 0, 0, 0), (721, .iconst 2, 1, 0, 0, 0, 0)]
set_option maxRecDepth 100000 in
theorem lw_ops_8 : o_law_8.all (vg_ok "NoiseShaperLaw" code lw_cs (some .boolean) false) = true := by decide +kernel
def o_law_9 : List vg_I := [(722, .iadd, 1, 0, 0, 0, 0), (723, .iaload, 1, 0, 0, 0, 0), (724, .invokevirtual 71, 3, 26, 10, 2, 784), (727, .pop, 1, 0, 0, 0, 0), (728, .aload_n 2, 1, 0, 0, 0, 0), (729, .aload_n 0, 1, 0, 0, 0, 0), (730, .iload_n 3, 1, 0, 0, 0, 0), (731, .iconst 1, 1, 0, 0, 0, 0), (732, .iadd, 1, 0, 0, 0, 0), (733, .iaload, 1, 0, 0, 0, 0), (734, .aload_n 0, 1, 0, 0, 0, 0), (735, .iload_n 3, 1, 0, 0, 0, 0), (736, .iconst 2, 1, 0, 0, 0, 0), (737, .iadd, 1, 0, 0, 0, 0), (738, .iaload, 1, 0, 0, 0, 0), (739, .invokevirtual 74, 3, 27, 11, 2, 1377), (742, .pop, 1, 0, 0, 0, 0), (743, .goto 682, 3, 0, 0, 0, 0), (746, .aload_n 1, 1, 0, 0, 0, 0), (747, .aload_n 0, 1, 0, 0, 0, 0), (748, .iload_n 3, 1, 0, 0, 0, 0), (749, .iconst 1, 1, 0, 0, 0, 0), (750, .iadd, 1, 0, 0, 0, 0), (751, .iaload, 1, 0, 0, 0, 0), (752, .invokevirtual 75, 3, 28, 10, 1, 792), (755, .pop, 1, 0, 0, 0, 0), (756, .aload_n 2, 1, 0, 0, 0, 0), (757, .aload_n 0, 1, 0, 0, 0, 0), (758, .iload_n 3, 1, 0, 0, 0, 0), (759, .iconst 1, 1, 0, 0, 0, 0), (760, .iadd, 1, 0, 0, 0, 0), (761, .iaload, 1, 0, 0, 0, 0), (762, .invokevirtual 78, 3, 29, 11, 1, 1385), (765, .pop, 1, 0, 0, 0, 0), (766, .goto 659, 3, 0, 0, 0, 0), (769, .aload_n 1, 1, 0, 0, 0, 0), (770, .aload_n 0, 1, 0, 0, 0, 0), (771, .iload_n 3, 1, 0, 0, 0, 0), (772, .iconst 1, 1, 0, 0, 0, 0), (773, .iadd, 1, 0, 0, 0, 0), (774, .iaload, 1, 0, 0, 0, 0), (775, .invokevirtual 79, 3, 30, 10, 1, 796), (778, .pop2, 1, 0, 0, 0, 0), (779, .aload_n 2, 1, 0, 0, 0, 0), (780, .aload_n 0, 1, 0, 0, 0, 0), (781, .iload_n 3, 1, 0, 0, 0, 0), (782, .iconst 1, 1, 0, 0, 0, 0), (783, .iadd, 1, 0, 0, 0, 0), (784, .iaload, 1, 0, 0, 0, 0), (785, .invokevirtual 83, 3, 31, 11, 1, 1389)]
set_option maxRecDepth 100000 in
theorem lw_ops_9 : o_law_9.all (vg_ok "NoiseShaperLaw" code lw_cs (some .boolean) false) = true := by decide +kernel
def o_law_10 : List vg_I := [(788, .pop2, 1, 0, 0, 0, 0), (789, .goto 636, 3, 0, 0, 0, 0), (792, .aload_n 1, 1, 0, 0, 0, 0), (793, .aload_n 0, 1, 0, 0, 0, 0), (794, .iload_n 3, 1, 0, 0, 0, 0), (795, .iconst 1, 1, 0, 0, 0, 0), (796, .iadd, 1, 0, 0, 0, 0), (797, .iaload, 1, 0, 0, 0, 0), (798, .aload_n 0, 1, 0, 0, 0, 0), (799, .iload_n 3, 1, 0, 0, 0, 0), (800, .iconst 2, 1, 0, 0, 0, 0), (801, .iadd, 1, 0, 0, 0, 0), (802, .iaload, 1, 0, 0, 0, 0), (803, .invokevirtual 84, 3, 32, 10, 2, 804), (806, .pop2, 1, 0, 0, 0, 0), (807, .aload_n 2, 1, 0, 0, 0, 0), (808, .aload_n 0, 1, 0, 0, 0, 0), (809, .iload_n 3, 1, 0, 0, 0, 0), (810, .iconst 1, 1, 0, 0, 0, 0), (811, .iadd, 1, 0, 0, 0, 0), (812, .iaload, 1, 0, 0, 0, 0), (813, .aload_n 0, 1, 0, 0, 0, 0), (814, .iload_n 3, 1, 0, 0, 0, 0), (815, .iconst 2, 1, 0, 0, 0, 0), (816, .iadd, 1, 0, 0, 0, 0), (817, .iaload, 1, 0, 0, 0, 0), (818, .invokevirtual 88, 3, 33, 11, 2, 1397), (821, .pop2, 1, 0, 0, 0, 0), (822, .goto 603, 3, 0, 0, 0, 0), (825, .aload_n 1, 1, 0, 0, 0, 0), (826, .aload_n 0, 1, 0, 0, 0, 0), (827, .iload_n 3, 1, 0, 0, 0, 0), (828, .iconst 1, 1, 0, 0, 0, 0), (829, .iadd, 1, 0, 0, 0, 0), (830, .iaload, 1, 0, 0, 0, 0), (831, .aload_n 0, 1, 0, 0, 0, 0), (832, .iload_n 3, 1, 0, 0, 0, 0), (833, .iconst 2, 1, 0, 0, 0, 0), (834, .iadd, 1, 0, 0, 0, 0), (835, .iaload, 1, 0, 0, 0, 0), (836, .invokevirtual 89, 3, 34, 10, 2, 821), (839, .pop2, 1, 0, 0, 0, 0), (840, .aload_n 2, 1, 0, 0, 0, 0), (841, .aload_n 0, 1, 0, 0, 0, 0), (842, .iload_n 3, 1, 0, 0, 0, 0), (843, .iconst 1, 1, 0, 0, 0, 0), (844, .iadd, 1, 0, 0, 0, 0), (845, .iaload, 1, 0, 0, 0, 0), (846, .aload_n 0, 1, 0, 0, 0, 0), (847, .iload_n 3, 1, 0, 0, 0, 0)]
set_option maxRecDepth 100000 in
theorem lw_ops_10 : o_law_10.all (vg_ok "NoiseShaperLaw" code lw_cs (some .boolean) false) = true := by decide +kernel
def o_law_11 : List vg_I := [(848, .iconst 2, 1, 0, 0, 0, 0), (849, .iadd, 1, 0, 0, 0, 0), (850, .iaload, 1, 0, 0, 0, 0), (851, .invokevirtual 92, 3, 35, 11, 2, 1401), (854, .pop2, 1, 0, 0, 0, 0), (855, .goto 570, 3, 0, 0, 0, 0), (858, .aload_n 1, 1, 0, 0, 0, 0), (859, .aload_n 0, 1, 0, 0, 0, 0), (860, .iload_n 3, 1, 0, 0, 0, 0), (861, .iconst 1, 1, 0, 0, 0, 0), (862, .iadd, 1, 0, 0, 0, 0), (863, .iaload, 1, 0, 0, 0, 0), (864, .aload_n 0, 1, 0, 0, 0, 0), (865, .iload_n 3, 1, 0, 0, 0, 0), (866, .iconst 2, 1, 0, 0, 0, 0), (867, .iadd, 1, 0, 0, 0, 0), (868, .iaload, 1, 0, 0, 0, 0), (869, .invokevirtual 93, 3, 36, 10, 2, 839), (872, .pop, 1, 0, 0, 0, 0), (873, .aload_n 2, 1, 0, 0, 0, 0), (874, .aload_n 0, 1, 0, 0, 0, 0), (875, .iload_n 3, 1, 0, 0, 0, 0), (876, .iconst 1, 1, 0, 0, 0, 0), (877, .iadd, 1, 0, 0, 0, 0), (878, .iaload, 1, 0, 0, 0, 0), (879, .aload_n 0, 1, 0, 0, 0, 0), (880, .iload_n 3, 1, 0, 0, 0, 0), (881, .iconst 2, 1, 0, 0, 0, 0), (882, .iadd, 1, 0, 0, 0, 0), (883, .iaload, 1, 0, 0, 0, 0), (884, .invokevirtual 96, 3, 37, 11, 2, 1405), (887, .pop, 1, 0, 0, 0, 0), (888, .goto 537, 3, 0, 0, 0, 0), (891, .aload_n 1, 1, 0, 0, 0, 0), (892, .aload_n 0, 1, 0, 0, 0, 0), (893, .iload_n 3, 1, 0, 0, 0, 0), (894, .iconst 1, 1, 0, 0, 0, 0), (895, .iadd, 1, 0, 0, 0, 0), (896, .iaload, 1, 0, 0, 0, 0), (897, .aload_n 0, 1, 0, 0, 0, 0), (898, .iload_n 3, 1, 0, 0, 0, 0), (899, .iconst 2, 1, 0, 0, 0, 0), (900, .iadd, 1, 0, 0, 0, 0), (901, .iaload, 1, 0, 0, 0, 0), (902, .invokevirtual 97, 3, 38, 10, 2, 848), (905, .pop, 1, 0, 0, 0, 0), (906, .aload_n 2, 1, 0, 0, 0, 0), (907, .aload_n 0, 1, 0, 0, 0, 0), (908, .iload_n 3, 1, 0, 0, 0, 0), (909, .iconst 1, 1, 0, 0, 0, 0)]
set_option maxRecDepth 100000 in
theorem lw_ops_11 : o_law_11.all (vg_ok "NoiseShaperLaw" code lw_cs (some .boolean) false) = true := by decide +kernel
def o_law_12 : List vg_I := [(910, .iadd, 1, 0, 0, 0, 0), (911, .iaload, 1, 0, 0, 0, 0), (912, .aload_n 0, 1, 0, 0, 0, 0), (913, .iload_n 3, 1, 0, 0, 0, 0), (914, .iconst 2, 1, 0, 0, 0, 0), (915, .iadd, 1, 0, 0, 0, 0), (916, .iaload, 1, 0, 0, 0, 0), (917, .invokevirtual 100, 3, 39, 11, 2, 1409), (920, .pop, 1, 0, 0, 0, 0), (921, .goto 504, 3, 0, 0, 0, 0), (924, .aload_n 1, 1, 0, 0, 0, 0), (925, .invokevirtual 101, 3, 40, 10, 0, 853), (928, .pop, 1, 0, 0, 0, 0), (929, .aload_n 2, 1, 0, 0, 0, 0), (930, .invokevirtual 104, 3, 41, 11, 0, 1413), (933, .pop, 1, 0, 0, 0, 0), (934, .goto 491, 3, 0, 0, 0, 0), (937, .aload_n 1, 1, 0, 0, 0, 0), (938, .aload_n 0, 1, 0, 0, 0, 0), (939, .iload_n 3, 1, 0, 0, 0, 0), (940, .iconst 1, 1, 0, 0, 0, 0), (941, .iadd, 1, 0, 0, 0, 0), (942, .iaload, 1, 0, 0, 0, 0), (943, .invokevirtual 105, 3, 42, 10, 1, 863), (946, .pop, 1, 0, 0, 0, 0), (947, .aload_n 2, 1, 0, 0, 0, 0), (948, .aload_n 0, 1, 0, 0, 0, 0), (949, .iload_n 3, 1, 0, 0, 0, 0), (950, .iconst 1, 1, 0, 0, 0, 0), (951, .iadd, 1, 0, 0, 0, 0), (952, .iaload, 1, 0, 0, 0, 0), (953, .invokevirtual 108, 3, 43, 11, 1, 1421), (956, .pop, 1, 0, 0, 0, 0), (957, .goto 468, 3, 0, 0, 0, 0), (960, .aload_n 1, 1, 0, 0, 0, 0), (961, .aload_n 0, 1, 0, 0, 0, 0), (962, .iload_n 3, 1, 0, 0, 0, 0), (963, .iconst 1, 1, 0, 0, 0, 0), (964, .iadd, 1, 0, 0, 0, 0), (965, .iaload, 1, 0, 0, 0, 0), (966, .invokevirtual 109, 3, 44, 10, 1, 868), (969, .pop2, 1, 0, 0, 0, 0), (970, .aload_n 2, 1, 0, 0, 0, 0), (971, .aload_n 0, 1, 0, 0, 0, 0), (972, .iload_n 3, 1, 0, 0, 0, 0), (973, .iconst 1, 1, 0, 0, 0, 0), (974, .iadd, 1, 0, 0, 0, 0), (975, .iaload, 1, 0, 0, 0, 0), (976, .invokevirtual 112, 3, 45, 11, 1, 1425), (979, .pop2, 1, 0, 0, 0, 0)]
set_option maxRecDepth 100000 in
theorem lw_ops_12 : o_law_12.all (vg_ok "NoiseShaperLaw" code lw_cs (some .boolean) false) = true := by decide +kernel
def o_law_13 : List vg_I := [(980, .goto 445, 3, 0, 0, 0, 0), (983, .aload_n 1, 1, 0, 0, 0, 0), (984, .aload_n 0, 1, 0, 0, 0, 0), (985, .iload_n 3, 1, 0, 0, 0, 0), (986, .iconst 1, 1, 0, 0, 0, 0), (987, .iadd, 1, 0, 0, 0, 0), (988, .iaload, 1, 0, 0, 0, 0), (989, .aload_n 0, 1, 0, 0, 0, 0), (990, .iload_n 3, 1, 0, 0, 0, 0), (991, .iconst 2, 1, 0, 0, 0, 0), (992, .iadd, 1, 0, 0, 0, 0), (993, .iaload, 1, 0, 0, 0, 0), (994, .invokevirtual 113, 3, 46, 10, 2, 872), (997, .pop, 1, 0, 0, 0, 0), (998, .aload_n 2, 1, 0, 0, 0, 0), (999, .aload_n 0, 1, 0, 0, 0, 0), (1000, .iload_n 3, 1, 0, 0, 0, 0), (1001, .iconst 1, 1, 0, 0, 0, 0), (1002, .iadd, 1, 0, 0, 0, 0), (1003, .iaload, 1, 0, 0, 0, 0), (1004, .aload_n 0, 1, 0, 0, 0, 0), (1005, .iload_n 3, 1, 0, 0, 0, 0), (1006, .iconst 2, 1, 0, 0, 0, 0), (1007, .iadd, 1, 0, 0, 0, 0), (1008, .iaload, 1, 0, 0, 0, 0), (1009, .invokevirtual 116, 3, 47, 11, 2, 1429), (1012, .pop, 1, 0, 0, 0, 0), (1013, .goto 412, 3, 0, 0, 0, 0), (1016, .aload_n 1, 1, 0, 0, 0, 0), (1017, .aload_n 0, 1, 0, 0, 0, 0), (1018, .iload_n 3, 1, 0, 0, 0, 0), (1019, .iconst 1, 1, 0, 0, 0, 0), (1020, .iadd, 1, 0, 0, 0, 0), (1021, .iaload, 1, 0, 0, 0, 0), (1022, .invokevirtual 117, 3, 48, 10, 1, 888), (1025, .pop, 1, 0, 0, 0, 0), (1026, .aload_n 2, 1, 0, 0, 0, 0), (1027, .aload_n 0, 1, 0, 0, 0, 0), (1028, .iload_n 3, 1, 0, 0, 0, 0), (1029, .iconst 1, 1, 0, 0, 0, 0), (1030, .iadd, 1, 0, 0, 0, 0), (1031, .iaload, 1, 0, 0, 0, 0), (1032, .invokevirtual 120, 3, 49, 11, 1, 1437), (1035, .pop, 1, 0, 0, 0, 0), (1036, .goto 389, 3, 0, 0, 0, 0), (1039, .aload_n 1, 1, 0, 0, 0, 0), (1040, .aload_n 0, 1, 0, 0, 0, 0), (1041, .iload_n 3, 1, 0, 0, 0, 0), (1042, .iconst 1, 1, 0, 0, 0, 0), (1043, .iadd, 1, 0, 0, 0, 0)]
set_option maxRecDepth 100000 in
theorem lw_ops_13 : o_law_13.all (vg_ok "NoiseShaperLaw" code lw_cs (some .boolean) false) = true := by decide +kernel
def o_law_14 : List vg_I := [(1044, .iaload, 1, 0, 0, 0, 0), (1045, .invokevirtual 121, 3, 50, 10, 1, 893), (1048, .pop, 1, 0, 0, 0, 0), (1049, .aload_n 2, 1, 0, 0, 0, 0), (1050, .aload_n 0, 1, 0, 0, 0, 0), (1051, .iload_n 3, 1, 0, 0, 0, 0), (1052, .iconst 1, 1, 0, 0, 0, 0), (1053, .iadd, 1, 0, 0, 0, 0), (1054, .iaload, 1, 0, 0, 0, 0), (1055, .invokevirtual 124, 3, 51, 11, 1, 1442), (1058, .pop, 1, 0, 0, 0, 0), (1059, .goto 366, 3, 0, 0, 0, 0), (1062, .aload_n 1, 1, 0, 0, 0, 0), (1063, .aload_n 0, 1, 0, 0, 0, 0), (1064, .iload_n 3, 1, 0, 0, 0, 0), (1065, .iconst 1, 1, 0, 0, 0, 0), (1066, .iadd, 1, 0, 0, 0, 0), (1067, .iaload, 1, 0, 0, 0, 0), (1068, .aload_n 0, 1, 0, 0, 0, 0), (1069, .iload_n 3, 1, 0, 0, 0, 0), (1070, .iconst 2, 1, 0, 0, 0, 0), (1071, .iadd, 1, 0, 0, 0, 0), (1072, .iaload, 1, 0, 0, 0, 0), (1073, .invokevirtual 125, 3, 52, 10, 2, 910), (1076, .pop, 1, 0, 0, 0, 0), (1077, .aload_n 2, 1, 0, 0, 0, 0), (1078, .aload_n 0, 1, 0, 0, 0, 0), (1079, .iload_n 3, 1, 0, 0, 0, 0), (1080, .iconst 1, 1, 0, 0, 0, 0), (1081, .iadd, 1, 0, 0, 0, 0), (1082, .iaload, 1, 0, 0, 0, 0), (1083, .aload_n 0, 1, 0, 0, 0, 0), (1084, .iload_n 3, 1, 0, 0, 0, 0), (1085, .iconst 2, 1, 0, 0, 0, 0), (1086, .iadd, 1, 0, 0, 0, 0), (1087, .iaload, 1, 0, 0, 0, 0), (1088, .invokevirtual 128, 3, 53, 11, 2, 1446), (1091, .pop, 1, 0, 0, 0, 0), (1092, .goto 333, 3, 0, 0, 0, 0), (1095, .aload_n 1, 1, 0, 0, 0, 0), (1096, .aload_n 0, 1, 0, 0, 0, 0), (1097, .iload_n 3, 1, 0, 0, 0, 0), (1098, .iconst 1, 1, 0, 0, 0, 0), (1099, .iadd, 1, 0, 0, 0, 0), (1100, .iaload, 1, 0, 0, 0, 0), (1101, .aload_n 0, 1, 0, 0, 0, 0), (1102, .iload_n 3, 1, 0, 0, 0, 0), (1103, .iconst 2, 1, 0, 0, 0, 0), (1104, .iadd, 1, 0, 0, 0, 0), (1105, .iaload, 1, 0, 0, 0, 0)]
set_option maxRecDepth 100000 in
theorem lw_ops_14 : o_law_14.all (vg_ok "NoiseShaperLaw" code lw_cs (some .boolean) false) = true := by decide +kernel
def o_law_15 : List vg_I := [(1106, .invokevirtual 129, 3, 54, 10, 2, 919), (1109, .pop2, 1, 0, 0, 0, 0), (1110, .aload_n 2, 1, 0, 0, 0, 0), (1111, .aload_n 0, 1, 0, 0, 0, 0), (1112, .iload_n 3, 1, 0, 0, 0, 0), (1113, .iconst 1, 1, 0, 0, 0, 0), (1114, .iadd, 1, 0, 0, 0, 0), (1115, .iaload, 1, 0, 0, 0, 0), (1116, .aload_n 0, 1, 0, 0, 0, 0), (1117, .iload_n 3, 1, 0, 0, 0, 0), (1118, .iconst 2, 1, 0, 0, 0, 0), (1119, .iadd, 1, 0, 0, 0, 0), (1120, .iaload, 1, 0, 0, 0, 0), (1121, .invokevirtual 132, 3, 55, 11, 2, 1450), (1124, .pop2, 1, 0, 0, 0, 0), (1125, .goto 300, 3, 0, 0, 0, 0), (1128, .aload_n 1, 1, 0, 0, 0, 0), (1129, .aload_n 0, 1, 0, 0, 0, 0), (1130, .iload_n 3, 1, 0, 0, 0, 0), (1131, .iconst 1, 1, 0, 0, 0, 0), (1132, .iadd, 1, 0, 0, 0, 0), (1133, .iaload, 1, 0, 0, 0, 0), (1134, .invokevirtual 133, 3, 56, 10, 1, 928), (1137, .pop, 1, 0, 0, 0, 0), (1138, .aload_n 2, 1, 0, 0, 0, 0), (1139, .aload_n 0, 1, 0, 0, 0, 0), (1140, .iload_n 3, 1, 0, 0, 0, 0), (1141, .iconst 1, 1, 0, 0, 0, 0), (1142, .iadd, 1, 0, 0, 0, 0), (1143, .iaload, 1, 0, 0, 0, 0), (1144, .invokevirtual 136, 3, 57, 11, 1, 1458), (1147, .pop, 1, 0, 0, 0, 0), (1148, .goto 277, 3, 0, 0, 0, 0), (1151, .aload_n 1, 1, 0, 0, 0, 0), (1152, .aload_n 0, 1, 0, 0, 0, 0), (1153, .iload_n 3, 1, 0, 0, 0, 0), (1154, .iconst 1, 1, 0, 0, 0, 0), (1155, .iadd, 1, 0, 0, 0, 0), (1156, .iaload, 1, 0, 0, 0, 0), (1157, .aload_n 0, 1, 0, 0, 0, 0), (1158, .iload_n 3, 1, 0, 0, 0, 0), (1159, .iconst 2, 1, 0, 0, 0, 0), (1160, .iadd, 1, 0, 0, 0, 0), (1161, .iaload, 1, 0, 0, 0, 0), (1162, .invokevirtual 137, 3, 58, 10, 2, 937), (1165, .pop, 1, 0, 0, 0, 0), (1166, .aload_n 2, 1, 0, 0, 0, 0), (1167, .aload_n 0, 1, 0, 0, 0, 0), (1168, .iload_n 3, 1, 0, 0, 0, 0), (1169, .iconst 1, 1, 0, 0, 0, 0)]
set_option maxRecDepth 100000 in
theorem lw_ops_15 : o_law_15.all (vg_ok "NoiseShaperLaw" code lw_cs (some .boolean) false) = true := by decide +kernel
def o_law_16 : List vg_I := [(1170, .iadd, 1, 0, 0, 0, 0), (1171, .iaload, 1, 0, 0, 0, 0), (1172, .aload_n 0, 1, 0, 0, 0, 0), (1173, .iload_n 3, 1, 0, 0, 0, 0), (1174, .iconst 2, 1, 0, 0, 0, 0), (1175, .iadd, 1, 0, 0, 0, 0), (1176, .iaload, 1, 0, 0, 0, 0), (1177, .invokevirtual 140, 3, 59, 11, 2, 1462), (1180, .pop, 1, 0, 0, 0, 0), (1181, .goto 244, 3, 0, 0, 0, 0), (1184, .aload_n 1, 1, 0, 0, 0, 0), (1185, .aload_n 0, 1, 0, 0, 0, 0), (1186, .iload_n 3, 1, 0, 0, 0, 0), (1187, .iconst 1, 1, 0, 0, 0, 0), (1188, .iadd, 1, 0, 0, 0, 0), (1189, .iaload, 1, 0, 0, 0, 0), (1190, .aload_n 0, 1, 0, 0, 0, 0), (1191, .iload_n 3, 1, 0, 0, 0, 0), (1192, .iconst 2, 1, 0, 0, 0, 0), (1193, .iadd, 1, 0, 0, 0, 0), (1194, .iaload, 1, 0, 0, 0, 0), (1195, .invokevirtual 141, 3, 60, 10, 2, 1009), (1198, .pop, 1, 0, 0, 0, 0), (1199, .aload_n 2, 1, 0, 0, 0, 0), (1200, .aload_n 0, 1, 0, 0, 0, 0), (1201, .iload_n 3, 1, 0, 0, 0, 0), (1202, .iconst 1, 1, 0, 0, 0, 0), (1203, .iadd, 1, 0, 0, 0, 0), (1204, .iaload, 1, 0, 0, 0, 0), (1205, .aload_n 0, 1, 0, 0, 0, 0), (1206, .iload_n 3, 1, 0, 0, 0, 0), (1207, .iconst 2, 1, 0, 0, 0, 0), (1208, .iadd, 1, 0, 0, 0, 0), (1209, .iaload, 1, 0, 0, 0, 0), (1210, .invokevirtual 144, 3, 61, 11, 2, 1493), (1213, .pop, 1, 0, 0, 0, 0), (1214, .goto 211, 3, 0, 0, 0, 0), (1217, .aload_n 1, 1, 0, 0, 0, 0), (1218, .aload_n 0, 1, 0, 0, 0, 0), (1219, .iload_n 3, 1, 0, 0, 0, 0), (1220, .iconst 1, 1, 0, 0, 0, 0), (1221, .iadd, 1, 0, 0, 0, 0), (1222, .iaload, 1, 0, 0, 0, 0), (1223, .invokevirtual 145, 3, 62, 10, 1, 1014), (1226, .pop, 1, 0, 0, 0, 0), (1227, .aload_n 2, 1, 0, 0, 0, 0), (1228, .aload_n 0, 1, 0, 0, 0, 0), (1229, .iload_n 3, 1, 0, 0, 0, 0), (1230, .iconst 1, 1, 0, 0, 0, 0), (1231, .iadd, 1, 0, 0, 0, 0)]
set_option maxRecDepth 100000 in
theorem lw_ops_16 : o_law_16.all (vg_ok "NoiseShaperLaw" code lw_cs (some .boolean) false) = true := by decide +kernel
def o_law_17 : List vg_I := [(1232, .iaload, 1, 0, 0, 0, 0), (1233, .invokevirtual 148, 3, 63, 11, 1, 1497), (1236, .pop, 1, 0, 0, 0, 0), (1237, .goto 188, 3, 0, 0, 0, 0), (1240, .aload_n 1, 1, 0, 0, 0, 0), (1241, .aload_n 0, 1, 0, 0, 0, 0), (1242, .iload_n 3, 1, 0, 0, 0, 0), (1243, .iconst 1, 1, 0, 0, 0, 0), (1244, .iadd, 1, 0, 0, 0, 0), (1245, .iaload, 1, 0, 0, 0, 0), (1246, .aload_n 0, 1, 0, 0, 0, 0), (1247, .iload_n 3, 1, 0, 0, 0, 0), (1248, .iconst 2, 1, 0, 0, 0, 0), (1249, .iadd, 1, 0, 0, 0, 0), (1250, .iaload, 1, 0, 0, 0, 0), (1251, .aload_n 0, 1, 0, 0, 0, 0), (1252, .iload_n 3, 1, 0, 0, 0, 0), (1253, .iconst 3, 1, 0, 0, 0, 0), (1254, .iadd, 1, 0, 0, 0, 0), (1255, .iaload, 1, 0, 0, 0, 0), (1256, .aload_n 0, 1, 0, 0, 0, 0), (1257, .iload_n 3, 1, 0, 0, 0, 0), (1258, .iconst 4, 1, 0, 0, 0, 0), (1259, .iadd, 1, 0, 0, 0, 0), (1260, .iaload, 1, 0, 0, 0, 0), (1261, .invokevirtual 149, 3, 64, 10, 4, 1018), (1264, .pop, 1, 0, 0, 0, 0), (1265, .aload_n 2, 1, 0, 0, 0, 0), (1266, .aload_n 0, 1, 0, 0, 0, 0), (1267, .iload_n 3, 1, 0, 0, 0, 0), (1268, .iconst 1, 1, 0, 0, 0, 0), (1269, .iadd, 1, 0, 0, 0, 0), (1270, .iaload, 1, 0, 0, 0, 0), (1271, .aload_n 0, 1, 0, 0, 0, 0), (1272, .iload_n 3, 1, 0, 0, 0, 0), (1273, .iconst 2, 1, 0, 0, 0, 0), (1274, .iadd, 1, 0, 0, 0, 0), (1275, .iaload, 1, 0, 0, 0, 0), (1276, .aload_n 0, 1, 0, 0, 0, 0), (1277, .iload_n 3, 1, 0, 0, 0, 0), (1278, .iconst 3, 1, 0, 0, 0, 0), (1279, .iadd, 1, 0, 0, 0, 0), (1280, .iaload, 1, 0, 0, 0, 0), (1281, .aload_n 0, 1, 0, 0, 0, 0), (1282, .iload_n 3, 1, 0, 0, 0, 0), (1283, .iconst 4, 1, 0, 0, 0, 0), (1284, .iadd, 1, 0, 0, 0, 0), (1285, .iaload, 1, 0, 0, 0, 0), (1286, .invokevirtual 152, 3, 65, 11, 4, 1501), (1289, .pop, 1, 0, 0, 0, 0)]
set_option maxRecDepth 100000 in
theorem lw_ops_17 : o_law_17.all (vg_ok "NoiseShaperLaw" code lw_cs (some .boolean) false) = true := by decide +kernel
def o_law_18 : List vg_I := [(1290, .goto 135, 3, 0, 0, 0, 0), (1293, .aload_n 1, 1, 0, 0, 0, 0), (1294, .aload_n 0, 1, 0, 0, 0, 0), (1295, .iload_n 3, 1, 0, 0, 0, 0), (1296, .iconst 1, 1, 0, 0, 0, 0), (1297, .iadd, 1, 0, 0, 0, 0), (1298, .iaload, 1, 0, 0, 0, 0), (1299, .invokevirtual 153, 3, 66, 10, 1, 1022), (1302, .pop, 1, 0, 0, 0, 0), (1303, .aload_n 2, 1, 0, 0, 0, 0), (1304, .aload_n 0, 1, 0, 0, 0, 0), (1305, .iload_n 3, 1, 0, 0, 0, 0), (1306, .iconst 1, 1, 0, 0, 0, 0), (1307, .iadd, 1, 0, 0, 0, 0), (1308, .iaload, 1, 0, 0, 0, 0), (1309, .invokevirtual 156, 3, 67, 11, 1, 1505), (1312, .pop, 1, 0, 0, 0, 0), (1313, .goto 112, 3, 0, 0, 0, 0), (1316, .aload_n 1, 1, 0, 0, 0, 0), (1317, .aload_n 0, 1, 0, 0, 0, 0), (1318, .iload_n 3, 1, 0, 0, 0, 0), (1319, .iconst 1, 1, 0, 0, 0, 0), (1320, .iadd, 1, 0, 0, 0, 0), (1321, .iaload, 1, 0, 0, 0, 0), (1322, .aload_n 0, 1, 0, 0, 0, 0), (1323, .iload_n 3, 1, 0, 0, 0, 0), (1324, .iconst 2, 1, 0, 0, 0, 0), (1325, .iadd, 1, 0, 0, 0, 0), (1326, .iaload, 1, 0, 0, 0, 0), (1327, .aload_n 0, 1, 0, 0, 0, 0), (1328, .iload_n 3, 1, 0, 0, 0, 0), (1329, .iconst 3, 1, 0, 0, 0, 0), (1330, .iadd, 1, 0, 0, 0, 0), (1331, .iaload, 1, 0, 0, 0, 0), (1332, .invokevirtual 157, 3, 68, 10, 3, 1027), (1335, .pop2, 1, 0, 0, 0, 0), (1336, .aload_n 2, 1, 0, 0, 0, 0), (1337, .aload_n 0, 1, 0, 0, 0, 0), (1338, .iload_n 3, 1, 0, 0, 0, 0), (1339, .iconst 1, 1, 0, 0, 0, 0), (1340, .iadd, 1, 0, 0, 0, 0), (1341, .iaload, 1, 0, 0, 0, 0), (1342, .aload_n 0, 1, 0, 0, 0, 0), (1343, .iload_n 3, 1, 0, 0, 0, 0), (1344, .iconst 2, 1, 0, 0, 0, 0), (1345, .iadd, 1, 0, 0, 0, 0), (1346, .iaload, 1, 0, 0, 0, 0), (1347, .aload_n 0, 1, 0, 0, 0, 0), (1348, .iload_n 3, 1, 0, 0, 0, 0), (1349, .iconst 3, 1, 0, 0, 0, 0)]
set_option maxRecDepth 100000 in
theorem lw_ops_18 : o_law_18.all (vg_ok "NoiseShaperLaw" code lw_cs (some .boolean) false) = true := by decide +kernel
def o_law_19 : List vg_I := [(1350, .iadd, 1, 0, 0, 0, 0), (1351, .iaload, 1, 0, 0, 0, 0), (1352, .invokevirtual 161, 3, 69, 11, 3, 1509), (1355, .pop2, 1, 0, 0, 0, 0), (1356, .goto 69, 3, 0, 0, 0, 0), (1359, .aload_n 1, 1, 0, 0, 0, 0), (1360, .aload_n 0, 1, 0, 0, 0, 0), (1361, .iload_n 3, 1, 0, 0, 0, 0), (1362, .iconst 1, 1, 0, 0, 0, 0), (1363, .iadd, 1, 0, 0, 0, 0), (1364, .iaload, 1, 0, 0, 0, 0), (1365, .aload_n 0, 1, 0, 0, 0, 0), (1366, .iload_n 3, 1, 0, 0, 0, 0), (1367, .iconst 2, 1, 0, 0, 0, 0), (1368, .iadd, 1, 0, 0, 0, 0), (1369, .iaload, 1, 0, 0, 0, 0), (1370, .invokevirtual 162, 3, 70, 10, 2, 1041), (1373, .pop, 1, 0, 0, 0, 0), (1374, .aload_n 2, 1, 0, 0, 0, 0), (1375, .aload_n 0, 1, 0, 0, 0, 0), (1376, .iload_n 3, 1, 0, 0, 0, 0), (1377, .iconst 1, 1, 0, 0, 0, 0), (1378, .iadd, 1, 0, 0, 0, 0), (1379, .iaload, 1, 0, 0, 0, 0), (1380, .aload_n 0, 1, 0, 0, 0, 0), (1381, .iload_n 3, 1, 0, 0, 0, 0), (1382, .iconst 2, 1, 0, 0, 0, 0), (1383, .iadd, 1, 0, 0, 0, 0), (1384, .iaload, 1, 0, 0, 0, 0), (1385, .invokevirtual 165, 3, 71, 11, 2, 1513), (1388, .pop, 1, 0, 0, 0, 0), (1389, .goto 36, 3, 0, 0, 0, 0), (1392, .aload_n 1, 1, 0, 0, 0, 0), (1393, .aload_n 0, 1, 0, 0, 0, 0), (1394, .iload_n 3, 1, 0, 0, 0, 0), (1395, .iconst 1, 1, 0, 0, 0, 0), (1396, .iadd, 1, 0, 0, 0, 0), (1397, .iaload, 1, 0, 0, 0, 0), (1398, .aload_n 0, 1, 0, 0, 0, 0), (1399, .iload_n 3, 1, 0, 0, 0, 0), (1400, .iconst 2, 1, 0, 0, 0, 0), (1401, .iadd, 1, 0, 0, 0, 0), (1402, .iaload, 1, 0, 0, 0, 0), (1403, .invokevirtual 166, 3, 72, 10, 2, 1049), (1406, .pop, 1, 0, 0, 0, 0), (1407, .aload_n 2, 1, 0, 0, 0, 0), (1408, .aload_n 0, 1, 0, 0, 0, 0), (1409, .iload_n 3, 1, 0, 0, 0, 0), (1410, .iconst 1, 1, 0, 0, 0, 0), (1411, .iadd, 1, 0, 0, 0, 0)]
set_option maxRecDepth 100000 in
theorem lw_ops_19 : o_law_19.all (vg_ok "NoiseShaperLaw" code lw_cs (some .boolean) false) = true := by decide +kernel
def o_law_20 : List vg_I := [(1412, .iaload, 1, 0, 0, 0, 0), (1413, .aload_n 0, 1, 0, 0, 0, 0), (1414, .iload_n 3, 1, 0, 0, 0, 0), (1415, .iconst 2, 1, 0, 0, 0, 0), (1416, .iadd, 1, 0, 0, 0, 0), (1417, .iaload, 1, 0, 0, 0, 0), (1418, .invokevirtual 169, 3, 73, 11, 2, 1521), (1421, .pop, 1, 0, 0, 0, 0), (1422, .goto 3, 3, 0, 0, 0, 0), (1425, .iinc 3 7, 3, 0, 0, 0, 0), (1428, .goto (-1410), 3, 0, 0, 0, 0), (1431, .iconst 1, 1, 0, 0, 0, 0), (1432, .ireturn, 1, 0, 0, 0, 1)]
set_option maxRecDepth 100000 in
theorem lw_ops_20 : o_law_20.all (vg_ok "NoiseShaperLaw" code lw_cs (some .boolean) false) = true := by decide +kernel
set_option maxRecDepth 100000 in
theorem lw_ops_cat : o_law = o_law_0 ++ (o_law_1 ++ (o_law_2 ++ (o_law_3 ++ (o_law_4 ++ (o_law_5 ++ (o_law_6 ++ (o_law_7 ++ (o_law_8 ++ (o_law_9 ++ (o_law_10 ++ (o_law_11 ++ (o_law_12 ++ (o_law_13 ++ (o_law_14 ++ (o_law_15 ++ (o_law_16 ++ (o_law_17 ++ (o_law_18 ++ (o_law_19 ++ (o_law_20)))))))))))))))))))) := rfl
theorem lw_ops_ok : o_law.all (vg_ok "NoiseShaperLaw" code lw_cs (some .boolean) false) = true := by
  rw [lw_ops_cat]
  simp only [List.all_append, Bool.and_eq_true]
  exact ⟨lw_ops_0, ⟨lw_ops_1, ⟨lw_ops_2, ⟨lw_ops_3, ⟨lw_ops_4, ⟨lw_ops_5, ⟨lw_ops_6, ⟨lw_ops_7, ⟨lw_ops_8, ⟨lw_ops_9, ⟨lw_ops_10, ⟨lw_ops_11, ⟨lw_ops_12, ⟨lw_ops_13, ⟨lw_ops_14, ⟨lw_ops_15, ⟨lw_ops_16, ⟨lw_ops_17, ⟨lw_ops_18, ⟨lw_ops_19, lw_ops_20⟩⟩⟩⟩⟩⟩⟩⟩⟩⟩⟩⟩⟩⟩⟩⟩⟩⟩⟩⟩
set_option maxRecDepth 100000 in
theorem lw_ops_ch : vg_chain o_law = true := by decide +kernel
set_option maxRecDepth 100000 in
theorem lw_hd_ok : i_law.all (vc_ok "NoiseShaperLaw" code [k_X10_init, k_X11_init] false) = true := by decide +kernel
theorem lw_hd_ch : vg_chain i_law = true := by decide +kernel
set_option maxRecDepth 100000 in
theorem whole_start {p : Program} {e : Env} {s : State} {m : MethodId} {below : List Frame} {meth : Method} {c : Code} (l : Launch) (hflags : l.flags = flags0) {b L : Nat} {xs : Nat → Int32} (hL : L ≤ 3584) (C0 : lw_At p s m meth c b L xs) : W p l e room_1 s m #[Value.ref b] below meth c s.heap [] 0 0 (lw_Z below #[Value.ref b] s) (entryFrame m ([Value.ref b] : List Value).toArray 4) := by
  obtain ⟨hx, hb, hr, hml, hown, hts, hX, hbl, hlk, hgv⟩ := C0
  have htg : ∀ w ∈ vg_GW, w.before #[Value.ref b] s = true := fun w hw => hts w (List.mem_filter.mp hw).1
  obtain ⟨D, dA, hK⟩ := lw_K hts
  have hA0 : ∀ (ad : Nat → Nat), (∀ k, k < 68 → ad k = s.heap.size + k) → ∀ a : Nat, a < s.heap.size → ¬ vg_A ad 68 a := fun ad had a ha hh => by
    obtain ⟨k, hk, rfl⟩ := hh
    rw [had k hk] at ha
    omega
  obtain ⟨t0, -, hT0, hZ0⟩ := lw_st_SHORT (A := fun q => s.heap.size ≤ q) hts hgv (fun a ha h => by omega)
  obtain ⟨t1, -, hT1, hZ1⟩ := lw_st_MIDDLE (A := fun q => s.heap.size ≤ q) hts hgv (fun a ha h => by omega)
  obtain ⟨t2, -, hT2, hZ2⟩ := lw_st_LONG (A := fun q => s.heap.size ≤ q) hts hgv (fun a ha h => by omega)
  obtain ⟨base, hbase⟩ : ∃ B : Nat × (Nat → Nat), B = (s.heap.size, fun k => match k with | 100 => t0 | 101 => t1 | 102 => t2 | _ => b) := ⟨_, rfl⟩
  have hb1 : base.1 = s.heap.size := by rw [hbase]
  have hb100 : vc_ad base 100 = t0 := by rw [hbase]; rfl
  have hb101 : vc_ad base 101 = t1 := by rw [hbase]; rfl
  have hb102 : vc_ad base 102 = t2 := by rw [hbase]; rfl
  have hb103 : vc_ad base 103 = b := by rw [hbase]; rfl
  have hadl : ∀ k, k < 68 → vc_ad base k = s.heap.size + k := fun k hk => by rw [vc_ad_lt base (by omega), hb1]
  have hAle : ∀ q, vg_A (vc_ad base) 68 q → s.heap.size ≤ q := fun q hh => by
    obtain ⟨k, hk, rfl⟩ := hh
    rw [hadl k hk]
    omega
  obtain ⟨G, hG⟩ : ∃ G : vg_G, G = (D, dA, vc_ad base) := ⟨_, rfl⟩
  have hp : vg_Hp G := fun i j hi hj hij => by
    have hi : i < 68 := hi
    have hj : j < 68 := hj
    rw [hG] at hij
    have hij : vc_ad base i = vc_ad base j := hij
    rw [hadl i hi, hadl j hj] at hij
    omega
  have hE : vc_E D dA s := ⟨hK, lw_nestc hts, va_AO.of (lw_w hts 342 (w := .arrayOver (.object "NoiseShaper$Fold")) rfl), va_AO.of (lw_w hts 344 (w := .arrayOver (.object "NoiseShaper$Latest")) rfl)⟩
  have Xc : vc_X p l room_1 s m #[Value.ref b] meth c "NoiseShaperLaw" code 4 D dA base [k_X10_init, k_X11_init] 0 68 33685 false :=
    ⟨hx, hb, hml, hown, htg, hE, (by rw [hb1]; rfl), fun h => (by cases h), List.forall_mem_cons.mpr ⟨⟨t_X10_init l D dA base, Nat.le_of_ble_eq_true rfl, Nat.le_of_ble_eq_true rfl⟩, List.forall_mem_cons.mpr ⟨⟨t_X11_init l D dA base, Nat.le_of_ble_eq_true rfl, Nat.le_of_ble_eq_true rfl⟩, fun _ h => absurd h List.not_mem_nil⟩⟩, Nat.le_of_ble_eq_true rfl, Nat.le_of_ble_eq_true rfl, Nat.le_of_ble_eq_true rfl, Nat.le_of_ble_eq_true rfl, Nat.le_of_ble_eq_true rfl, Nat.le_of_ble_eq_true rfl⟩
  have hEv : vg_E G vg_sh (lw_ro L xs) s := by
    rw [hG]
    have hT : ∀ {t n : Nat} {f : Nat → Value}, va_T .int t n f (fun q => s.heap.size ≤ q) s s.heap → va_T .int t n f (vg_A (vc_ad base) vg_sh.length) s s.heap := fun h => by
      obtain ⟨cell, h1, h2, h3, h4, h5, h6, h7⟩ := h
      exact ⟨cell, h1, h2, h3, h4, h5, h6, fun hh => h7 (hAle _ hh)⟩
    have hZ : ∀ {n : String} {v : Value}, va_Z "NoiseShaper$Taps" n "[I" v (fun q => s.heap.size ≤ q) s s.heap → va_Z "NoiseShaper$Taps" n "[I" v (vg_A (vc_ad base) vg_sh.length) s s.heap := fun h => by
      obtain ⟨cf, kf, fi, f, a, cell, h1, h2, h3, h4, h5, h6, h7, h8⟩ := h
      exact ⟨cf, kf, fi, f, a, cell, h1, h2, h3, h4, h5, h6, h7, fun hh => h8 (hAle _ hh)⟩
    refine ⟨hK, lw_nestv hts, fun k n f hk => ?_, fun q hq => ?_⟩
    · unfold lw_ro at hk
      split at hk
      · cases hk
        show va_T .int (vc_ad base 103) _ _ _ s s.heap
        rw [hb103]
        obtain ⟨scr, q1, q2, q3, q4, q5⟩ := hX
        exact ⟨scr, q1, q2, q3, by omega, (by rw [q4] <;> rfl), q5, fun hh => absurd (hAle _ hh) (by omega)⟩
      · unfold vg_ro0 at hk
        split at hk
        · cases hk
          show va_T .int (vc_ad base 100) _ _ _ s s.heap
          rw [hb100]
          exact hT hT0
        · cases hk
          show va_T .int (vc_ad base 101) _ _ _ s s.heap
          rw [hb101]
          exact hT hT1
        · cases hk
          show va_T .int (vc_ad base 102) _ _ _ s s.heap
          rw [hb102]
          exact hT hT2
        · cases hk
    · simp only [vg_stat, List.mem_cons, List.not_mem_nil, or_false] at hq
      rcases hq with rfl | rfl | rfl
      · show va_Z "NoiseShaper$Taps" "SHORT" "[I" (.ref (vc_ad base 100)) _ s s.heap
        rw [hb100]
        exact hZ hZ0
      · show va_Z "NoiseShaper$Taps" "MIDDLE" "[I" (.ref (vc_ad base 101)) _ s s.heap
        rw [hb101]
        exact hZ hZ1
      · show va_Z "NoiseShaper$Taps" "LONG" "[I" (.ref (vc_ad base 102)) _ s s.heap
        rw [hb102]
        exact hZ hZ2
  have hro : ∀ k x, vg_ro0 k = some x → lw_ro L xs k = some x := fun k x hk => by
    unfold lw_ro
    split
    · cases hk
    · exact hk
  have Xv : vg_X p l room_1 s m #[Value.ref b] c 68 33685 "NoiseShaperLaw" code 4 G vg_sh (lw_ro L xs) lw_cs false :=
    ⟨hx, hb, hml, hown, htg, hp, hEv, hro, lw_cs_ok l G hp, fun h => (by cases h), Nat.le_of_ble_eq_true rfl, Nat.le_of_ble_eq_true rfl⟩
  have hfin := vc_fin_ok
  generalize hrun : vc_run [k_X10_init, k_X11_init] i_law (some 18) 40 i_law [some (.ref 103), none, none, none] [] [] 0 0 = rr at hfin
  rcases rr with _ | ⟨L', aw, nc', ns'⟩
  · cases hfin
  simp only [vc_fin, Bool.and_eq_true, decide_eq_true_eq] at hfin
  obtain ⟨⟨⟨⟨⟨hlike, hL'⟩, hnc⟩, hns⟩, hiv⟩, hrel⟩ := hfin
  have hnc := Nat.eq_of_beq_eq_true hnc
  have hns := Nat.eq_of_beq_eq_true hns
  subst hL'
  subst hnc
  subst hns
  have hl0 := vg_entry (vc_ad base) [.ref 103] 4 (by rw [vg_sl_len]; exact Nat.le_of_ble_eq_true rfl)
  have hent : ([Value.ref b] : List Value) = ([Value.ref 103] : List Value).map (vg_cv (vc_ad base)) := by
    show _ = [Value.ref (vc_ad base 103)]
    rw [hb103]
  rw [lg_entry_eq]
  have key := vc_run_sound (e := e) (below := below) (Q := lw_Z below #[Value.ref b] s) Xc lw_hd_ok lw_hd_ch (Nat.le_refl _) ⟨Nat.le_of_ble_eq_true rfl, Nat.le_of_ble_eq_true rfl⟩ (fun q H locs ls hok hq hl hP hS => ?_) 40 (0, .new 7, 3, _, _, _, _) _ _ [] [] 0 0 s.heap [] _ lw_hd_ok lw_hd_ch rfl hrun hl0 (fun k q hq => by cases hq) va_S.rf
  · rw [← hent] at key
    exact key
  · have hq : q.1 = 18 := hq
    rw [hq]
    refine va_forget (fun x hx => by have := hS.2.2 x hx; rw [hb1] at this; exact this) ?_
    have hP2 : vg_P G vg_sh (vc_s0 aw) H := by
      rw [hG]
      have heq := vc_like_eq dA (vc_ad base) (vc_s0 aw) (fun _ _ => rfl) aw vg_sh 0 hlike (fun j => ⟨fun ci fs hj a x ha => by simp only [vc_s0, Nat.zero_add, hj, ha], fun q hj a => by simp only [vc_s0, Nat.zero_add, hj]⟩)
      show va_P D vwCl (vg_cw dA (vc_ad base) (vc_s0 aw) 0 vg_sh) H
      rw [← heq]
      exact hP
    have hl2 : vg_lr G.2.2 ls 4 [some (.ref 103), some (.ref 0), some (.ref 55), some (.int 0)] := by rw [hG]; exact hl
    have hS2 : va_S (vg_A G.2.2 vg_sh.length) s.heap H [] := ⟨hS.1, fun q h1 h2 => hS.2.1 q h1 (by rw [hb1]; omega), fun _ h => absurd h List.not_mem_nil⟩
    refine vg_loops (e := e) (below := below) (meth := meth) (Q := lw_Z below #[Value.ref b] s) (po := lw_po) (I := vg_lkp lw_I) Xv vg_sh_ok lw_ops_ok lw_ops_ch 300 ?_ ?_ 4000 18 _ [some (.ref 103), some (.ref 0), some (.ref 55), some (.int 0)] (vc_s0 aw) H [] ls rfl ⟨0, rfl, by decide, by decide, vg_ivb_ok hiv, (by show (0 : Int) ≤ (0 : Int64).toInt; decide), (by show (0 : Int64).toInt ≤ 400 * (0 : Int32).toInt; decide), ((vg_rel0_ok hrel).1.trans (show (0 : Int) = (0 : Int64).toInt by decide))⟩ (by show (4000 - (0 : Int32).toInt).toNat ≤ 4000; decide) hl2 hP2 hS2
    · intro h iv hh M σ hM
      have hm := vg_lkp_in lw_I h iv hh
      simp only [lw_I, List.mem_cons, List.not_mem_nil, or_false, Prod.mk.injEq] at hm
      obtain ⟨rfl, rfl⟩ := hm
      obtain ⟨i, rfl, hi⟩ := hM
      exact lw_head hL i σ hi
    · intro pc op len a b0 c0 z M v σ H locs ls hok hir hpo hl hP hS
      obtain ⟨hdg, hln, hlk2, -⟩ := vg_ok_spec hok
      have hpo : v = some (.int 1) := hpo
      subst hpo
      refine va_forget (fun x hx => by
        have := hS.2.2 x hx
        rw [hG] at this
        exact hAle _ this) ?_
      refine W.widen (k := 600000) (n := 7302250) (Nat.le_of_ble_eq_true rfl) (Nat.le_of_ble_eq_true rfl) ?_
      unfold vg_isret at hir
      split at hir
      · have hrt : some FieldType.boolean = some FieldType.int := of_decide_eq_true hlk2
        cases hrt
      · rename_i hv
        cases hv
        have hln : len = 1 := hln
        subst hln
        exact lw_ret hx hb hr hlk hdg
      · rename_i hv
        cases hv
      · rename_i hv
        cases hv
      · rename_i hv
        cases hv
      · exact hir.elim
