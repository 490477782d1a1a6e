
/-! the constructors' walker is sound -/
def vc_nest : List Cond := [.methodLinkNest "NoiseShaper" 9 yX7_init "NoiseShaper", .methodLinkNest "NoiseShaper" 18 yX5_init "NoiseShaper", .methodLinkNest "NoiseShaper$Loop" 11 yX6_init "NoiseShaper", .methodLinkNest "NoiseShaper" 25 yX2_init "NoiseShaper", .methodLinkNest "NoiseShaper" 32 yX1_init "NoiseShaper", .methodLinkNest "NoiseShaper" 39 yX8_init "NoiseShaper", .methodLinkNest "NoiseShaper" 58 yX0_init "NoiseShaper", .methodLinkNest "NoiseShaper" 71 yX9_init "NoiseShaper", .methodLinkNest "NoiseShaper" 76 yX3_init "NoiseShaper", .methodLinkNest "NoiseShaper" 77 yX4_init "NoiseShaper"]
theorem vc_nest_warm {s U : State} (hW : s.WarmedH U.vm) (h : ∀ w ∈ vc_nest, va_Nw w s) : ∀ w ∈ vc_nest, va_Nw w U := by
  intro w hw
  have h1 := h w hw
  simp only [vc_nest, List.mem_cons, List.not_mem_nil, or_false] at hw
  rcases hw with rfl | rfl | rfl | rfl | rfl | rfl | rfl | rfl | rfl | rfl <;> exact va_Nw.warmM hW h1
theorem vc_nest_same {s U : State} (hW : s.vm = U.vm) (h : ∀ w ∈ vc_nest, va_Nw w s) : ∀ w ∈ vc_nest, va_Nw w U := by
  intro w hw
  have h1 := h w hw
  simp only [vc_nest, List.mem_cons, List.not_mem_nil, or_false] at hw
  rcases hw with rfl | rfl | rfl | rfl | rfl | rfl | rfl | rfl | rfl | rfl <;> exact va_Nw.same rfl hW h1
def vc_E (D : va_G) (dA : Nat → ClassId) (U : State) : Prop := va_K D vwCl (vg_ty dA) U ∧ (∀ w ∈ vc_nest, va_Nw w U) ∧ va_AO "NoiseShaper$Fold" U ∧ va_AO "NoiseShaper$Latest" U
theorem vc_E.go {D : va_G} {dA : Nat → ClassId} {s U : State} (h : vc_E D dA s) (hW : s.WarmedH U.vm) : vc_E D dA U := ⟨va_K.moved hW.alike h.1, vc_nest_warm hW h.2.1, h.2.2.1.moved hW.alike, h.2.2.2.moved hW.alike⟩
theorem vc_E.blind {D : va_G} {dA : Nat → ClassId} {U : State} (g : JFrame) (mk : MethodId) (a : Array Value) (h : vc_E D dA U) : vc_E D dA (U.calling g mk a) := ⟨va_K.moved (u := U) (U := U.calling g mk a) (Vm.Alike.refl U.vm) h.1, vc_nest_same (s := U) (U := U.calling g mk a) rfl h.2.1, va_AO.moved (u := U) (U := U.calling g mk a) (Vm.Alike.refl U.vm) h.2.2.1, va_AO.moved (u := U) (U := U.calling g mk a) (Vm.Alike.refl U.vm) h.2.2.2⟩
/-- the heap holds the world -/
def vc_P (D : va_G) (dA : Nat → ClassId) (base : Nat × (Nat → Nat)) (aw : vc_W) (H : Heap) : Prop := va_P D vwCl (vc_cw dA (vc_ad base) 0 aw) H
def vc_Q (D : va_G) (dA : Nat → ClassId) (base : Nat × (Nat → Nat)) (aw' : vc_W) : Array Value → State → Outcome → State → Prop := fun _ st oc t => (oc = .returned none ∧ vc_P D dA base aw' t.heap) ∧ va_F (fun q => base.1 ≤ q) st t
def vc_rok (r : vc_R) : Prop := Cond.code r.1.1 r.1.2.1 r.1.2.2.1 none ∈ vg_GW ∧ Cond.initialized r.1.1.cls ∈ vg_GW ∧ (r.1.1.cls ≠ "java/lang/invoke/MethodHandle" ∧ r.1.1.cls ≠ "java/lang/invoke/VarHandle") ∧ plainFor r.1.1 = true ∧ Cond.instanceMethod r.1.1 ∈ vg_GW ∧ r.1.1.name = "<init>" ∧ r.1.1.desc = "()V" ∧ ∀ aw o aw', r.2 aw o = some aw' → aw'.length = aw.length + r.1.2.2.2.2.2.1
def vc_Ct (l : Launch) (D : va_G) (dA : Nat → ClassId) (base : Nat × (Nat → Nat)) (r : vc_R) : Prop := vc_rok r ∧ ∀ (aw aw' : vc_W) (o : Nat), r.2 aw o = some aw' → Met l r.1.1 (.code r.1.1 r.1.2.1 r.1.2.2.1 none :: vg_GW) ({ frames := r.1.2.2.2.1, cells := r.1.2.2.2.2.2.1, slots := r.1.2.2.2.2.2.2, locals := r.1.2.2.2.2.1 }) (va_Pc [.ref (vc_ad base o)] (fun U => vc_P D dA base aw U.heap ∧ U.heap.size = base.1 + aw.length ∧ vc_E D dA U)) (vc_Q D dA base aw') r.1.2.2.2.2.2.1 r.1.2.2.2.2.2.2 (fun q => base.1 ≤ q)
def vc_len (op : Instr) : Nat := match op with
  | .bipush _ => 2
  | .sipush _ => 3
  | .ldc _ => 2
  | .iinc _ _ => 3
  | .goto _ => 3
  | .if_icmp _ _ => 3
  | .getfield _ => 3
  | .putfield _ => 3
  | .new _ => 3
  | .anewarray _ => 3
  | .newarray _ => 2
  | .invokespecial _ => 3
  | _ => 1
def vc_isr (ty : FieldType) : Bool := match ty with
  | .object _ => true
  | .array _ => true
  | _ => false
def vc_lks (own : String) (cs : List vc_R) (ini : Bool) (op : Instr) (a b c : Nat) (z : Int) : Bool := match op with
  | .bipush n => decide ((Int8.ofInt n).toInt32 = Int32.ofInt n)
  | .sipush n => decide ((Int16.ofInt n).toInt32 = Int32.ofInt n)
  | .ldc i => vg_wd a (.constant own i (Int32.ofInt z))
  | .getfield i => (match vg_nth vwCl b with
    | some q => Nat.blt c q.2.2 && vg_wd a (.fieldLink own i (q.2.1 c).1 (q.2.1 c).2.1 (q.2.1 c).2.2.1)
    | none => false)
  | .putfield i => (match vg_nth vwCl b with
    | some q => ini && Nat.blt c q.2.2 && vg_wd a (.fieldLink own i (q.2.1 c).1 (q.2.1 c).2.1 (q.2.1 c).2.2.1) && decide ((q.2.1 c).1 = own) && (match z, parseFieldDescriptor (q.2.1 c).2.2.1 with
      | .ofNat 0, some .int => true
      | .ofNat 5, some t => vc_isr t
      | _, _ => false)
    | none => false)
  | .newarray t => (match t with
    | .int => vg_wd a (.arrayClass .int)
    | .long => vg_wd a (.arrayClass .long)
    | _ => false)
  | .anewarray i => (match b with
    | 2 => vg_wd a (.classLink own i "NoiseShaper$Fold")
    | 3 => vg_wd a (.classLink own i "NoiseShaper$Latest")
    | _ => false)
  | .new i => (match vg_nth vwCl b with
    | some q => Nat.beq c q.2.2 && vg_wd a (.classLink own i q.1) && vg_wd z.toNat (.instantiable q.1 q.2.2) && decide (Cond.initialized q.1 ∈ tables_1)
    | none => false)
  | .invokespecial i => (match b with
    | 0 => vg_wd a (.methodLink own i objectInit)
    | 1 => (match vg_nth cs a with
      | some r => decide (vg_nth vc_nest z.toNat = some (.methodLinkNest own i r.1.1 "NoiseShaper"))
      | none => false)
    | 2 => (match vg_nth cs a with
      | some r => vg_wd z.toNat (.methodLink own i r.1.1)
      | none => false)
    | _ => false)
  | .goto _ => true
  | _ => true
def vc_ok (own : String) (cc : ByteArray) (cs : List vc_R) (ini : Bool) (q : vg_I) : Bool := match q with
  | (pc, op, len, a, b, c, z) => decide (decode cc pc = .ok (op, len)) && Nat.beq len (vc_len op) && vc_lks own cs ini op a b c z && vg_tg pc op
theorem vc_ok_spec {own : String} {cc : ByteArray} {cs : List vc_R} {ini : Bool} {pc len a b c : Nat} {op : Instr} {z : Int} (h : vc_ok own cc cs ini (pc, op, len, a, b, c, z) = true) : decode cc pc = .ok (op, len) ∧ len = vc_len op ∧ vc_lks own cs ini op a b c z = true ∧ vg_tg pc op = true := by
  simp only [vc_ok, Bool.and_eq_true, decide_eq_true_eq] at h
  exact ⟨h.1.1.1, Nat.eq_of_beq_eq_true h.1.1.2, h.1.2, h.2⟩
section VCS
variable {p : Program} {l : Launch} {e : Env} {R : Room} {s : State} {m : MethodId} {args : Array Value} {below : List Frame} {meth : Method} {c : Code} {Q : State → Prop}
variable {own : String} {cc : ByteArray} {nL : Nat} {D : va_G} {dA : Nat → ClassId} {base : Nat × (Nat → Nat)} {cs : List vc_R}
def vc_X (p : Program) (l : Launch) (R : Room) (s : State) (m : MethodId) (args : Array Value) (meth : Method) (c : Code) (own : String) (cc : ByteArray) (nL : Nat) (D : va_G) (dA : Nat → ClassId) (base : Nat × (Nat → Nat)) (cs : List vc_R) (n0 mc ms : Nat) (ini : Bool) : Prop :=
  p.tables.exec = Jvm.exec ∧ c.code = cc ∧ c.maxLocals = nL ∧ s.vm.findClass own = some m.cls ∧ (∀ w ∈ vg_GW, w.before args s = true) ∧ vc_E D dA s ∧ s.heap.size = base.1 + n0 ∧ (ini = true → meth.name = "<init>") ∧
  (∀ r ∈ cs, vc_Ct l D dA base r ∧ r.1.2.2.2.1 + 1 ≤ R.frames ∧ 8 + (r.1.2.2.1 + 11) + r.1.2.2.2.2.1 ≤ R.locals) ∧ 1 ≤ R.frames ∧ 20 ≤ R.locals ∧ mc ≤ R.cells ∧ ms ≤ R.slots ∧ R.slots ≤ 60000000 ∧ n0 + mc ≤ 99
/-- no more cells than were counted -/
theorem vc_le {H : Heap} {locs : List Loc} {cells slots : Nat} {g : JFrame} (k : H.size ≤ s.heap.size + cells → W p l e R s m args below meth c H locs cells slots Q g) : W p l e R s m args below meth c H locs cells slots Q g := by
  intro T hT X
  refine k ?_ T hT X
  have h := X.same.2.2.1
  rw [← hT]
  exact h
theorem vc_size {aw : vc_W} {H : Heap} {locs : List Loc} {n0 nc : Nat} (h100 : aw.length ≤ 99) (hP : vc_P D dA base aw H) (hS : va_S (fun q => base.1 ≤ q) s.heap H locs) (h0 : s.heap.size = base.1 + n0) (hn : aw.length = n0 + nc) (hle : H.size ≤ s.heap.size + nc) : H.size = base.1 + aw.length := by
  have h1 := hS.1
  rcases Nat.eq_zero_or_pos aw.length with hz | hz
  · omega
  · have hlt : aw.length - 1 < aw.length := by omega
    have hq := hP (aw.length - 1) _ (by rw [vc_cw_at, List.getElem?_eq_getElem hlt]; rfl)
    have h2 := hq.lt
    have h2 : vc_ad base (0 + (aw.length - 1)) < H.size := h2
    rw [Nat.zero_add, vc_ad_lt base (by omega)] at h2
    omega
/-- a new cell -/
theorem vc_new {aw : vc_W} {H H1 : Heap} {cc' : vc_C} {locs : List Loc} (hP : vc_P D dA base aw H) (hS : va_S (fun q => base.1 ≤ q) s.heap H locs) (z1 : H1.size = H.size + 1) (o1 : ∀ q, q < H.size → H1[q]? = H[q]?) (he : va_at D vwCl (vc_ad base aw.length, vc_ce dA (vc_ad base) cc') H1) : vc_P D dA base (aw ++ [cc']) H1 ∧ va_S (fun q => base.1 ≤ q) s.heap H1 locs := by
  refine ⟨?_, Nat.le_trans hS.1 (by omega), fun x h1 h2 => (o1 x (Nat.lt_of_lt_of_le h1 hS.1)).trans (hS.2.1 x h1 h2), hS.2.2⟩
  unfold vc_P at hP ⊢
  rw [vc_cw_app]
  refine va_P.app (hP.kept (fun k x hx => o1 x.1 ((hP k x hx).lt))) (fun k x hx => ?_)
  have hz2 : k < 1 := (List.getElem?_eq_some_iff.mp hx).1
  rw [show k = 0 by omega] at hx
  cases hx
  rw [Nat.zero_add]
  exact he
theorem vc_nil (ad : Nat → Nat) (n : Nat) : (fun (_ : Nat) => (none : Option Nat)) = fun j => (((List.replicate n (none : Option Nat))[j]?).join).map ad := by
  funext j
  by_cases h : j < n <;> simp [h]
theorem vc_up (ad : Nat → Nat) (rs : List (Option Nat)) (i v : Nat) (hi : i < rs.length) : va_up (fun j => ((rs[j]?).join).map ad) i (some (ad v)) = fun j => (((rs.set i (some v))[j]?).join).map ad := by
  funext j
  simp only [va_up, List.getElem?_set]
  by_cases h : j = i
  · subst h
    simp [hi]
  · simp [h, Ne.symm h]
theorem vc_gc {ws : List Cond} {r : vc_R} (h : Cond.code r.1.1 r.1.2.1 r.1.2.2.1 none ∈ vg_GW) : GoodIn vg_GW (Cond.code r.1.1 r.1.2.1 r.1.2.2.1 none :: vg_GW) := fun w hw => (List.mem_cons.mp hw).elim (fun e => by rw [e]; exact vg_GW_good _ h) (fun hw => vg_GW_good w hw)
theorem vc_cont {H : Heap} {locs : List Loc} {pc : Nat} {ls : Array Slot} {st0 rest : List Value} {aa : Array Value} {aw' : vc_W} {cells slots mc ms : Nat} (hr : va_Run p l e R s m args below meth c H locs cells slots mc ms (F0 m pc ls st0) rest (vc_Q D dA base aw' aa) (fun q => base.1 ≤ q)) (hS : va_S (fun q => base.1 ≤ q) s.heap H locs)
    (kk : ∀ (H1 : Heap) (locs1 : List Loc), vc_P D dA base aw' H1 → va_S (fun q => base.1 ≤ q) s.heap H1 locs1 → W p l e R s m args below meth c H1 locs1 (cells + mc) (slots + ms) Q (F0 m (pc + 3) ls rest)) : W p l e R s m args below meth c H locs cells slots Q (F0 m pc ls st0) := by
  intro T hT X
  obtain ⟨v0, st₀, t, T', L, h0, X', hL, e1, e2, ⟨⟨hv, hb⟩, hz, hk⟩, st⟩ := hr T hT X
  cases hv
  rw [h0] at hz hk
  obtain ⟨t2, a1, b1⟩ := kk T'.heap (locs ++ L) (by rw [e1]; exact hb)
    ⟨Nat.le_trans hS.1 (by rw [e1]; exact hz), fun q h1 h2 => by rw [e1, hk q (Nat.lt_of_lt_of_le h1 hS.1) h2]; exact hS.2.1 q h1 h2, fun q hq => by
      rcases List.mem_append.mp hq with h | h
      · exact hS.2.2 q h
      · exact hL q h⟩ T' rfl X'
  exact ⟨t2, st t2 a1, b1⟩
theorem vc_call {H : Heap} {locs : List Loc} {ls : Array Slot} {pc i o cells slots : Nat} {L : vg_L} {st : List Value} {aw aw' : vc_W} {r : vc_R} {n0 mc ms : Nat} {ini : Bool} (X : vc_X p l R s m args meth c own cc nL D dA base cs n0 mc ms ini) (hsz : H.size = base.1 + aw.length) (hdg : decode cc pc = .ok (.invokespecial i, 3)) (hl : vg_lr (vc_ad base) ls nL L) (hP : vc_P D dA base aw H) (hS : va_S (fun q => base.1 ≤ q) s.heap H locs) (hr : r ∈ cs) (hcat : vg_cat st ≤ 8) (hf : r.2 aw o = some aw') (hc : cells + r.1.2.2.2.2.2.1 ≤ R.cells ∧ slots + r.1.2.2.2.2.2.2 ≤ R.slots)
    (hlink : (∃ host, (Cond.methodLinkNest own i r.1.1 host).before args s = true) ∨ (Cond.methodLink own i r.1.1).before args s = true)
    (kk : ∀ (H1 : Heap) (locs1 : List Loc), vc_P D dA base aw' H1 → va_S (fun q => base.1 ≤ q) s.heap H1 locs1 → W p l e R s m args below meth c H1 locs1 (cells + r.1.2.2.2.2.2.1) (slots + r.1.2.2.2.2.2.2) Q (F0 m (pc + 3) ls (st.map (vg_cv (vc_ad base))))) : W p l e R s m args below meth c H locs cells slots Q (F0 m pc ls ((.ref o :: st).map (vg_cv (vc_ad base)))) := by
  obtain ⟨hx, hb, hml, hown, hts, hE, hbs, hin, hcs, -, -, -, -, -, -⟩ := X
  obtain ⟨⟨⟨hcode, hini, hnm, hpl, him, hnn, hds, -⟩, hM⟩, hfr, hlo⟩ := hcs r hr
  have hws := pay_in hts (vc_gc (ws := []) hcode)
  have hpre : PreS s H (va_Pc [.ref (vc_ad base o)] (fun U => vc_P D dA base aw U.heap ∧ U.heap.size = base.1 + aw.length ∧ vc_E D dA U)) (.ref (vc_ad base o) :: []) := ⟨fun a U g mk q => ⟨q.1, q.2.1, q.2.2.1, q.2.2.2.blind g mk a⟩, fun U hU hW => ⟨rfl, by rw [hU]; exact hP, by rw [hU]; exact hsz, hE.go hW⟩⟩
  have hsig : ∀ sig, parseMethodDescriptor r.1.1.desc = some sig → 0 = sig.parameters.length := by
    rw [hds]
    exact vg_sig (y := ⟨"", "", "()V"⟩) (n := 0) (by decide +kernel)
  rcases hlink with ⟨host, hlink⟩ | hlink
  · exact vc_cont (va_runIN (host := host) (b := vc_ad base o) (As := []) (rest := st.map (vg_cv (vc_ad base))) (bytes := r.1.2.1) (maxL := r.1.2.2.1) (n := 0) ⟨hx, hb, hml, hown, hts⟩ (hM aw aw' o hf) ⟨⟨⟨rfl, rfl, hfr, hlo, hws, List.mem_cons_self⟩, hts _ hcode, hts _ hini, hnm, hsig, hlink⟩, hnn, hts _ him⟩ hpre rfl rfl hl.1.1 rfl (lv_room (by rw [vg_cat_eq]; exact hcat)) hdg hc) hS kk
  · exact vc_cont (va_runI (b := vc_ad base o) (As := []) (rest := st.map (vg_cv (vc_ad base))) (bytes := r.1.2.1) (maxL := r.1.2.2.1) (n := 0) ⟨hx, hb, hml, hown, hts⟩ (hM aw aw' o hf) ⟨⟨rfl, rfl, hfr, hlo, hws, List.mem_cons_self, hts _ hcode, hts _ hini, hnm, hsig, hlink⟩, hnn, hts _ him⟩ hpre rfl rfl hl.1.1 rfl (lv_room (by rw [vg_cat_eq]; exact hcat)) hdg hc) hS kk
end VCS
