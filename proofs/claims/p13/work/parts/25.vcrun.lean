/-! runs of constructors -/
theorem vc_set_len {α : Type} (l : List α) (i : Nat) (x : α) : (vc_set l i x).length = l.length := by rw [vc_set_eq, List.length_set]
set_option maxHeartbeats 2000000 in
theorem vc_i_len {cs : List vc_R} (hcs : ∀ r ∈ cs, ∀ aw o aw', r.2 aw o = some aw' → aw'.length = aw.length + r.1.2.2.2.2.2.1) {q : vg_I} {L L' : vg_L} {st st' : List Value} {aw aw' : vc_W} {nc ns nc' ns' : Nat} {j : Option Nat} (h : vc_i cs q L st aw nc ns = some (j, L', st', aw', nc', ns')) : nc ≤ nc' ∧ ns ≤ ns' ∧ aw'.length + nc = aw.length + nc' := by
  obtain ⟨pc, op, len, a, b, c, z⟩ := q
  cases op with
  | if_icmp cd off =>
    cases cd <;> simp only [vc_i] at h <;> (repeat' split at h) <;> first | (cases h; done) | (simp only [Option.some.injEq, Prod.mk.injEq] at h; obtain ⟨-, -, -, rfl, rfl, rfl⟩ := h; refine ⟨by omega, by omega, ?_⟩; simp [vc_set_len])
  | invokespecial i =>
    simp only [vc_i] at h
    split at h
    · split at h
      · simp only [Option.some.injEq, Prod.mk.injEq] at h
        obtain ⟨-, -, -, rfl, rfl, rfl⟩ := h
        exact ⟨by omega, by omega, rfl⟩
      · cases h
    · split at h
      · rename_i k hk hct
        have hmem : k ∈ cs := by rw [vg_nth_eq] at hk; exact List.mem_of_getElem? hk
        split at h
        · rename_i aw2 hf
          simp only [Option.some.injEq, Prod.mk.injEq] at h
          obtain ⟨-, -, -, rfl, rfl, rfl⟩ := h
          have := hcs k hmem _ _ _ hf
          exact ⟨by omega, by omega, by omega⟩
        · cases h
      · cases h
    · cases h
  | _ =>
    simp only [vc_i] at h
    all_goals first | (cases h; done) | ((repeat' split at h) <;> first | (cases h; done) | (simp only [Option.some.injEq, Prod.mk.injEq] at h; obtain ⟨-, -, -, rfl, rfl, rfl⟩ := h; refine ⟨by omega, by omega, ?_⟩; simp [vc_set_len]; try omega))
def vc_nx (cs : List vc_R) (cd : List vg_I) (en : Option Nat) (n : Nat) (nx : List vg_I) : Option (Option Nat × vg_L × List Value × vc_W × Nat × Nat) → Option (vg_L × vc_W × Nat × Nat)
  | some (none, L, st, aw, nc, ns) => vc_run cs cd en n nx L st aw nc ns
  | some (some t, L, st, aw, nc, ns) => vc_run cs cd en n (vg_find cd t) L st aw nc ns
  | none => none
def vc_end (en : Option Nat) (q : vg_I) : Prop := match en with
  | none => q.2.1 = .return_
  | some t => q.1 = t
theorem vc_run_nx {cs : List vc_R} {cd : List vg_I} {en : Option Nat} {n : Nat} {q : vg_I} {nx : List vg_I} {L : vg_L} {st : List Value} {aw : vc_W} {nc ns : Nat} {r : vg_L × vc_W × Nat × Nat} (h : vc_run cs cd en (n + 1) (q :: nx) L st aw nc ns = some r) : (vc_end en q ∧ st = [] ∧ r = (L, aw, nc, ns)) ∨ vc_nx cs cd en n nx (vc_i cs q L st aw nc ns) = some r := by
  unfold vc_run at h
  split at h
  · rename_i hop
    cases h
    exact Or.inl ⟨hop, rfl, rfl⟩
  · cases h
  · exact Or.inr h
  · split at h
    · rename_i hb
      cases h
      exact Or.inl ⟨Nat.eq_of_beq_eq_true hb, rfl, rfl⟩
    · cases h
    · exact Or.inr h
theorem vc_run_len {cs : List vc_R} (hcs : ∀ r ∈ cs, ∀ aw o aw', r.2 aw o = some aw' → aw'.length = aw.length + r.1.2.2.2.2.2.1) {cd : List vg_I} {en : Option Nat} : ∀ (n : Nat) (cur : List vg_I) (L : vg_L) (st : List Value) (aw : vc_W) (nc ns : Nat) (L' : vg_L) (aw' : vc_W) (nc' ns' : Nat), vc_run cs cd en n cur L st aw nc ns = some (L', aw', nc', ns') → nc ≤ nc' ∧ ns ≤ ns' ∧ aw'.length + nc = aw.length + nc' := by
  intro n
  induction n with
  | zero => intro cur L st aw nc ns L' aw' nc' ns' h; cases cur <;> cases h
  | succ n ih =>
    intro cur L st aw nc ns L' aw' nc' ns' h
    cases cur with
    | nil => cases h
    | cons q nx =>
      rcases vc_run_nx h with ⟨-, -, h⟩ | h
      · cases h
        exact ⟨by omega, by omega, rfl⟩
      · clear ‹vc_run cs cd en (n + 1) (q :: nx) L st aw nc ns = _›
        generalize hi : vc_i cs q L st aw nc ns = rr at h
        rcases rr with _ | ⟨_ | t, L2, st2, aw2, nc2, ns2⟩
        · cases h
        · have h1 := vc_i_len hcs hi
          have h2 := ih _ _ _ _ _ _ _ _ _ _ h
          omega
        · have h1 := vc_i_len hcs hi
          have h2 := ih _ _ _ _ _ _ _ _ _ _ h
          omega
section VCU
variable {p : Program} {l : Launch} {e : Env} {R : Room} {s : State} {m : MethodId} {args : Array Value} {below : List Frame} {meth : Method} {c : Code} {Q : State → Prop}
variable {own : String} {cc : ByteArray} {nL : Nat} {D : va_G} {dA : Nat → ClassId} {base : Nat × (Nat → Nat)} {cs : List vc_R} {cd : List vg_I} {en : Option Nat} {n0 mc ms : Nat} {ini : Bool}
theorem vc_run_sound (X : vc_X p l R s m args meth c own cc nL D dA base cs n0 mc ms ini) (hcd : cd.all (vc_ok own cc cs ini) = true) (hch : vg_chain cd = true) {L' : vg_L} {aw' : vc_W} {nc' ns' : Nat} (hbm : nc' ≤ mc) (hbd : nc' ≤ R.cells ∧ ns' ≤ R.slots)
    (kE : ∀ (q : vg_I) H locs ls, vc_ok own cc cs ini q = true → vc_end en q → vg_lr (vc_ad base) ls nL L' → vc_P D dA base aw' H → va_S (fun q => base.1 ≤ q) s.heap H locs → W p l e R s m args below meth c H locs nc' ns' Q (F0 m q.1 ls [])) :
    ∀ (n : Nat) (q : vg_I) (nx : List vg_I) (L : vg_L) (st : List Value) (aw : vc_W) (nc ns : Nat) (H : Heap) (locs : List Loc) (ls : Array Slot), (q :: nx).all (vc_ok own cc cs ini) = true → vg_chain (q :: nx) = true → aw.length = n0 + nc → vc_run cs cd en n (q :: nx) L st aw nc ns = some (L', aw', nc', ns') → vg_lr (vc_ad base) ls nL L → vc_P D dA base aw H → va_S (fun q => base.1 ≤ q) s.heap H locs → W p l e R s m args below meth c H locs nc ns Q (F0 m q.1 ls (st.map (vg_cv (vc_ad base)))) := by
  have hcs : ∀ r ∈ cs, ∀ aw o aw', r.2 aw o = some aw' → aw'.length = aw.length + r.1.2.2.2.2.2.1 := fun r hr => (X.2.2.2.2.2.2.2.2.1 r hr).1.1.2.2.2.2.2.2.2
  intro n
  induction n with
  | zero => intro q nx L st aw nc ns H locs ls _ _ _ h; cases h
  | succ n ih =>
    intro q nx L st aw nc ns H locs ls h1 h2 hn h hl hP hS
    have h1' := h1
    simp only [List.all_cons, Bool.and_eq_true] at h1'
    rcases vc_run_nx h with ⟨he, hst, h⟩ | h
    · cases h
      subst hst
      exact kE q H locs ls h1'.1 he hl hP hS
    · clear ‹vc_run cs cd en (n + 1) (q :: nx) L st aw nc ns = _›
      generalize hi : vc_i cs q L st aw nc ns = rr at h
      rcases rr with _ | ⟨_ | t, L2, st2, aw2, nc2, ns2⟩
      · cases h
      · have hlen := vc_i_len hcs hi
        have hmono := vc_run_len hcs _ _ _ _ _ _ _ _ _ _ _ h
        obtain ⟨pc, op, len, a, b, c0, z⟩ := q
        refine vc_i_sound X h1'.1 hl hP hS hn hi hlen.1 (by omega) ⟨by omega, by omega⟩ (fun H locs ls hl hP hS => ?_)
        cases nx with
        | nil => cases n <;> cases h
        | cons q2 r =>
          have he := vg_chain_hd h2
          have := ih q2 r L2 st2 aw2 nc2 ns2 H locs ls h1'.2 (vg_chain_tl h2) (by omega) h hl hP hS
          rw [he] at this
          exact this
      · have hlen := vc_i_len hcs hi
        have hmono := vc_run_len hcs _ _ _ _ _ _ _ _ _ _ _ h
        obtain ⟨pc, op, len, a, b, c0, z⟩ := q
        refine vc_i_sound X h1'.1 hl hP hS hn hi hlen.1 (by omega) ⟨by omega, by omega⟩ (fun H locs ls hl hP hS => ?_)
        have hf := vg_find_good _ cd t hcd hch
        cases hv : vg_find cd t with
        | nil =>
          have h : vc_run cs cd en n (vg_find cd t) L2 st2 aw2 nc2 ns2 = _ := h
          rw [hv] at h
          cases n <;> cases h
        | cons q2 r =>
          have h : vc_run cs cd en n (vg_find cd t) L2 st2 aw2 nc2 ns2 = _ := h
          rw [hv] at h hf
          have := ih q2 r L2 st2 aw2 nc2 ns2 H locs ls hf.1 hf.2.1 (by omega) h hl hP hS
          rw [hf.2.2 q2 r rfl] at this
          exact this
end VCU
/-- what a constructor makes -/
def vc_F (cs : List vc_R) (cd : List vg_I) (ml mc ms : Nat) (aw : vc_W) (o : Nat) : Option vc_W := match vc_run cs cd none 400 cd (vg_pad ml [some (.ref o)]) [] aw 0 0 with
  | some (_, aw', c, s) => (match Nat.beq c mc, Nat.beq s ms, Nat.ble (aw.length + mc) 99 with
    | true, true, true => some aw'
    | _, _, _ => none)
  | none => none
theorem vc_meth {l : Launch} {D : va_G} {dA : Nat → ClassId} {base : Nat × (Nat → Nat)} (y : MethodName) (cc : ByteArray) (ml fr lo mc ms : Nat) (cs : List vc_R) (cd : List vg_I) (hcode : Cond.code y cc ml none ∈ vg_GW) (hini : Cond.initialized y.cls ∈ vg_GW) (hnm : y.cls ≠ "java/lang/invoke/MethodHandle" ∧ y.cls ≠ "java/lang/invoke/VarHandle") (hpl : plainFor y = true) (him : Cond.instanceMethod y ∈ vg_GW) (hnn : y.name = "<init>") (hds : y.desc = "()V")
    (hcd : cd.all (vc_ok y.cls cc cs true) = true) (hch : vg_chain cd = true) (hc0 : ∃ q nx, cd = q :: nx ∧ q.1 = 0) (hml : 1 ≤ ml) (hfr : 1 ≤ fr) (hlo : 20 ≤ lo) (hms : ms ≤ 60000000) (hcs : ∀ r ∈ cs, vc_Ct l D dA base r ∧ r.1.2.2.2.1 + 1 ≤ fr ∧ 8 + (r.1.2.2.1 + 11) + r.1.2.2.2.2.1 ≤ lo) : vc_Ct l D dA base ((y, cc, ml, fr, lo, mc, ms), vc_F cs cd ml mc ms) := by
  have hlen : ∀ r ∈ cs, ∀ aw o aw', r.2 aw o = some aw' → aw'.length = aw.length + r.1.2.2.2.2.2.1 := fun r hr => (hcs r hr).1.1.2.2.2.2.2.2.2
  refine ⟨⟨hcode, hini, hnm, hpl, him, hnn, hds, fun aw o aw' h => ?_⟩, fun aw aw' o h => ?_⟩
  · simp only [vc_F] at h
    split at h
    · rename_i hr
      split at h
      · rename_i hb1 hb2 hb3
        cases h
        have h3 := vc_run_len hlen _ _ _ _ _ _ _ _ _ _ _ hr
        have := Nat.eq_of_beq_eq_true hb1
        show _ = aw.length + mc
        omega
      · cases h
    · cases h
  · simp only [vc_F] at h
    split at h
    · rename_i L' aw2 c2 s2 hr
      split at h
      · rename_i hb1 hb2 hb3
        cases h
        have hb1 := Nat.eq_of_beq_eq_true hb1
        have hb2 := Nat.eq_of_beq_eq_true hb2
        have hb3 := Nat.le_of_ble_eq_true hb3
        subst hb1
        subst hb2
        refine va_MetF (cc := cc) (maxL := ml) (ret := none) hpl rfl ?_
        intro p e s m args below meth c s₁ B hmlx hv
        obtain ⟨rfl, hP, hsz, hE⟩ := hv
        have hts0 := atoms_spec (ws := Cond.code y cc ml none :: vg_GW) B.pre
        have hts : ∀ w ∈ vg_GW, w.before _ s = true := fun w hw => hts0 w (List.mem_cons_of_mem _ hw)
        have hown : s.vm.findClass y.cls = some m.cls := findClass_of_methodNamed B.named
        have hlocks := B.notSynchronized
        have hret := B.returns
        have hin : meth.name = "<init>" := by rw [← hnn]; exact (name_of_methodNamed B.named B.method).1
        have X : vc_X p l (headSpec (Cond.code y cc ml none :: vg_GW) { frames := fr, cells := c2, slots := s2, locals := lo }).room s m ([Value.ref (vc_ad base o)] : List Value).toArray meth c y.cls cc ml D dA base cs aw.length c2 s2 true := ⟨B.exec, B.bytes, hmlx, hown, hts, hE, hsz, fun _ => hin, hcs, hfr, hlo, Nat.le_refl _, Nat.le_refl _, hms, hb3⟩
        rw [lg_entry_eq]
        have hl := vg_entry (vc_ad base) [.ref o] ml (by rw [vg_sl_len]; exact hml)
        obtain ⟨q, nx, hq, hq0⟩ := hc0
        subst hq
        have := vc_run_sound (e := e) (below := below) (Q := MQ below (vc_Q D dA base aw') _ s c2 s2 (fun q => base.1 ≤ q)) X hcd hch (Nat.le_refl _) ⟨Nat.le_refl _, Nat.le_refl _⟩ (fun q2 H locs ls hok hop hl hP hS => by
          obtain ⟨pc, op, len, a, b, c0, z⟩ := q2
          have hop : op = .return_ := hop
          subst hop
          obtain ⟨hdg, hln, -, -⟩ := vc_ok_spec hok
          have hln : len = 1 := hln
          subst hln
          exact W.vret B.exec B.bytes hret (fun t ht _ => ⟨⟨rfl, by rw [ht]; exact hP⟩, hS.F ht⟩) hS.2.2 hdg) 400 q nx _ [] aw 0 0 s.heap [] _ hcd hch rfl hr hl hP va_S.rf
        rw [hq0] at this
        exact this
      · cases h
    · cases h
/-! from a made world to the walker's -/
def vc_s0 (aw : vc_W) : vg_S := (fun k i => match vg_nth aw k with
  | some (.inr (_, fs)) => (match vg_nth fs i with
    | some (.int x) => x
    | _ => 0)
  | _ => 0, fun _ _ => 0)
def vc_lf : List Value → List Nat → Bool
  | [], [] => true
  | .int _ :: r, 0 :: t => vc_lf r t
  | .long x :: r, 1 :: t => decide (x = 0) && vc_lf r t
  | .ref k :: r, (n + 2) :: t => Nat.beq k n && vc_lf r t
  | _, _ => false
def vc_like : vc_W → List vg_C → Bool
  | [], [] => true
  | .inl (0, n, _) :: r, .inl (0, n', _) :: t => Nat.beq n n' && vc_like r t
  | .inl (1, n, _) :: r, .inl (1, n', _) :: t => Nat.beq n n' && vc_like r t
  | .inl (a + 2, n, rs) :: r, .inl (a' + 2, n', rs') :: t => Nat.beq a a' && Nat.beq n n' && decide (rs = rs'.map some) && vc_like r t
  | .inr (ci, fs) :: r, .inr (ci', ks) :: t => Nat.beq ci ci' && vc_lf fs ks && vc_like r t
  | _, _ => false
theorem vc_lf_eq (ad : Nat → Nat) (f : Nat → Int32) (g : Nat → Int64) : ∀ (fs : List Value) (ks : List Nat) (i : Nat), vc_lf fs ks = true → (∀ j x, vg_nth fs j = some (.int x) → f (i + j) = x) → (∀ j, g j = 0) → fs.map (vg_cv ad) = vg_fl ad f g i ks
  | [], [], i, h, hf, hg => rfl
  | .int x :: r, 0 :: t, i, h, hf, hg => by
    have h1 := hf 0 x rfl
    have := vc_lf_eq ad f g r t (i + 1) h (fun j x hj => by have := hf (j + 1) x hj; rw [Nat.add_assoc, Nat.add_comm 1 j]; exact this) hg
    simp only [List.map_cons, vg_fl, this]
    simp only [vg_cv, vg_fv]
    rw [show f i = x from h1]
  | .long x :: r, 1 :: t, i, h, hf, hg => by
    simp only [vc_lf, Bool.and_eq_true, decide_eq_true_eq] at h
    have := vc_lf_eq ad f g r t (i + 1) h.2 (fun j x hj => by have := hf (j + 1) x hj; rw [Nat.add_assoc, Nat.add_comm 1 j]; exact this) hg
    simp only [List.map_cons, vg_fl, this]
    simp only [vg_cv, vg_fv]
    rw [hg i, h.1]
  | .ref k :: r, (n + 2) :: t, i, h, hf, hg => by
    simp only [vc_lf, Bool.and_eq_true] at h
    have hk := Nat.eq_of_beq_eq_true h.1
    subst hk
    have := vc_lf_eq ad f g r t (i + 1) h.2 (fun j x hj => by have := hf (j + 1) x hj; rw [Nat.add_assoc, Nat.add_comm 1 j]; exact this) hg
    simp only [List.map_cons, vg_fl, this]
    rfl
theorem vc_join (ad : Nat → Nat) (o : Option Nat) : Option.map ad (Option.map some o).join = Option.map ad o := by cases o <;> rfl
theorem vc_like_tl {c : vc_C} {d : vg_C} {r : vc_W} {t : List vg_C} (h : vc_like (c :: r) (d :: t) = true) : vc_like r t = true := by
  unfold vc_like at h
  split at h
  · rename_i e1 e2
    cases e1
  all_goals (try (rename_i e1 e2; cases e1; cases e2))
  all_goals (try (simp only [Bool.and_eq_true] at h))
  all_goals first | exact h.2 | (cases h)
theorem vc_like_eq (dA : Nat → ClassId) (ad : Nat → Nat) (σ : vg_S) (hz : ∀ k i, σ.2 k i = 0) : ∀ (aw : vc_W) (sh : List vg_C) (i : Nat), vc_like aw sh = true → (∀ j, (∀ ci fs, vg_nth aw j = some (.inr (ci, fs)) → ∀ a x, vg_nth fs a = some (.int x) → σ.1 (i + j) a = x) ∧ (∀ q, vg_nth aw j = some (.inl q) → ∀ a, σ.1 (i + j) a = 0)) → vc_cw dA ad i aw = vg_cw dA ad σ i sh
  | [], [], i, h, hs => rfl
  | c :: r, d :: t, i, h, hs => by
    have h0 := hs 0
    have hr : vc_like r t = true := vc_like_tl h
    have ih := vc_like_eq dA ad σ hz r t (i + 1) hr (fun j => by have := hs (j + 1); rw [Nat.add_assoc, Nat.add_comm 1 j]; exact this)
    simp only [vc_cw, vg_cw, ih]
    congr 2
    unfold vc_like at h
    split at h
    · rename_i e1 e2
      cases e1
    · rename_i e1 e2
      cases e1
      cases e2
      simp only [Bool.and_eq_true] at h
      have hn := Nat.eq_of_beq_eq_true h.1
      subst hn
      have := h0.2 _ rfl
      simp only [vc_ce, vg_ce]
      rw [show (fun (_ : Nat) => (0 : Int32)) = σ.1 i from funext fun a => (this a).symm]
    · rename_i e1 e2
      cases e1
      cases e2
      simp only [Bool.and_eq_true] at h
      have hn := Nat.eq_of_beq_eq_true h.1
      subst hn
      simp only [vc_ce, vg_ce]
      rw [show (fun (_ : Nat) => (0 : Int64)) = σ.2 i from funext fun a => (hz i a).symm]
    · rename_i e1 e2
      cases e1
      cases e2
      simp only [Bool.and_eq_true, decide_eq_true_eq] at h
      obtain ⟨⟨⟨ha, hn⟩, hrs⟩, -⟩ := h
      have ha := Nat.eq_of_beq_eq_true ha
      have hn := Nat.eq_of_beq_eq_true hn
      subst ha
      subst hn
      subst hrs
      simp only [vc_ce, vg_ce]
      simp only [List.getElem?_map]
      congr 7
      funext j
      exact vc_join ad _
    · rename_i e1 e2
      cases e1
      cases e2
      simp only [Bool.and_eq_true] at h
      have hc := Nat.eq_of_beq_eq_true h.1.1
      subst hc
      simp only [vc_ce, vg_ce]
      congr 2
      exact vc_lf_eq ad _ _ _ _ 0 h.1.2 (fun j x hj => by rw [Nat.zero_add]; exact h0.1 _ _ rfl j x hj) (fun j => hz i j)
    · cases h
  | [], d :: t, i, h, hs => by cases d <;> cases h
  | c :: r, [], i, h, hs => by
    rcases c with ⟨_ | _ | _, _, _⟩ | ⟨_, _⟩ <;> simp [vc_like] at h
