/-! from a walk to a contract -/
theorem vg_chain_tl {q : vg_I} {r : List vg_I} (h : vg_chain (q :: r) = true) : vg_chain r = true := by
  simp only [vg_chain, Bool.and_eq_true] at h
  exact h.2
theorem vg_chain_hd {q q2 : vg_I} {r : List vg_I} (h : vg_chain (q :: q2 :: r) = true) : q2.1 = q.1 + q.2.2.1 := by
  simp only [vg_chain, Bool.and_eq_true] at h
  exact (Nat.eq_of_beq_eq_true h.1).symm
theorem vg_find_good (f : vg_I → Bool) : ∀ (cd : List vg_I) (t : Nat), cd.all f = true → vg_chain cd = true → (vg_find cd t).all f = true ∧ vg_chain (vg_find cd t) = true ∧ ∀ q r, vg_find cd t = q :: r → q.1 = t
  | [], t, h1, h2 => ⟨rfl, rfl, fun q r h => by cases h⟩
  | q :: r, t, h1, h2 => by
    unfold vg_find
    split
    · rename_i hb
      exact ⟨h1, h2, fun q' r' h => by cases h; exact Nat.eq_of_beq_eq_true hb⟩
    · simp only [List.all_cons, Bool.and_eq_true] at h1
      exact vg_find_good f r t h1.2 (vg_chain_tl h2)
section VGM
variable {p : Program} {l : Launch} {e : Env} {R : Room} {s : State} {m : MethodId} {args : Array Value} {below : List Frame} {meth : Method} {c : Code} {cells slots : Nat} {Q : State → Prop}
variable {own : String} {cc : ByteArray} {nL : Nat} {G : vg_G} {sh : List vg_C} {ro : Nat → Option (Nat × (Nat → Int32))} {cs : List vg_R} {cp : Bool} {rt : Option FieldType} {po : Option Value → vg_S → Prop} {I : Nat → Option vg_V} {cd : List vg_I}
/-- a walk that may end at cuts -/
theorem vg_walk (X : vg_X p l R s m args c cells slots own cc nL G sh ro cs cp) (hsh : ∀ r t n rs, vg_nth sh r = some (.inl (t + 2, n, rs)) → t = 0 ∨ t = 1) (hcd : cd.all (vg_ok own cc cs rt cp) = true) (hch : vg_chain cd = true) (bd : Option Nat)
    (kH : ∀ h iv L σ H locs ls, I h = some iv → iv.2.1 L σ → vg_bd bd (iv.2.2 L σ) → vg_lr G.2.2 ls nL L → vg_P G sh σ H → va_S (vg_A G.2.2 sh.length) s.heap H locs → W p l e R s m args below meth c H locs cells slots Q (F0 m h ls []))
    (kR : ∀ pc op len a b c0 z L v σ H locs ls, vg_ok own cc cs rt cp (pc, op, len, a, b, c0, z) = true → vg_isret op z v → po v σ → vg_lr G.2.2 ls nL L → vg_P G sh σ H → va_S (vg_A G.2.2 sh.length) s.heap H locs → W p l e R s m args below meth c H locs cells slots Q (F0 m pc ls ((v.map (vg_cv G.2.2)).toList))) :
    ∀ (n : Nat) (fl : Bool) (q : vg_I) (nx : List vg_I) (L : vg_L) (st : List Value) (σ : vg_S) (H : Heap) (locs : List Loc) (ls : Array Slot), (q :: nx).all (vg_ok own cc cs rt cp) = true → vg_chain (q :: nx) = true → vg sh ro cs po I cd bd n fl (q :: nx) L st σ → vg_lr G.2.2 ls nL L → vg_P G sh σ H → va_S (vg_A G.2.2 sh.length) s.heap H locs → W p l e R s m args below meth c H locs cells slots Q (F0 m q.1 ls (st.map (vg_cv G.2.2))) := by
  intro n
  induction n with
  | zero => intro fl q nx L st σ H locs ls _ _ h; exact (h : False).elim
  | succ n ih =>
    intro fl q nx L st σ H locs ls h1 h2 h hl hP hS
    have main : vg_ex sh ro cs po (fun L st σ => vg sh ro cs po I cd bd n false nx L st σ) (fun L st σ t => vg sh ro cs po I cd bd n false (vg_find cd t) L st σ) q L st σ → W p l e R s m args below meth c H locs cells slots Q (F0 m q.1 ls (st.map (vg_cv G.2.2))) := by
      intro h
      obtain ⟨pc, op, len, a, b, c0, z⟩ := q
      have h1' := h1
      simp only [List.all_cons, Bool.and_eq_true] at h1'
      refine vg_ex_sound X hsh h1'.1 hl hP hS h (fun L st σ H locs ls hk hl hP hS => ?_) (fun L st σ t H locs ls hk hl hP hS => ?_) (fun v σ H locs ls => kR pc op len a b c0 z L v σ H locs ls)
      · cases nx with
        | nil => cases n <;> exact (hk : False).elim
        | cons q2 r =>
          have he := vg_chain_hd h2
          have := ih false q2 r L st σ H locs ls h1'.2 (vg_chain_tl h2) hk hl hP hS
          rw [he] at this
          exact this
      · have hf := vg_find_good _ cd t hcd hch
        cases hv : vg_find cd t with
        | nil => rw [hv] at hk; cases n <;> exact (hk : False).elim
        | cons q2 r =>
          rw [hv] at hk hf
          have := ih false q2 r L st σ H locs ls hf.1 hf.2.1 hk hl hP hS
          rw [hf.2.2 q2 r rfl] at this
          exact this
    cases fl with
    | true => exact main h
    | false =>
      have h : (match I q.1 with
        | none => vg_ex sh ro cs po (fun L st σ => vg sh ro cs po I cd bd n false nx L st σ) (fun L st σ t => vg sh ro cs po I cd bd n false (vg_find cd t) L st σ) q L st σ
        | some iv => st = [] ∧ iv.2.1 (vg_mask iv.1 L) σ ∧ vg_bd bd (iv.2.2 (vg_mask iv.1 L) σ)) := h
      cases hi : I q.1 with
      | none => rw [hi] at h; exact main h
      | some iv =>
        rw [hi] at h
        obtain ⟨rfl, h3, h4⟩ := h
        exact kH q.1 iv (vg_mask iv.1 L) σ H locs ls hi h3 h4 (hl.mask _) hP hS
theorem vg_loops (X : vg_X p l R s m args c cells slots own cc nL G sh ro cs cp) (hsh : ∀ r t n rs, vg_nth sh r = some (.inl (t + 2, n, rs)) → t = 0 ∨ t = 1) (hcd : cd.all (vg_ok own cc cs rt cp) = true) (hch : vg_chain cd = true) (N : Nat)
    (hI : ∀ h iv, I h = some iv → ∀ L σ, iv.2.1 L σ → vg sh ro cs po I cd (some (iv.2.2 L σ)) N true (vg_find cd h) L [] σ)
    (kR : ∀ pc op len a b c0 z L v σ H locs ls, vg_ok own cc cs rt cp (pc, op, len, a, b, c0, z) = true → vg_isret op z v → po v σ → vg_lr G.2.2 ls nL L → vg_P G sh σ H → va_S (vg_A G.2.2 sh.length) s.heap H locs → W p l e R s m args below meth c H locs cells slots Q (F0 m pc ls ((v.map (vg_cv G.2.2)).toList))) :
    ∀ (k : Nat) h iv L σ H locs ls, I h = some iv → iv.2.1 L σ → iv.2.2 L σ ≤ k → vg_lr G.2.2 ls nL L → vg_P G sh σ H → va_S (vg_A G.2.2 sh.length) s.heap H locs → W p l e R s m args below meth c H locs cells slots Q (F0 m h ls []) := by
  intro k
  induction k using Nat.strongRecOn with
  | ind k ih =>
    intro h iv L σ H locs ls hi h3 hk hl hP hS
    have hw := hI h iv hi L σ h3
    have hf := vg_find_good _ cd h hcd hch
    cases hv : vg_find cd h with
    | nil => rw [hv] at hw; cases N <;> exact (hw : False).elim
    | cons q2 r =>
      rw [hv] at hw hf
      have := vg_walk (e := e) (below := below) (meth := meth) (Q := Q) X hsh hcd hch (some (iv.2.2 L σ)) (fun h' iv' L' σ' H' locs' ls' hi' h3' hb' hl' hP' hS' => ih (iv'.2.2 L' σ') (by have hb' : iv'.2.2 L' σ' < iv.2.2 L σ := hb'; omega) h' iv' L' σ' H' locs' ls' hi' h3' (Nat.le_refl _) hl' hP' hS') kR N true q2 r L [] σ H locs ls hf.1 hf.2.1 hw hl hP hS
      rw [hf.2.2 q2 r rfl] at this
      exact this
/-- a walk from any instruction -/
theorem vg_sound (X : vg_X p l R s m args c cells slots own cc nL G sh ro cs cp) (hsh : ∀ r t n rs, vg_nth sh r = some (.inl (t + 2, n, rs)) → t = 0 ∨ t = 1) (hcd : cd.all (vg_ok own cc cs rt cp) = true) (hch : vg_chain cd = true) (N : Nat)
    (hI : ∀ h iv, I h = some iv → ∀ L σ, iv.2.1 L σ → vg sh ro cs po I cd (some (iv.2.2 L σ)) N true (vg_find cd h) L [] σ)
    (kR : ∀ pc op len a b c0 z L v σ H locs ls, vg_ok own cc cs rt cp (pc, op, len, a, b, c0, z) = true → vg_isret op z v → po v σ → vg_lr G.2.2 ls nL L → vg_P G sh σ H → va_S (vg_A G.2.2 sh.length) s.heap H locs → W p l e R s m args below meth c H locs cells slots Q (F0 m pc ls ((v.map (vg_cv G.2.2)).toList)))
    (n : Nat) (fl : Bool) (q : vg_I) (nx : List vg_I) (L : vg_L) (st : List Value) (σ : vg_S) (H : Heap) (locs : List Loc) (ls : Array Slot) (h1 : (q :: nx).all (vg_ok own cc cs rt cp) = true) (h2 : vg_chain (q :: nx) = true) (h : vg sh ro cs po I cd none n fl (q :: nx) L st σ) (hl : vg_lr G.2.2 ls nL L) (hP : vg_P G sh σ H) (hS : va_S (vg_A G.2.2 sh.length) s.heap H locs) : W p l e R s m args below meth c H locs cells slots Q (F0 m q.1 ls (st.map (vg_cv G.2.2))) :=
  vg_walk X hsh hcd hch none (fun h' iv' L' σ' H' locs' ls' hi' h3' _ hl' hP' hS' => vg_loops X hsh hcd hch N hI kR _ h' iv' L' σ' H' locs' ls' hi' h3' (Nat.le_refl _) hl' hP' hS') kR n fl q nx L st σ H locs ls h1 h2 h hl hP hS
end VGM
theorem vg_sl_len (ad : Nat → Nat) : ∀ as : List Value, (lg_sl (as.map (vg_cv ad))).length = vg_cat as
  | [] => rfl
  | v :: r => by
    have h := vg_sl_len ad r
    have hv := vg_cv_cat ad v
    simp only [List.map_cons, vg_cat, lg_sl, List.flatMap_cons, List.length_append] at h ⊢
    rw [h]
    congr 1
    rw [← hv]
    generalize vg_cv ad v = w
    cases w <;> simp [Value.category]
def vg_rk (rt : Option FieldType) : Nat := match rt with
  | none => 0
  | some .int => 1
  | some .boolean => 1
  | some .long => 2
  | _ => 3
def vg_cpw : List Cond := [.native arraycopyName, .static arraycopyName, .initialized "java/lang/System"]
set_option maxHeartbeats 1000000 in
/-- A METHOD: its code walked gives its contract -/
theorem vg_meth {l : Launch} {G : vg_G} {sh : List vg_C} (hap : ∀ i j, i < sh.length → j < sh.length → G.2.2 i = G.2.2 j → i = j) (hsh : ∀ r t n rs, vg_nth sh r = some (.inl (t + 2, n, rs)) → t = 0 ∨ t = 1) (r : vg_R) (hrok : vg_rok r) (hrk : r.1.2.2.2.2.2.2.1 = vg_rk r.1.2.2.2.1) (hrf : r.1.2.2.2.1 = some (.array .int) → ∀ as σ k σ', r.2.2 as σ (some (.ref k)) σ' → k ∈ r.1.2.2.2.2.2.2.2.1)
    (cd : List vg_I) (cs : List vg_R) (cp : Bool) (hcd : cd.all (vg_ok r.1.1.cls r.1.2.1 cs r.1.2.2.2.1 cp) = true) (hch : vg_chain cd = true) (hc0 : ∃ q nx, cd = q :: nx ∧ q.1 = 0) (hcs : ∀ x ∈ cs, vg_Ct l G sh x ∧ x.1.2.2.2.2.1 + 1 ≤ r.1.2.2.2.2.1 ∧ 8 + (x.1.2.2.1 + 11) + x.1.2.2.2.2.2.1 ≤ r.1.2.2.2.2.2.1) (hcp : cp = true → (1 ≤ r.1.2.2.2.2.1 ∧ 8 + (nativeFrameWords "java/lang/System" "arraycopy" 5 + 11) ≤ r.1.2.2.2.2.2.1) ∧ ∀ w ∈ vg_cpw, w ∈ vg_GW)
    (N : Nat) (h0 : ∀ as σ, r.2.1 as σ → vg_cat as ≤ r.1.2.2.1 ∧ ∃ Il : List (Nat × vg_V), vg sh vg_ro0 cs (r.2.2 as σ) (vg_lkp Il) cd none N true cd (vg_pad r.1.2.2.1 (vg_l0 as)) [] σ ∧ ∀ q ∈ Il, ∀ L σ', q.2.2.1 L σ' → vg sh vg_ro0 cs (r.2.2 as σ) (vg_lkp Il) cd (some (q.2.2.2 L σ')) N true (vg_find cd q.1) L [] σ') : vg_Ct l G sh r := by
  refine ⟨hrok, fun as σ hpre => ?_⟩
  obtain ⟨hcode, hini, hnm, hpl, hst⟩ := id hrok
  obtain ⟨hsz, Il, hw, hI0⟩ := h0 as σ hpre
  have hI := fun h iv (hh : vg_lkp Il h = some iv) => hI0 (h, iv) (vg_lkp_in Il h iv hh)
  refine va_MetF (cc := r.1.2.1) (maxL := r.1.2.2.1) (ret := r.1.2.2.2.1) hpl rfl ?_
  intro p e s m args below meth c s₁ B hml hv
  obtain ⟨rfl, hP, hE⟩ := hv
  have hts0 := atoms_spec (ws := Cond.code r.1.1 r.1.2.1 r.1.2.2.1 r.1.2.2.2.1 :: vg_GW) B.pre
  have hts : ∀ w ∈ vg_GW, w.before _ s = true := fun w hw => hts0 w (List.mem_cons_of_mem _ hw)
  have hown : s.vm.findClass r.1.1.cls = some m.cls := findClass_of_methodNamed B.named
  have hlocks := B.notSynchronized
  have hret := B.returns
  have X : vg_X p l (headSpec (Cond.code r.1.1 r.1.2.1 r.1.2.2.1 r.1.2.2.2.1 :: vg_GW) { frames := r.1.2.2.2.2.1, cells := 0, slots := 0, locals := r.1.2.2.2.2.2.1 }).room s m (as.map (vg_cv G.2.2)).toArray c 0 0 r.1.1.cls r.1.2.1 r.1.2.2.1 G sh vg_ro0 cs cp :=
    ⟨B.exec, B.bytes, hml, hown, hts, hap, hE, fun _ _ h => h, hcs, fun q => ⟨(hcp q).1.1, (hcp q).1.2, hts _ ((hcp q).2 _ (by simp [vg_cpw])), hts _ ((hcp q).2 _ (by simp [vg_cpw])), hts _ ((hcp q).2 _ (by simp [vg_cpw]))⟩, Nat.le_refl _, Nat.le_refl _⟩
  rw [lg_entry_eq]
  have hl := vg_entry G.2.2 as r.1.2.2.1 (by rw [vg_sl_len]; exact hsz)
  obtain ⟨q, nx, hq, hq0⟩ := hc0
  have fin : ∀ pc op len a b c0 z L v σ' H locs ls, vg_ok r.1.1.cls r.1.2.1 cs r.1.2.2.2.1 cp (pc, op, len, a, b, c0, z) = true → vg_isret op z v → r.2.2 as σ v σ' → vg_lr G.2.2 ls r.1.2.2.1 L → vg_P G sh σ' H → va_S (vg_A G.2.2 sh.length) s.heap H locs → W p l e (headSpec (Cond.code r.1.1 r.1.2.1 r.1.2.2.1 r.1.2.2.2.1 :: vg_GW) { frames := r.1.2.2.2.2.1, cells := 0, slots := 0, locals := r.1.2.2.2.2.2.1 }).room s m (as.map (vg_cv G.2.2)).toArray below meth c H locs 0 0 (MQ below (vg_Q G sh r as σ) (as.map (vg_cv G.2.2)).toArray s 0 0 (vg_A G.2.2 sh.length)) (F0 m pc ls ((v.map (vg_cv G.2.2)).toList)) := by
    intro pc op len a b c0 z L v σ' H locs ls hok hir hpo hl hP hS
    obtain ⟨hdg, hln, hlk, -⟩ := vg_ok_spec hok
    have hq : ∀ rf : vg_rf r v, ∀ t : State, t.heap = H → s.WarmedH t.vm → vg_Q G sh r as σ (as.map (vg_cv G.2.2)).toArray s (.returned (v.map (vg_cv G.2.2))) t := fun rf t ht _ => ⟨⟨v, σ', rfl, rf, hpo, by rw [ht]; exact hP⟩, hS.F ht⟩
    unfold vg_isret at hir
    split at hir
    · have hrt : r.1.2.2.2.1 = some .int := of_decide_eq_true hlk
      have hln : len = 1 := hln
      subst hln
      exact W.zret B.exec B.bytes (hret.trans hrt) rfl (hq (by unfold vg_rf; rw [hrk, hrt]; exact ⟨_, rfl⟩)) hS.2.2 hdg
    · have hrt : r.1.2.2.2.1 = some .boolean := of_decide_eq_true hlk
      have hln : len = 1 := hln
      subst hln
      refine W.zret B.exec B.bytes (hret.trans hrt) ?_ (hq (by unfold vg_rf; rw [hrk, hrt]; exact ⟨_, rfl⟩)) hS.2.2 hdg
      rcases hir with rfl | rfl <;> rfl
    · have hrt : r.1.2.2.2.1 = some .long := of_decide_eq_true hlk
      have hln : len = 1 := hln
      subst hln
      exact W.lret B.exec B.bytes (hret.trans hrt) (hq (by unfold vg_rf; rw [hrk, hrt]; exact ⟨_, rfl⟩)) hS.2.2 hdg
    · have hrt : r.1.2.2.2.1 = some (.array .int) := of_decide_eq_true hlk
      have hln : len = 1 := hln
      subst hln
      exact W.aret B.exec B.bytes (hret.trans hrt) (Or.inr ⟨_, rfl⟩) (Or.inr ⟨_, rfl⟩) (hq (by unfold vg_rf; rw [hrk, hrt]; exact ⟨_, hrf hrt _ _ _ _ hpo, rfl⟩)) hS.2.2 hdg
    · have hrt : r.1.2.2.2.1 = none := of_decide_eq_true hlk
      have hln : len = 1 := hln
      subst hln
      exact W.vret B.exec B.bytes (hret.trans hrt) (hq (by unfold vg_rf; rw [hrk, hrt]; rfl)) hS.2.2 hdg
    · exact hir.elim
  subst hq
  have := vg_sound (e := e) (below := below) (meth := meth) X hsh hcd hch N hI fin N true q nx _ [] σ s.heap [] _ hcd hch hw hl hP va_S.rf
  rw [hq0] at this
  exact this
/-- the machine has rows of its own only for Math's members on floats and doubles -/
theorem vg_mathRows : (Jvm.natives.all fun r => r.cls != "java/lang/Math" || ["(D)D", "(DD)D", "(DDD)D", "(F)F", "(FF)F", "(FFF)F"].contains r.desc) = true := by decide +kernel
theorem vg_mathPlain {x : MethodName} (hc : x.cls = "java/lang/Math") (hd : ["(D)D", "(DD)D", "(DDD)D", "(F)F", "(FF)F", "(FFF)F"].contains x.desc = false) : plainFor x = true := by
  unfold plainFor
  rw [Bool.or_eq_true]; right
  rw [Option.isNone_iff_eq_none, NativeRow.find?, List.find?_eq_none]
  intro r hr h
  have := List.all_eq_true.mp vg_mathRows r hr
  simp only [Bool.and_eq_true, beq_iff_eq] at h
  rw [h.1.2, h.2, hc, hd] at this
  simp at this
