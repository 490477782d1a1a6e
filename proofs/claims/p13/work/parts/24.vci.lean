
theorem vc_cls {b : Nat} {q : vw_C} (h : vg_nth vwCl b = some q) : ∀ k, k < q.2.2 → parseFieldDescriptor (q.2.1 k).2.2.1 = some (vc_ty b k) := by
  match b, h with
  | 0, h => cases h; exact tyX0_ok
  | 1, h => cases h; exact tyX1_ok
  | 2, h => cases h; exact tyX2_ok
  | 3, h => cases h; exact tyX3_ok
  | 4, h => cases h; exact tyX4_ok
  | 5, h => cases h; exact tyX5_ok
  | 6, h => cases h; exact tyX6_ok
  | 7, h => cases h; exact tyX7_ok
  | 8, h => cases h; exact tyX8_ok
  | 9, h => cases h; exact tyX9_ok
  | 10, h => cases h; exact tyX10_ok
  | 11, h => cases h; exact tyX11_ok
  | n + 12, h => cases h
theorem vc_dv (ad : Nat → Nat) (t : FieldType) : vg_cv ad (defaultValue t) = defaultValue t := by cases t <;> rfl
theorem vc_fs_at (b N : Nat) (ad : Nat → Nat) {T : u_T} (_ : ∀ k, k < N → parseFieldDescriptor (T k).2.2.1 = some (vc_ty b k)) (j : Nat) (hj : j < N) : defaultValue (vc_ty b j) = vp_V ((vc_fs b N).map (vg_cv ad)) j := by
  simp [vp_V, vc_fs, hj, vc_dv]
set_option maxRecDepth 100000 in
theorem vc_oi : Cond.instanceMethod objectInit ∈ vg_GW ∧ Cond.code objectInit ⟨#[0xb1]⟩ 1 none ∈ vg_GW := ⟨vg_inGW (i := 96) rfl rfl, vg_inGW (i := 97) rfl rfl⟩
def vc_go (j : Option Nat) (d : Nat) : Nat := match j with
  | none => d
  | some t => t
section VCI
variable {p : Program} {l : Launch} {e : Env} {R : Room} {s : State} {m : MethodId} {args : Array Value} {below : List Frame} {meth : Method} {c : Code} {Q : State → Prop}
variable {own : String} {cc : ByteArray} {nL : Nat} {D : va_G} {dA : Nat → ClassId} {base : Nat × (Nat → Nat)} {cs : List vc_R}
set_option maxHeartbeats 4000000 in
theorem vc_i_sound {H : Heap} {locs : List Loc} {ls : Array Slot} {pc len a b c0 n0 mc ms : Nat} {op : Instr} {z : Int} {L L' : vg_L} {st st' : List Value} {aw aw' : vc_W} {nc ns nc' ns' : Nat} {j : Option Nat} {ini : Bool} (X : vc_X p l R s m args meth c own cc nL D dA base cs n0 mc ms ini) (hok : vc_ok own cc cs ini (pc, op, len, a, b, c0, z) = true)
    (hl : vg_lr (vc_ad base) ls nL L) (hP : vc_P D dA base aw H) (hS : va_S (fun q => base.1 ≤ q) s.heap H locs) (hn : aw.length = n0 + nc) (hi : vc_i cs (pc, op, len, a, b, c0, z) L st aw nc ns = some (j, L', st', aw', nc', ns')) (hnc : nc ≤ nc') (hbm : nc' ≤ mc) (hbd : nc' ≤ R.cells ∧ ns' ≤ R.slots)
    (kk : ∀ H locs ls, vg_lr (vc_ad base) ls nL L' → vc_P D dA base aw' H → va_S (fun q => base.1 ≤ q) s.heap H locs → W p l e R s m args below meth c H locs nc' ns' Q (F0 m (vc_go j (pc + len)) ls (st'.map (vg_cv (vc_ad base))))) : W p l e R s m args below meth c H locs nc ns Q (F0 m pc ls (st.map (vg_cv (vc_ad base)))) := by
  refine vc_le (fun hle => ?_)
  obtain ⟨hx, hb, hml, hown, hts, hE, hs0, hin, hcs, hfr1, hlo1, hmc, hms, hmx, h100⟩ := id X
  have hawl : aw.length ≤ 99 := by omega
  have had : vc_ad base aw.length = base.1 + aw.length := vc_ad_lt base (by omega)
  have hsz := vc_size hawl hP hS hs0 hn hle
  obtain ⟨hdg, hln, hlk, htg⟩ := vc_ok_spec hok
  cases op with
  | iconst i =>
    have hln : len = 1 := hln
    subst hln
    simp only [vc_i, Option.some.injEq, Prod.mk.injEq] at hi
    obtain ⟨rfl, rfl, rfl, rfl, rfl, rfl⟩ := hi
    exact lv_iconst hx hb hdg rfl (kk H locs ls hl hP hS)
  | bipush i =>
    have hln : len = 2 := hln
    subst hln
    simp only [vc_i, Option.some.injEq, Prod.mk.injEq] at hi
    obtain ⟨rfl, rfl, rfl, rfl, rfl, rfl⟩ := hi
    exact lv_bipush hx hb hdg (of_decide_eq_true hlk) (kk H locs ls hl hP hS)
  | sipush i =>
    have hln : len = 3 := hln
    subst hln
    simp only [vc_i, Option.some.injEq, Prod.mk.injEq] at hi
    obtain ⟨rfl, rfl, rfl, rfl, rfl, rfl⟩ := hi
    exact lv_sipush hx hb hdg (of_decide_eq_true hlk) (kk H locs ls hl hP hS)
  | ldc i =>
    have hln : len = 2 := hln
    subst hln
    simp only [vc_i, Option.some.injEq, Prod.mk.injEq] at hi
    obtain ⟨rfl, rfl, rfl, rfl, rfl, rfl⟩ := hi
    exact lv_ldc hx hb hown (hts _ (vg_wd_in hlk)) hdg (kk H locs ls hl hP hS)
  | aload_n i =>
    have hln : len = 1 := hln
    subst hln
    simp only [vc_i] at hi
    split at hi
    · rename_i x hxx
      simp only [Option.some.injEq, Prod.mk.injEq] at hi
      obtain ⟨rfl, rfl, rfl, rfl, rfl, rfl⟩ := hi
      exact lv_aload_n hx hb hdg rfl (hl.at hxx) (kk H locs ls hl hP hS)
    · cases hi
  | iload_n i =>
    have hln : len = 1 := hln
    subst hln
    simp only [vc_i] at hi
    split at hi
    · rename_i x hxx
      simp only [Option.some.injEq, Prod.mk.injEq] at hi
      obtain ⟨rfl, rfl, rfl, rfl, rfl, rfl⟩ := hi
      exact lv_iload_n hx hb hdg rfl (hl.at hxx) (kk H locs ls hl hP hS)
    · cases hi
  | istore_n i =>
    have hln : len = 1 := hln
    subst hln
    simp only [vc_i] at hi
    split at hi
    · rename_i hxx
      simp only [Option.some.injEq, Prod.mk.injEq] at hi
      obtain ⟨rfl, rfl, rfl, rfl, rfl, rfl⟩ := hi
      exact lv_istore_n (nL := nL) hx hb hdg rfl hl.1 (by rw [← hl.2]; exact vg_nth_lt hxx) rfl (fun ls' hl' => kk H locs ls' (hl.s1 (v := (.int _)) hl') hP hS)
    · cases hi
  | astore_n i =>
    have hln : len = 1 := hln
    subst hln
    simp only [vc_i] at hi
    split at hi
    · rename_i hxx
      simp only [Option.some.injEq, Prod.mk.injEq] at hi
      obtain ⟨rfl, rfl, rfl, rfl, rfl, rfl⟩ := hi
      exact lv_astore_n (nL := nL) hx hb hdg rfl hl.1 (by rw [← hl.2]; exact vg_nth_lt hxx) rfl (fun ls' hl' => kk H locs ls' (hl.s1 (v := (.ref _)) hl') hP hS)
    · cases hi
  | iinc i n =>
    have hln : len = 3 := hln
    subst hln
    simp only [vc_i] at hi
    split at hi
    · rename_i x hxx
      simp only [Option.some.injEq, Prod.mk.injEq] at hi
      obtain ⟨rfl, rfl, rfl, rfl, rfl, rfl⟩ := hi
      obtain ⟨k, hk⟩ := List.getElem?_of_mem (vg_la_in (vc_ad base) L 0 i (.int x) hxx)
      rw [Nat.zero_add] at hk
      exact lv_iinc (nL := nL) (k := k) (x := x) hx hb hdg hl.1 hk rfl (by rw [← hl.2]; exact vg_nth_lt hxx) rfl (fun ls' hl' => kk H locs ls' (hl.s1 (v := .int _) hl') hP hS)
    · cases hi
  | dup =>
    have hln : len = 1 := hln
    subst hln
    simp only [vc_i] at hi
    split at hi
    · simp only [Option.some.injEq, Prod.mk.injEq] at hi
      obtain ⟨rfl, rfl, rfl, rfl, rfl, rfl⟩ := hi
      exact lv_dup hx hb hdg rfl (kk H locs ls hl hP hS)
    · cases hi
  | goto off =>
    have hln : len = 3 := hln
    subst hln
    have htq : 0 ≤ (pc : Int) + off := of_decide_eq_true htg
    simp only [vc_i, Option.some.injEq, Prod.mk.injEq] at hi
    obtain ⟨rfl, rfl, rfl, rfl, rfl, rfl⟩ := hi
    exact lv_goto hx hb hdg (Int.toNat_of_nonneg htq).symm (kk H locs ls hl hP hS)
  | if_icmp cd off =>
    have hln : len = 3 := hln
    subst hln
    have htq : 0 ≤ (pc : Int) + off := of_decide_eq_true htg
    clear htg
    cases cd with
    | ge =>
      simp only [vc_i] at hi
      split at hi
      · split at hi
        · rename_i hd
          have hd := of_decide_eq_true hd
          simp only [Option.some.injEq, Prod.mk.injEq] at hi
          obtain ⟨rfl, rfl, rfl, rfl, rfl, rfl⟩ := hi
          exact lv_icmp_ge (tgt := ((pc : Int) + off).toNat) hx hb hdg (Int.toNat_of_nonneg htq).symm (fun _ => kk H locs ls hl hP hS) (fun q => absurd (vg_b_icmp_ge.mpr hd) q)
        · rename_i hd
          have hd := of_decide_eq_false hd
          simp only [Option.some.injEq, Prod.mk.injEq] at hi
          obtain ⟨rfl, rfl, rfl, rfl, rfl, rfl⟩ := hi
          exact lv_icmp_ge (tgt := ((pc : Int) + off).toNat) hx hb hdg (Int.toNat_of_nonneg htq).symm (fun q => absurd (vg_b_icmp_ge.mp q) hd) (fun _ => kk H locs ls hl hP hS)
      · cases hi
    | _ => cases hi
  | newarray t =>
    have hln : len = 2 := hln
    subst hln
    simp only [vc_i] at hi
    split at hi
    · split at hi
      · rename_i hd
        have hd := of_decide_eq_true hd
        simp only [Option.some.injEq, Prod.mk.injEq] at hi
        obtain ⟨rfl, rfl, rfl, rfl, rfl, rfl⟩ := hi
        refine va_newaK (atype := .int) hx hb (hts _ (vg_wd_in hlk)) rfl hdg rfl (vg_nn hd) rfl (by have h8 := hbd.2; have h7 := hmx; simp only [componentBytes, newarray.typeOf]; omega) hbd.1 hbd.2 rfl (fun H1 cA e1 z1 o1 hAr hNm => ?_)
        have hcA : cA = dA 0 := by
          have h9 : s.vm.findClass ("[" ++ (FieldType.int).toString) = some (dA 0) := (hE.1.2 0 _ rfl).2
          exact Option.some.inj (hNm.symm.trans h9)
        subst hcA
        have hnw := vc_new (cc' := .inl (0, _, [])) hP hS z1 o1 (by show H1[vc_ad base aw.length]? = some (vp_cell _ _); rw [show vc_ad base aw.length = H.size from had.trans hsz.symm]; exact e1)
        have hq : (Value.ref H.size) = vg_cv (vc_ad base) (.ref aw.length) := by rw [hsz, ← had]; rfl
        rw [hq]
        exact kk H1 locs ls hl hnw.1 hnw.2
      · cases hi
    · split at hi
      · rename_i hd
        have hd := of_decide_eq_true hd
        simp only [Option.some.injEq, Prod.mk.injEq] at hi
        obtain ⟨rfl, rfl, rfl, rfl, rfl, rfl⟩ := hi
        refine va_newaK (atype := .long) hx hb (hts _ (vg_wd_in hlk)) rfl hdg rfl (vg_nn hd) rfl (by have h8 := hbd.2; have h7 := hmx; simp only [componentBytes, newarray.typeOf]; omega) hbd.1 hbd.2 rfl (fun H1 cA e1 z1 o1 hAr hNm => ?_)
        have hcA : cA = dA 1 := by
          have h9 : s.vm.findClass ("[" ++ (FieldType.long).toString) = some (dA 1) := (hE.1.2 1 _ rfl).2
          exact Option.some.inj (hNm.symm.trans h9)
        subst hcA
        have hnw := vc_new (cc' := .inl (1, _, [])) hP hS z1 o1 (by show H1[vc_ad base aw.length]? = some (vp_cell _ _); rw [show vc_ad base aw.length = H.size from had.trans hsz.symm]; exact e1)
        have hq : (Value.ref H.size) = vg_cv (vc_ad base) (.ref aw.length) := by rw [hsz, ← had]; rfl
        rw [hq]
        exact kk H1 locs ls hl hnw.1 hnw.2
      · cases hi
    · cases hi
  | anewarray i =>
    have hln : len = 3 := hln
    subst hln
    simp only [vc_i] at hi
    split at hi
    · rename_i n st
      split at hi
      · rename_i hd
        have hd := of_decide_eq_true hd
        simp only [Option.some.injEq, Prod.mk.injEq] at hi
        obtain ⟨rfl, rfl, rfl, rfl, rfl, rfl⟩ := hi
        simp only [vc_lks] at hlk
        split at hlk
        · refine W.anew (C := "NoiseShaper$Fold") hx hb hown (hts _ (vg_wd_in hlk)) (va_AO.use hE.2.2.1) rfl hdg rfl (vg_nn hd) (by have h8 := hbd.2; have h7 := hmx; omega) hbd.1 hbd.2 (fun cA kA comp f1 f2 f3 f4 => ?_)
          generalize hH1 : H.push ({ cls := cA, slots := Array.replicate n.toNatClampNeg .null, vm := .none } : Cell) = H1
          have z1 : H1.size = H.size + 1 := by rw [← hH1, Array.size_push]
          have e1 : H1[H.size]? = some (arrV cA n.toNatClampNeg (fun _ => .null)) := by rw [← hH1, Array.getElem?_push_size, ← arrV_new]
          have o1 : ∀ q : Nat, q < H.size → H1[q]? = H[q]? := fun q hq => by rw [← hH1, Array.getElem?_push, if_neg (Nat.ne_of_lt hq)]
          have hcA : cA = dA 2 := by
            obtain ⟨-, -, -, -, -, -, h9⟩ := (hE.1.2 2 _ rfl)
            exact Option.some.inj (f1.symm.trans h9)
          subst hcA
          have hnw := vc_new (cc' := .inl (2, n.toNatClampNeg, List.replicate n.toNatClampNeg none)) hP hS z1 o1 (by show H1[vc_ad base aw.length]? = some (vp_cell _ _); rw [show vc_ad base aw.length = H.size from had.trans hsz.symm, ← vc_nil]; exact e1)
          have hq : (Value.ref H.size) = vg_cv (vc_ad base) (.ref aw.length) := by rw [hsz, ← had]; rfl
          rw [hq]
          exact kk H1 locs ls hl hnw.1 hnw.2
        · refine W.anew (C := "NoiseShaper$Latest") hx hb hown (hts _ (vg_wd_in hlk)) (va_AO.use hE.2.2.2) rfl hdg rfl (vg_nn hd) (by have h8 := hbd.2; have h7 := hmx; omega) hbd.1 hbd.2 (fun cA kA comp f1 f2 f3 f4 => ?_)
          generalize hH1 : H.push ({ cls := cA, slots := Array.replicate n.toNatClampNeg .null, vm := .none } : Cell) = H1
          have z1 : H1.size = H.size + 1 := by rw [← hH1, Array.size_push]
          have e1 : H1[H.size]? = some (arrV cA n.toNatClampNeg (fun _ => .null)) := by rw [← hH1, Array.getElem?_push_size, ← arrV_new]
          have o1 : ∀ q : Nat, q < H.size → H1[q]? = H[q]? := fun q hq => by rw [← hH1, Array.getElem?_push, if_neg (Nat.ne_of_lt hq)]
          have hcA : cA = dA 3 := by
            obtain ⟨-, -, -, -, -, -, h9⟩ := (hE.1.2 3 _ rfl)
            exact Option.some.inj (f1.symm.trans h9)
          subst hcA
          have hnw := vc_new (cc' := .inl (3, n.toNatClampNeg, List.replicate n.toNatClampNeg none)) hP hS z1 o1 (by show H1[vc_ad base aw.length]? = some (vp_cell _ _); rw [show vc_ad base aw.length = H.size from had.trans hsz.symm, ← vc_nil]; exact e1)
          have hq : (Value.ref H.size) = vg_cv (vc_ad base) (.ref aw.length) := by rw [hsz, ← had]; rfl
          rw [hq]
          exact kk H1 locs ls hl hnw.1 hnw.2
        · cases hlk
      · cases hi
    · cases hi
  | new i =>
    have hln : len = 3 := hln
    subst hln
    simp only [vc_i, Option.some.injEq, Prod.mk.injEq] at hi
    obtain ⟨rfl, rfl, rfl, rfl, rfl, rfl⟩ := hi
    simp only [vc_lks] at hlk
    split at hlk
    · rename_i q hq
      simp only [Bool.and_eq_true, decide_eq_true_eq] at hlk
      obtain ⟨⟨⟨h1, h2⟩, h3⟩, h4⟩ := hlk
      have hc : c0 = q.2.2 := Nat.eq_of_beq_eq_true h1
      subst hc
      have hq2 : vwCl[b]? = some q := by rw [← vg_nth_eq]; exact hq
      have hcls := vg_cls hq
      have hty := vc_cls hq
      have hKn := hE.1.1 b _ hq2
      have hin4 : Cond.initialized q.1 ∈ vg_GW := List.mem_filter.mpr ⟨List.mem_append_right _ h4, rfl⟩
      refine W.newcK hx hb hown (hts _ (vg_wd_in h2)) (hts _ (vg_wd_in h3)) (hts _ hin4) rfl hdg hbd.1 hbd.2 hKn.2.1 rfl (fun H1 kC hkC e1 z1 o1 => ?_)
      have hnw := vc_new (cc' := .inr (b, vc_fs b q.2.2)) hP hS z1 o1 (by
        refine ⟨q, hq2, ?_⟩
        rw [show (vc_ad base aw.length, vc_ce dA (vc_ad base) (.inr (b, vc_fs b q.2.2))).1 = H.size from had.trans hsz.symm]
        refine (u_born (vc_ty b) hts hcls.1 hKn hkC e1 hty).to (fun j hj => ?_)
        exact vc_fs_at b q.2.2 (vc_ad base) hty j hj)
      have hq3 : (Value.ref H.size) = vg_cv (vc_ad base) (.ref aw.length) := by rw [hsz, ← had]; rfl
      show W _ _ _ _ _ _ _ _ _ _ _ _ _ _ _ (F0 m (pc + 3) ls (Value.ref H.size :: st.map (vg_cv (vc_ad base))))
      rw [hq3]
      exact kk H1 locs ls hl hnw.1 hnw.2
    · cases hlk
  | putfield i =>
    have hln : len = 3 := hln
    subst hln
    simp only [vc_lks] at hlk
    split at hlk
    · rename_i q hq
      simp only [Bool.and_eq_true, decide_eq_true_eq] at hlk
      obtain ⟨⟨⟨⟨hii, hk0⟩, hlw⟩, hdc⟩, hpd⟩ := hlk
      have hnm := hin hii
      have hcls := vg_cls hq
      obtain ⟨ty0, hty⟩ := hcls.2.2
      have hc0 : c0 < q.2.2 := by simpa [Nat.blt_eq] using hk0
      have hq2 : vwCl[b]? = some q := by rw [← vg_nth_eq]; exact hq
      have hD := vc_cw_D dA base aw hawl
      have go : ∀ (v : Value) (r : Nat) (st2 : List Value) (fs : List Value) (ty : FieldType), aw[r]? = some (.inr (b, fs)) → c0 < fs.length → parseFieldDescriptor (q.2.1 c0).2.2.1 = some ty → narrow ty (vg_cv (vc_ad base) v) = vg_cv (vc_ad base) v → fits ty (vg_cv (vc_ad base) v) = true → (∀ H locs ls, vg_lr (vc_ad base) ls nL L → vc_P D dA base (aw.set r (.inr (b, fs.set c0 v))) H → va_S (fun q => base.1 ≤ q) s.heap H locs → W p l e R s m args below meth c H locs nc ns Q (F0 m (pc + 3) ls (st2.map (vg_cv (vc_ad base))))) → W p l e R s m args below meth c H locs nc ns Q (F0 m pc ls ((v :: .ref r :: st2).map (vg_cv (vc_ad base)))) := by
        intro v r st2 fs ty hr hlen hpty hn1 hn2 kk2
        have he : (vc_cw dA (vc_ad base) 0 aw)[r]? = some (vc_ad base r, .inr (b, fs.map (vg_cv (vc_ad base)))) := by
          rw [vc_cw_at, hr]
          simp [vc_ce]
        have fin : ∀ (H1 : Heap) (locs1 : List Loc), va_P D vwCl ((vc_cw dA (vc_ad base) 0 aw).set r (vc_ad base r, .inr (b, (fs.map (vg_cv (vc_ad base))).set c0 (vg_cv (vc_ad base) v)))) H1 → va_S (fun q => base.1 ≤ q) s.heap H1 locs1 → W p l e R s m args below meth c H1 locs1 nc ns Q (F0 m (pc + 3) ls (st2.map (vg_cv (vc_ad base)))) := by
          intro H1 locs1 hP1 hS1
          refine kk2 H1 locs1 ls hl ?_ hS1
          have h9 := vc_cw_set dA (vc_ad base) aw r (.inr (b, fs.set c0 v))
          simp only [vc_ce, List.map_set] at h9
          unfold vc_P
          rw [← h9]
          exact hP1
        cases hfin : (q.2.1 c0).2.2.2 with
        | false => exact va_put (D := D) (C := q.1) (T := q.2.1) (N := q.2.2) hx hb hts hcls.1 ty0 hty hcls.2.1 hown hE.1 hP hD hS r he hq2 c0 hc0 (hts _ (vg_wd_in hlw)) (fun _ h9 => h9) hfin hpty hn1 hn2 (by rw [List.length_map]; exact hlen) hdg (fun H1 locs1 hP1 hD1 hS1 => fin H1 locs1 hP1 hS1)
        | true => exact va_putF (D := D) (C := q.1) (T := q.2.1) (N := q.2.2) hx hb hts hcls.1 ty0 hty hcls.2.1 hown hE.1 hP hD hS r he hq2 c0 hc0 (hts _ (vg_wd_in hlw)) (fun _ h9 => h9) hfin hnm hdc hpty hn1 hn2 (by rw [List.length_map]; exact hlen) hdg (fun H1 locs1 hP1 hD1 hS1 => fin H1 locs1 hP1 hS1)
      simp only [vc_i] at hi
      split at hi
      · rename_i v r st2
        split at hi
        · rename_i ci fs hr
          rw [vg_nth_eq] at hr
          split at hi
          · rename_i x hb2 hlt
            have hb2 := Nat.eq_of_beq_eq_true hb2
            subst hb2
            split at hi
            · simp only [vc_set_eq] at hi
              simp only [Option.some.injEq, Prod.mk.injEq] at hi
              obtain ⟨rfl, rfl, rfl, rfl, rfl, rfl⟩ := hi
              split at hpd
              · rename_i hz hpt
                exact go (.int x) r _ fs .int hr (by simpa [Nat.blt_eq] using hlt) hpt rfl rfl kk
              · rename_i hz hpt
                cases hz
              · cases hpd
            · cases hi
          · rename_i x hb2 hlt
            have hb2 := Nat.eq_of_beq_eq_true hb2
            subst hb2
            split at hi
            · simp only [vc_set_eq] at hi
              simp only [Option.some.injEq, Prod.mk.injEq] at hi
              obtain ⟨rfl, rfl, rfl, rfl, rfl, rfl⟩ := hi
              split at hpd
              · rename_i hz hpt
                cases hz
              · rename_i t hz hpt
                have h6 : narrow t (vg_cv (vc_ad base) (.ref x)) = vg_cv (vc_ad base) (.ref x) ∧ fits t (vg_cv (vc_ad base) (.ref x)) = true := by
                  cases t <;> first | (cases hpd; done) | exact ⟨rfl, rfl⟩
                exact go (.ref x) r _ fs t hr (by simpa [Nat.blt_eq] using hlt) hpt h6.1 h6.2 kk
              · cases hpd
            · cases hi
          · cases hi
        · cases hi
      · cases hi
    · cases hlk
  | getfield i =>
    have hln : len = 3 := hln
    subst hln
    simp only [vc_i] at hi
    split at hi
    · rename_i r st2
      split at hi
      · rename_i ci fs hr
        rw [vg_nth_eq] at hr
        simp only [vc_lks] at hlk
        split at hlk
        · rename_i q hq
          simp only [Bool.and_eq_true] at hlk
          have hcls := vg_cls hq
          have hc0 : c0 < q.2.2 := by simpa [Nat.blt_eq] using hlk.1
          have hq2 : vwCl[b]? = some q := by rw [← vg_nth_eq]; exact hq
          split at hi
          · rename_i x hb2 hk
            have hb2 := Nat.eq_of_beq_eq_true hb2
            subst hb2
            simp only [Option.some.injEq, Prod.mk.injEq] at hi
            obtain ⟨rfl, rfl, rfl, rfl, rfl, rfl⟩ := hi
            have he : (vc_cw dA (vc_ad base) 0 aw)[r]? = some (vc_ad base r, .inr (ci, fs.map (vg_cv (vc_ad base)))) := by
              rw [vc_cw_at, hr]
              simp [vc_ce]
            exact va_get (D := D) (C := q.1) (T := q.2.1) (N := q.2.2) (v := .ref (vc_ad base x)) hx hb hts hcls.1 hown hE.1 hP r he hq2 c0 hc0 (hts _ (vg_wd_in hlk.2)) (fun _ h9 => h9) (by rw [List.getElem?_map, ← vg_nth_eq, hk]; rfl) hdg (kk H locs ls hl hP hS)
          · cases hi
        · cases hlk
      · cases hi
    · cases hi
  | aastore =>
    have hln : len = 1 := hln
    subst hln
    simp only [vc_i] at hi
    split at hi
    · rename_i v i r st2
      split at hi
      · rename_i t n rs ci fs hr hv
        rw [vg_nth_eq] at hr hv
        split at hi
        · rename_i hd hci ht hn
          have hd := of_decide_eq_true hd
          have hci := Nat.eq_of_beq_eq_true hci
          have ht := Nat.le_of_ble_eq_true ht
          have hn := Nat.le_of_ble_eq_true hn
          simp only [vc_set_eq] at hi
          simp only [Option.some.injEq, Prod.mk.injEq] at hi
          obtain ⟨rfl, rfl, rfl, rfl, rfl, rfl⟩ := hi
          have he : (vc_cw dA (vc_ad base) 0 aw)[r]? = some (vc_ad base r, .inl (dA (t + 2), n, .inr (.inr (.inr (.inr (fun j => ((rs[j]?).join).map (vc_ad base))))))) := by
            rw [vc_cw_at, hr]
            simp [vc_ce]
          have hev : (vc_cw dA (vc_ad base) 0 aw)[v]? = some (vc_ad base v, .inr (ci, fs.map (vg_cv (vc_ad base)))) := by
            rw [vc_cw_at, hv]
            simp [vc_ce]
          have hil : i.toNatClampNeg < rs.length := by rw [vg_clamp]; omega
          have fin : ∀ (H1 : Heap) (locs1 : List Loc), va_P D vwCl ((vc_cw dA (vc_ad base) 0 aw).set r (vc_ad base r, .inl (dA (t + 2), n, .inr (.inr (.inr (.inr (va_up (fun j => ((rs[j]?).join).map (vc_ad base)) i.toNatClampNeg (some (vc_ad base v))))))))) H1 → va_S (fun q => base.1 ≤ q) s.heap H1 locs1 → W p l e R s m args below meth c H1 locs1 nc ns Q (F0 m (pc + 1) ls (st2.map (vg_cv (vc_ad base)))) := by
            intro H1 locs1 hP1 hS1
            refine kk H1 locs1 ls hl ?_ hS1
            have h9 := vc_cw_set dA (vc_ad base) aw r (.inl (t + 2, n, rs.set i.toNatClampNeg (some v)))
            simp only [vc_ce] at h9
            unfold vc_P
            rw [← h9, ← vc_up (vc_ad base) rs i.toNatClampNeg v hil]
            exact hP1
          have hin9 : vp_in i n := vg_ix.in ⟨hd.1, hd.2⟩
          rcases (show t = 0 ∨ t = 1 by omega) with rfl | rfl
          · exact va_astq (r := (RX3, TX3, 4)) hx hb hE.1 hP (vc_cw_D dA base aw hawl) hS r 2 v ci he rfl hev (by rw [hci]; rfl) hin9 hdg (fun H1 locs1 hP1 hD1 hS1 => fin H1 locs1 hP1 hS1)
          · exact va_astq (r := (RX4, TX4, 4)) hx hb hE.1 hP (vc_cw_D dA base aw hawl) hS r 3 v ci he rfl hev (by rw [hci]; rfl) hin9 hdg (fun H1 locs1 hP1 hD1 hS1 => fin H1 locs1 hP1 hS1)
        · cases hi
      · cases hi
    · cases hi
  | invokespecial i =>
    have hln : len = 3 := hln
    subst hln
    simp only [vc_i] at hi
    split at hi
    · rename_i o st2
      split at hi
      · rename_i hct
        have hct := Nat.le_of_ble_eq_true hct
        simp only [Option.some.injEq, Prod.mk.injEq] at hi
        obtain ⟨rfl, rfl, rfl, rfl, rfl, rfl⟩ := hi
        have hoi : Cond.instanceMethod objectInit ∈ vg_GW := vc_oi.1
        have hoc : Cond.code objectInit ⟨#[0xb1]⟩ 1 none ∈ vg_GW := vc_oi.2
        exact W.objInit hx hb hown (hts _ (vg_wd_in hlk)) (hts _ hoi) (hts _ hoc) rfl (by rw [hml]; exact hl.1.1) rfl hdg hfr1 (by show 2 * 0 + _ + 12 ≤ _; rw [vg_cat_eq]; omega) (kk H locs ls hl hP hS)
      · cases hi
    · rename_i o st2 hb0
      split at hi
      · rename_i k hk hct
        have hct := Nat.le_of_ble_eq_true hct
        have hmem : k ∈ cs := by rw [vg_nth_eq] at hk; exact List.mem_of_getElem? hk
        split at hi
        · rename_i aw2 hf
          simp only [Option.some.injEq, Prod.mk.injEq] at hi
          obtain ⟨rfl, rfl, rfl, rfl, rfl, rfl⟩ := hi
          simp only [vc_lks, hk] at hlk
          refine vc_call X hsz hdg hl hP hS hmem hct hf hbd ?_ (fun H1 locs1 hP1 hS1 => kk H1 locs1 ls hl hP1 hS1)
          split at hlk
          · exact absurd rfl hb0
          · have h8 := of_decide_eq_true hlk
            exact Or.inl ⟨"NoiseShaper", va_Nw.use (A := args) rfl (hE.2.1 _ (by rw [vg_nth_eq] at h8; exact List.mem_of_getElem? h8))⟩
          · exact Or.inr (hts _ (vg_wd_in hlk))
          · cases hlk
        · cases hi
      · cases hi
    · cases hi
  | _ => cases hi
end VCI
