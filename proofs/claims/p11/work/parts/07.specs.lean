/-! contracts -/
set_option maxRecDepth 100000 in
theorem vg_cpw_in : ∀ w ∈ vg_cpw, w ∈ vg_GW := by
  intro w hw
  simp only [vg_cpw, List.mem_cons, List.not_mem_nil, or_false] at hw
  rcases hw with rfl | rfl | rfl
  · exact vg_inGW (i := 947) rfl rfl
  · exact vg_inGW (i := 946) rfl rfl
  · exact vg_inGW (i := 88) rfl rfl
def r_J9_max_7cf53 : vg_R := ((yJ9_max_7cf53, cJ9_max_7cf53, 2, (some .int), 0, 0, 1, [], true), (fun as σ => ∃ (a1 : Int32) (a2 : Int32), as = [.int a1, .int a2] ∧ True), (fun as σ v σ' => match as, v with
  | [.int a1, .int a2], some (.int v) => σ' = σ ∧ (a1.toInt ≤ v.toInt ∧ a2.toInt ≤ v.toInt ∧ (v.toInt = a1.toInt ∨ v.toInt = a2.toInt))
  | _, _ => False))
set_option maxRecDepth 100000 in
theorem k_J9_max_7cf53 : vg_rok r_J9_max_7cf53 := ⟨vg_inGW (i := 671) rfl rfl, vg_inGW (i := 87) rfl rfl, ⟨by decide, by decide⟩, vg_mathPlain rfl (by decide), vg_inGW (i := 670) rfl rfl⟩
def r_J9_min_7cf53 : vg_R := ((yJ9_min_7cf53, cJ9_min_7cf53, 2, (some .int), 0, 0, 1, [], true), (fun as σ => ∃ (a1 : Int32) (a2 : Int32), as = [.int a1, .int a2] ∧ True), (fun as σ v σ' => match as, v with
  | [.int a1, .int a2], some (.int v) => σ' = σ ∧ (v.toInt ≤ a1.toInt ∧ v.toInt ≤ a2.toInt ∧ (v.toInt = a1.toInt ∨ v.toInt = a2.toInt))
  | _, _ => False))
set_option maxRecDepth 100000 in
theorem k_J9_min_7cf53 : vg_rok r_J9_min_7cf53 := ⟨vg_inGW (i := 640) rfl rfl, vg_inGW (i := 87) rfl rfl, ⟨by decide, by decide⟩, vg_mathPlain rfl (by decide), vg_inGW (i := 639) rfl rfl⟩
def r_X4_clear : vg_R := ((yX4_clear, cX4_clear, 1, none, 0, 0, 0, [], false), (fun as σ => ∃ (r : Nat), as = [.ref r] ∧ r ∈ ([41, 43, 45, 47, 49, 51, 53] : List Nat) ∧ Iv σ), (fun as σ v σ' => match as, v with
  | [.ref r], none => Iv σ' ∧ Kp σ σ' ∧ (True)
  | _, _ => False))
set_option maxRecDepth 100000 in
theorem k_X4_clear : vg_rok r_X4_clear := ⟨vg_inGW (i := 495) rfl rfl, vg_inGW (i := 84) rfl rfl, ⟨by decide, by decide⟩, plainFor_of_name (by decide), ⟨vg_inGW (i := 493) rfl rfl, vg_inGW (i := 494) rfl rfl⟩⟩
def r_X4_get : vg_R := ((yX4_get, cX4_get, 2, (some .int), 0, 0, 1, [], false), (fun as σ => ∃ (r : Nat) (a1 : Int32), as = [.ref r, .int a1] ∧ r ∈ ([41, 43, 45, 47, 49, 51, 53] : List Nat) ∧ Iv σ), (fun as σ v σ' => match as, v with
  | [.ref r, .int a1], some (.int v) => σ' = σ ∧ (True)
  | _, _ => False))
set_option maxRecDepth 100000 in
theorem k_X4_get : vg_rok r_X4_get := ⟨vg_inGW (i := 791) rfl rfl, vg_inGW (i := 84) rfl rfl, ⟨by decide, by decide⟩, plainFor_of_name (by decide), ⟨vg_inGW (i := 789) rfl rfl, vg_inGW (i := 790) rfl rfl⟩⟩
def r_X4_put : vg_R := ((yX4_put, cX4_put, 2, none, 1, 21, 0, [], false), (fun as σ => ∃ (r : Nat) (a1 : Int32), as = [.ref r, .int a1] ∧ r ∈ ([41, 43, 45, 47, 49, 51, 53] : List Nat) ∧ Iv σ), (fun as σ v σ' => match as, v with
  | [.ref r, .int a1], none => Iv σ' ∧ Kp σ σ' ∧ (True)
  | _, _ => False))
set_option maxRecDepth 100000 in
theorem k_X4_put : vg_rok r_X4_put := ⟨vg_inGW (i := 637) rfl rfl, vg_inGW (i := 84) rfl rfl, ⟨by decide, by decide⟩, plainFor_of_name (by decide), ⟨vg_inGW (i := 635) rfl rfl, vg_inGW (i := 636) rfl rfl⟩⟩
