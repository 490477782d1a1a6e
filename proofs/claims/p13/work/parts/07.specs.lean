/-! contracts -/
set_option maxRecDepth 100000 in
theorem vg_cpw_in : ∀ w ∈ vg_cpw, w ∈ vg_GW := by
  intro w hw
  simp only [vg_cpw, List.mem_cons, List.not_mem_nil, or_false] at hw
  rcases hw with rfl | rfl | rfl
  · exact vg_inGW (i := 947) rfl rfl
  · exact vg_inGW (i := 946) rfl rfl
  · exact vg_inGW (i := 88) rfl rfl
def r_J9_max_7cf53 : vg_R := ((yJ9_max_7cf53, cJ9_max_7cf53, 2, (some .int), 0, 0, 1, [], true), (fun as σ => ∃ (a1 : Int32) (a2 : Int32), as = [.int a1, .int a2] ∧ True), (fun as σ v σ' => match as, v with
  | [.int a1, .int a2], some (.int v) => σ' = σ ∧ (a1.toInt ≤ v.toInt ∧ a2.toInt ≤ v.toInt ∧ (v.toInt = a1.toInt ∨ v.toInt = a2.toInt))
  | _, _ => False))
set_option maxRecDepth 100000 in
theorem k_J9_max_7cf53 : vg_rok r_J9_max_7cf53 := ⟨vg_inGW (i := 671) rfl rfl, vg_inGW (i := 87) rfl rfl, ⟨by decide, by decide⟩, vg_mathPlain rfl (by decide), vg_inGW (i := 670) rfl rfl⟩
def r_J9_min_7cf53 : vg_R := ((yJ9_min_7cf53, cJ9_min_7cf53, 2, (some .int), 0, 0, 1, [], true), (fun as σ => ∃ (a1 : Int32) (a2 : Int32), as = [.int a1, .int a2] ∧ True), (fun as σ v σ' => match as, v with
  | [.int a1, .int a2], some (.int v) => σ' = σ ∧ (v.toInt ≤ a1.toInt ∧ v.toInt ≤ a2.toInt ∧ (v.toInt = a1.toInt ∨ v.toInt = a2.toInt))
  | _, _ => False))
set_option maxRecDepth 100000 in
theorem k_J9_min_7cf53 : vg_rok r_J9_min_7cf53 := ⟨vg_inGW (i := 640) rfl rfl, vg_inGW (i := 87) rfl rfl, ⟨by decide, by decide⟩, vg_mathPlain rfl (by decide), vg_inGW (i := 639) rfl rfl⟩
def r_J9_abs_0f7a4 : vg_R := ((yJ9_abs_0f7a4, cJ9_abs_0f7a4, 1, (some .int), 0, 0, 1, [], true), (fun as σ => ∃ (a1 : Int32), as = [.int a1] ∧ True), (fun as σ v σ' => match as, v with
  | [.int a1], some (.int v) => σ' = σ ∧ (True)
  | _, _ => False))
set_option maxRecDepth 100000 in
theorem k_J9_abs_0f7a4 : vg_rok r_J9_abs_0f7a4 := ⟨vg_inGW (i := 668) rfl rfl, vg_inGW (i := 87) rfl rfl, ⟨by decide, by decide⟩, vg_mathPlain rfl (by decide), vg_inGW (i := 667) rfl rfl⟩
def r_J9_abs_067f4 : vg_R := ((yJ9_abs_067f4, cJ9_abs_067f4, 2, (some .long), 0, 0, 2, [], true), (fun as σ => ∃ (a1 : Int64), as = [.long a1] ∧ True), (fun as σ v σ' => match as, v with
  | [.long a1], some (.long v) => σ' = σ ∧ (True)
  | _, _ => False))
set_option maxRecDepth 100000 in
theorem k_J9_abs_067f4 : vg_rok r_J9_abs_067f4 := ⟨vg_inGW (i := 717) rfl rfl, vg_inGW (i := 87) rfl rfl, ⟨by decide, by decide⟩, vg_mathPlain rfl (by decide), vg_inGW (i := 716) rfl rfl⟩
def r_J9_max_f86c9 : vg_R := ((yJ9_max_f86c9, cJ9_max_f86c9, 4, (some .long), 0, 0, 2, [], true), (fun as σ => ∃ (a1 : Int64) (a2 : Int64), as = [.long a1, .long a2] ∧ True), (fun as σ v σ' => match as, v with
  | [.long a1, .long a2], some (.long v) => σ' = σ ∧ (True)
  | _, _ => False))
set_option maxRecDepth 100000 in
theorem k_J9_max_f86c9 : vg_rok r_J9_max_f86c9 := ⟨vg_inGW (i := 720) rfl rfl, vg_inGW (i := 87) rfl rfl, ⟨by decide, by decide⟩, vg_mathPlain rfl (by decide), vg_inGW (i := 719) rfl rfl⟩
def r_J9_min_f86c9 : vg_R := ((yJ9_min_f86c9, cJ9_min_f86c9, 4, (some .long), 0, 0, 2, [], true), (fun as σ => ∃ (a1 : Int64) (a2 : Int64), as = [.long a1, .long a2] ∧ True), (fun as σ v σ' => match as, v with
  | [.long a1, .long a2], some (.long v) => σ' = σ ∧ (True)
  | _, _ => False))
set_option maxRecDepth 100000 in
theorem k_J9_min_f86c9 : vg_rok r_J9_min_f86c9 := ⟨vg_inGW (i := 1344) rfl rfl, vg_inGW (i := 87) rfl rfl, ⟨by decide, by decide⟩, vg_mathPlain rfl (by decide), vg_inGW (i := 1343) rfl rfl⟩
def r_J6_bitCount_0f7a4 : vg_R := ((yJ6_bitCount_0f7a4, cJ6_bitCount_0f7a4, 1, (some .int), 0, 0, 1, [], true), (fun as σ => ∃ (a1 : Int32), as = [.int a1] ∧ True), (fun as σ v σ' => match as, v with
  | [.int a1], some (.int v) => σ' = σ ∧ (True)
  | _, _ => False))
set_option maxRecDepth 100000 in
theorem k_J6_bitCount_0f7a4 : vg_rok r_J6_bitCount_0f7a4 := ⟨vg_inGW (i := 995) rfl rfl, vg_inGW (i := 89) rfl rfl, ⟨by decide, by decide⟩, plainFor_of_name (by decide), vg_inGW (i := 994) rfl rfl⟩
def r_J9_floorDiv_7cf53 : vg_R := ((yJ9_floorDiv_7cf53, cJ9_floorDiv_7cf53, 3, (some .int), 0, 0, 1, [], true), (fun as σ => ∃ (a1 : Int32) (a2 : Int32), as = [.int a1, .int a2] ∧ (¬ a2.toInt = 0)), (fun as σ v σ' => match as, v with
  | [.int a1, .int a2], some (.int v) => σ' = σ ∧ (True)
  | _, _ => False))
set_option maxRecDepth 100000 in
theorem k_J9_floorDiv_7cf53 : vg_rok r_J9_floorDiv_7cf53 := ⟨vg_inGW (i := 678) rfl rfl, vg_inGW (i := 87) rfl rfl, ⟨by decide, by decide⟩, vg_mathPlain rfl (by decide), vg_inGW (i := 677) rfl rfl⟩
def r_J9_floorMod_7cf53 : vg_R := ((yJ9_floorMod_7cf53, cJ9_floorMod_7cf53, 3, (some .int), 0, 0, 1, [], true), (fun as σ => ∃ (a1 : Int32) (a2 : Int32), as = [.int a1, .int a2] ∧ (0 < a2.toInt)), (fun as σ v σ' => match as, v with
  | [.int a1, .int a2], some (.int v) => σ' = σ ∧ (0 ≤ v.toInt ∧ v.toInt < a2.toInt)
  | _, _ => False))
set_option maxRecDepth 100000 in
theorem k_J9_floorMod_7cf53 : vg_rok r_J9_floorMod_7cf53 := ⟨vg_inGW (i := 630) rfl rfl, vg_inGW (i := 87) rfl rfl, ⟨by decide, by decide⟩, vg_mathPlain rfl (by decide), vg_inGW (i := 629) rfl rfl⟩
def r_J7_fill_53178 : vg_R := ((yJ7_fill_53178, cJ7_fill_53178, 4, none, 0, 0, 0, [], true), (fun as σ => ∃ (a1 : Nat) (a2 : Int32), as = [.ref a1, .int a2] ∧ a1 ∈ ([15, 9, 10, 11, 28, 29, 30, 5, 6, 24, 25, 36, 38, 40] : List Nat) ∧ Iv σ), (fun as σ v σ' => match as, v with
  | [.ref a1, .int a2], none => Iv σ' ∧ Kp σ σ' ∧ (True)
  | _, _ => False))
set_option maxRecDepth 100000 in
theorem k_J7_fill_53178 : vg_rok r_J7_fill_53178 := ⟨vg_inGW (i := 502) rfl rfl, vg_inGW (i := 86) rfl rfl, ⟨by decide, by decide⟩, plainFor_of_name (by decide), vg_inGW (i := 501) rfl rfl⟩
def r_J7_fill_53178_at34 : vg_R := ((yJ7_fill_53178, cJ7_fill_53178, 4, none, 0, 0, 0, [], true), (fun as σ => ∃ (a1 : Nat) (a2 : Int32), as = [.ref a1, .int a2] ∧ a1 ∈ ([34] : List Nat) ∧ Iv σ), (fun as σ v σ' => match as, v with
  | [.ref a1, .int a2], none => Iv σ' ∧ Kc σ σ' ∧ (∀ j : Nat, j < 2048 → σ'.1 34 j = a2)
  | _, _ => False))
set_option maxRecDepth 100000 in
theorem k_J7_fill_53178_at34 : vg_rok r_J7_fill_53178_at34 := ⟨vg_inGW (i := 502) rfl rfl, vg_inGW (i := 86) rfl rfl, ⟨by decide, by decide⟩, plainFor_of_name (by decide), vg_inGW (i := 501) rfl rfl⟩
def r_J7_fill_d0a16 : vg_R := ((yJ7_fill_d0a16, cJ7_fill_d0a16, 5, none, 0, 0, 0, [], true), (fun as σ => ∃ (a1 : Nat) (a2 : Int64), as = [.ref a1, .long a2] ∧ a1 ∈ ([13, 14] : List Nat) ∧ Iv σ), (fun as σ v σ' => match as, v with
  | [.ref a1, .long a2], none => Iv σ' ∧ Kp σ σ' ∧ (True)
  | _, _ => False))
set_option maxRecDepth 100000 in
theorem k_J7_fill_d0a16 : vg_rok r_J7_fill_d0a16 := ⟨vg_inGW (i := 514) rfl rfl, vg_inGW (i := 86) rfl rfl, ⟨by decide, by decide⟩, plainFor_of_name (by decide), vg_inGW (i := 513) rfl rfl⟩
def r_X10_putTo : vg_R := ((yX10_putTo, cX10_putTo, 2, (some .int), 0, 0, 1, [], true), (fun as σ => ∃ (a1 : Int32) (a2 : Int32), as = [.int a1, .int a2] ∧ True), (fun as σ v σ' => match as, v with
  | [.int a1, .int a2], some (.int v) => σ' = σ ∧ (True)
  | _, _ => False))
set_option maxRecDepth 100000 in
theorem k_X10_putTo : vg_rok r_X10_putTo := ⟨vg_inGW (i := 633) rfl rfl, vg_inGW (i := 74) rfl rfl, ⟨by decide, by decide⟩, plainFor_of_name (by decide), vg_inGW (i := 632) rfl rfl⟩
def r_X10_within : vg_R := ((yX10_within, cX10_within, 3, (some .boolean), 0, 0, 1, [], true), (fun as σ => ∃ (a1 : Int32) (a2 : Int32) (a3 : Int32), as = [.int a1, .int a2, .int a3] ∧ True), (fun as σ v σ' => match as, v with
  | [.int a1, .int a2, .int a3], some (.int v) => σ' = σ ∧ ((v.toInt = 1 ∧ a2.toInt ≤ a1.toInt ∧ a1.toInt ≤ a3.toInt) ∨ (v.toInt = 0 ∧ (a1.toInt < a2.toInt ∨ a3.toInt < a1.toInt)))
  | _, _ => False))
set_option maxRecDepth 100000 in
theorem k_X10_within : vg_rok r_X10_within := ⟨vg_inGW (i := 480) rfl rfl, vg_inGW (i := 74) rfl rfl, ⟨by decide, by decide⟩, plainFor_of_name (by decide), vg_inGW (i := 479) rfl rfl⟩
def r_X10_isNumber : vg_R := ((yX10_isNumber, cX10_isNumber, 1, (some .boolean), 1, 22, 1, [], true), (fun as σ => ∃ (a1 : Int32), as = [.int a1] ∧ True), (fun as σ v σ' => match as, v with
  | [.int a1], some (.int v) => σ' = σ ∧ ((v.toInt = 1 ∧ -30000 ≤ a1.toInt ∧ a1.toInt ≤ 30000) ∨ (v.toInt = 0 ∧ (a1.toInt < -30000 ∨ 30000 < a1.toInt)))
  | _, _ => False))
set_option maxRecDepth 100000 in
theorem k_X10_isNumber : vg_rok r_X10_isNumber := ⟨vg_inGW (i := 483) rfl rfl, vg_inGW (i := 74) rfl rfl, ⟨by decide, by decide⟩, plainFor_of_name (by decide), vg_inGW (i := 482) rfl rfl⟩
def r_X10_isTap : vg_R := ((yX10_isTap, cX10_isTap, 1, (some .boolean), 1, 22, 1, [], true), (fun as σ => ∃ (a1 : Int32), as = [.int a1] ∧ True), (fun as σ v σ' => match as, v with
  | [.int a1], some (.int v) => σ' = σ ∧ ((v.toInt = 1 ∧ -999 ≤ a1.toInt ∧ a1.toInt ≤ 999) ∨ (v.toInt = 0 ∧ (a1.toInt < -999 ∨ 999 < a1.toInt)))
  | _, _ => False))
set_option maxRecDepth 100000 in
theorem k_X10_isTap : vg_rok r_X10_isTap := ⟨vg_inGW (i := 578) rfl rfl, vg_inGW (i := 74) rfl rfl, ⟨by decide, by decide⟩, plainFor_of_name (by decide), vg_inGW (i := 577) rfl rfl⟩
def r_X10_isStage : vg_R := ((yX10_isStage, cX10_isStage, 1, (some .boolean), 1, 22, 1, [], true), (fun as σ => ∃ (a1 : Int32), as = [.int a1] ∧ True), (fun as σ v σ' => match as, v with
  | [.int a1], some (.int v) => σ' = σ ∧ ((v.toInt = 1 ∧ 0 ≤ a1.toInt ∧ a1.toInt ≤ 6) ∨ (v.toInt = 0 ∧ (a1.toInt < 0 ∨ 6 < a1.toInt)))
  | _, _ => False))
set_option maxRecDepth 100000 in
theorem k_X10_isStage : vg_rok r_X10_isStage := ⟨vg_inGW (i := 611) rfl rfl, vg_inGW (i := 74) rfl rfl, ⟨by decide, by decide⟩, plainFor_of_name (by decide), vg_inGW (i := 610) rfl rfl⟩
def r_X8_isKind : vg_R := ((yX8_isKind, cX8_isKind, 1, (some .boolean), 1, 22, 1, [], true), (fun as σ => ∃ (a1 : Int32), as = [.int a1] ∧ True), (fun as σ v σ' => match as, v with
  | [.int a1], some (.int v) => σ' = σ ∧ ((v.toInt = 1 ∧ 0 ≤ a1.toInt ∧ a1.toInt ≤ 3) ∨ (v.toInt = 0 ∧ (a1.toInt < 0 ∨ 3 < a1.toInt)))
  | _, _ => False))
set_option maxRecDepth 100000 in
theorem k_X8_isKind : vg_rok r_X8_isKind := ⟨vg_inGW (i := 603) rfl rfl, vg_inGW (i := 80) rfl rfl, ⟨by decide, by decide⟩, plainFor_of_name (by decide), vg_inGW (i := 602) rfl rfl⟩
def r_X0_forget : vg_R := ((yX0_forget, cX0_forget, 1, none, 0, 0, 0, [], false), (fun as σ => ∃ (r : Nat), as = [.ref r] ∧ r ∈ ([20] : List Nat) ∧ Iv σ), (fun as σ v σ' => match as, v with
  | [.ref r], none => Iv σ' ∧ K_X0_forget σ σ' ∧ ((σ'.1 20 1).toInt = 0)
  | _, _ => False))
set_option maxRecDepth 100000 in
theorem k_X0_forget : vg_rok r_X0_forget := ⟨vg_inGW (i := 539) rfl rfl, vg_inGW (i := 81) rfl rfl, ⟨by decide, by decide⟩, plainFor_of_name (by decide), ⟨vg_inGW (i := 537) rfl rfl, vg_inGW (i := 538) rfl rfl⟩⟩
def r_X0_add : vg_R := ((yX0_add, cX0_add, 3, none, 1, 31, 0, [], false), (fun as σ => ∃ (r : Nat) (a1 : Int32), as = [.ref r, .int a1] ∧ r ∈ ([20] : List Nat) ∧ Iv σ), (fun as σ v σ' => match as, v with
  | [.ref r, .int a1], none => Iv σ' ∧ K_X0_add σ σ' ∧ (vg_adk (σ.1 20 1).toInt (σ.1 21) a1 (σ'.1 20 1).toInt (σ'.1 21))
  | _, _ => False))
set_option maxRecDepth 100000 in
theorem k_X0_add : vg_rok r_X0_add := ⟨vg_inGW (i := 944) rfl rfl, vg_inGW (i := 81) rfl rfl, ⟨by decide, by decide⟩, plainFor_of_name (by decide), ⟨vg_inGW (i := 942) rfl rfl, vg_inGW (i := 943) rfl rfl⟩⟩
def r_X1_begin : vg_R := ((yX1_begin, cX1_begin, 1, none, 1, 24, 0, [], false), (fun as σ => ∃ (r : Nat), as = [.ref r] ∧ r ∈ ([12] : List Nat) ∧ Iv σ), (fun as σ v σ' => match as, v with
  | [.ref r], none => Iv σ' ∧ Kp σ σ' ∧ (True)
  | _, _ => False))
set_option maxRecDepth 100000 in
theorem k_X1_begin : vg_rok r_X1_begin := ⟨vg_inGW (i := 511) rfl rfl, vg_inGW (i := 79) rfl rfl, ⟨by decide, by decide⟩, plainFor_of_name (by decide), ⟨vg_inGW (i := 509) rfl rfl, vg_inGW (i := 510) rfl rfl⟩⟩
def r_X1_cut : vg_R := ((yX1_cut, cX1_cut, 4, (some .int), 0, 0, 1, [], false), (fun as σ => ∃ (r : Nat) (a1 : Int64), as = [.ref r, .long a1] ∧ r ∈ ([12] : List Nat) ∧ Iv σ), (fun as σ v σ' => match as, v with
  | [.ref r, .long a1], some (.int v) => σ' = σ ∧ (True)
  | _, _ => False))
set_option maxRecDepth 100000 in
theorem k_X1_cut : vg_rok r_X1_cut := ⟨vg_inGW (i := 761) rfl rfl, vg_inGW (i := 79) rfl rfl, ⟨by decide, by decide⟩, plainFor_of_name (by decide), ⟨vg_inGW (i := 759) rfl rfl, vg_inGW (i := 760) rfl rfl⟩⟩
def r_X1_number : vg_R := ((yX1_number, cX1_number, 1, (some .int), 1, 23, 1, [], false), (fun as σ => ∃ (r : Nat), as = [.ref r] ∧ r ∈ ([12] : List Nat) ∧ Iv σ), (fun as σ v σ' => match as, v with
  | [.ref r], some (.int v) => σ' = σ ∧ (True)
  | _, _ => False))
set_option maxRecDepth 100000 in
theorem k_X1_number : vg_rok r_X1_number := ⟨vg_inGW (i := 757) rfl rfl, vg_inGW (i := 79) rfl rfl, ⟨by decide, by decide⟩, plainFor_of_name (by decide), ⟨vg_inGW (i := 755) rfl rfl, vg_inGW (i := 756) rfl rfl⟩⟩
def r_X1_take : vg_R := ((yX1_take, cX1_take, 7, (some .boolean), 2, 43, 1, [], false), (fun as σ => ∃ (r : Nat) (a1 : Int32), as = [.ref r, .int a1] ∧ r ∈ ([12] : List Nat) ∧ Iv σ), (fun as σ v σ' => match as, v with
  | [.ref r, .int a1], some (.int v) => Iv σ' ∧ Kp σ σ' ∧ (True)
  | _, _ => False))
set_option maxRecDepth 100000 in
theorem k_X1_take : vg_rok r_X1_take := ⟨vg_inGW (i := 753) rfl rfl, vg_inGW (i := 79) rfl rfl, ⟨by decide, by decide⟩, plainFor_of_name (by decide), ⟨vg_inGW (i := 751) rfl rfl, vg_inGW (i := 752) rfl rfl⟩⟩
def r_X1_leastWidth : vg_R := ((yX1_leastWidth, cX1_leastWidth, 5, (some .int), 0, 0, 1, [], false), (fun as σ => ∃ (r : Nat) (a1 : Int32), as = [.ref r, .int a1] ∧ r ∈ ([12] : List Nat) ∧ Iv σ), (fun as σ v σ' => match as, v with
  | [.ref r, .int a1], some (.int v) => σ' = σ ∧ (vg_isneed (vg_mp (σ.1 12 1).toInt64 a1.toInt64 (σ.1 12 0).toNatClampNeg) v)
  | _, _ => False))
set_option maxRecDepth 100000 in
theorem k_X1_leastWidth : vg_rok r_X1_leastWidth := ⟨vg_inGW (i := 571) rfl rfl, vg_inGW (i := 79) rfl rfl, ⟨by decide, by decide⟩, plainFor_of_name (by decide), ⟨vg_inGW (i := 569) rfl rfl, vg_inGW (i := 570) rfl rfl⟩⟩
def r_J7_fill_53178_at15 : vg_R := ((yJ7_fill_53178, cJ7_fill_53178, 4, none, 0, 0, 0, [], true), (fun as σ => ∃ (a1 : Nat) (a2 : Int32), as = [.ref a1, .int a2] ∧ a1 ∈ ([15] : List Nat) ∧ Iv σ), (fun as σ v σ' => match as, v with
  | [.ref a1, .int a2], none => Iv σ' ∧ Kp σ σ' ∧ (∀ j : Nat, j < 76 → σ'.1 15 j = a2)
  | _, _ => False))
set_option maxRecDepth 100000 in
theorem k_J7_fill_53178_at15 : vg_rok r_J7_fill_53178_at15 := ⟨vg_inGW (i := 502) rfl rfl, vg_inGW (i := 86) rfl rfl, ⟨by decide, by decide⟩, plainFor_of_name (by decide), vg_inGW (i := 501) rfl rfl⟩
def r_X1_lastOfResponse : vg_R := ((yX1_lastOfResponse, cX1_lastOfResponse, 1, (some .int), 0, 0, 1, [], false), (fun as σ => ∃ (r : Nat), as = [.ref r] ∧ r ∈ ([12] : List Nat) ∧ Iv σ), (fun as σ v σ' => match as, v with
  | [.ref r], some (.int v) => σ' = σ ∧ (v.toInt = vg_lres (σ.1 12 0) (σ.1 12 1) ∧ 0 ≤ v.toInt ∧ v.toInt ≤ 75)
  | _, _ => False))
set_option maxRecDepth 100000 in
theorem k_X1_lastOfResponse : vg_rok r_X1_lastOfResponse := ⟨vg_inGW (i := 900) rfl rfl, vg_inGW (i := 79) rfl rfl, ⟨by decide, by decide⟩, plainFor_of_name (by decide), ⟨vg_inGW (i := 898) rfl rfl, vg_inGW (i := 899) rfl rfl⟩⟩
def r_X1_foldByOnes : vg_R := ((yX1_foldByOnes, cX1_foldByOnes, 4, none, 0, 0, 0, [], false), (fun as σ => ∃ (r : Nat), as = [.ref r] ∧ r ∈ ([12] : List Nat) ∧ Iv σ), (fun as σ v σ' => match as, v with
  | [.ref r], none => Iv σ' ∧ Kp σ σ' ∧ (∀ j : Nat, j < 76 → σ'.1 15 j = vg_ps (σ.1 15) j (σ.1 12 1).toNatClampNeg)
  | _, _ => False))
set_option maxRecDepth 100000 in
theorem k_X1_foldByOnes : vg_rok r_X1_foldByOnes := ⟨vg_inGW (i := 909) rfl rfl, vg_inGW (i := 79) rfl rfl, ⟨by decide, by decide⟩, plainFor_of_name (by decide), ⟨vg_inGW (i := 908) rfl rfl, vg_inGW (i := 23) rfl rfl⟩⟩
def r_X1_responseAt : vg_R := ((yX1_responseAt, cX1_responseAt, 3, (some .int), 1, 23, 1, [], false), (fun as σ => ∃ (r : Nat) (a1 : Int32), as = [.ref r, .int a1] ∧ r ∈ ([12] : List Nat) ∧ Iv σ), (fun as σ v σ' => match as, v with
  | [.ref r, .int a1], some (.int v) => Iv σ' ∧ Kp σ σ' ∧ ((0 ≤ a1.toInt ∧ a1.toInt ≤ 75) → v = vg_cc (σ.1 12 1).toNatClampNeg (σ.1 12 0).toNatClampNeg a1.toNatClampNeg)
  | _, _ => False))
set_option maxRecDepth 100000 in
theorem k_X1_responseAt : vg_rok r_X1_responseAt := ⟨vg_inGW (i := 904) rfl rfl, vg_inGW (i := 79) rfl rfl, ⟨by decide, by decide⟩, plainFor_of_name (by decide), ⟨vg_inGW (i := 902) rfl rfl, vg_inGW (i := 903) rfl rfl⟩⟩
def r_X2_begin : vg_R := ((yX2_begin, cX2_begin, 1, none, 1, 23, 0, [], false), (fun as σ => ∃ (r : Nat), as = [.ref r] ∧ r ∈ ([7, 26] : List Nat) ∧ Iv σ), (fun as σ v σ' => match as, v with
  | [.ref r], none => Iv σ' ∧ Kp σ σ' ∧ (True)
  | _, _ => False))
set_option maxRecDepth 100000 in
theorem k_X2_begin : vg_rok r_X2_begin := ⟨vg_inGW (i := 506) rfl rfl, vg_inGW (i := 78) rfl rfl, ⟨by decide, by decide⟩, plainFor_of_name (by decide), ⟨vg_inGW (i := 504) rfl rfl, vg_inGW (i := 505) rfl rfl⟩⟩
def r_X2_beginLike : vg_R := ((yX2_beginLike, cX2_beginLike, 3, none, 2, 43, 0, [], false), (fun as σ => ∃ (r : Nat) (a1 : Nat) (a2 : Int32), as = [.ref r, .ref a1, .int a2] ∧ r ∈ ([26] : List Nat) ∧ a1 ∈ ([7] : List Nat) ∧ Iv σ), (fun as σ v σ' => match as, v with
  | [.ref r, .ref a1, .int a2], none => Iv σ' ∧ Kp σ σ' ∧ (True)
  | _, _ => False))
set_option maxRecDepth 100000 in
theorem k_X2_beginLike : vg_rok r_X2_beginLike := ⟨vg_inGW (i := 1038) rfl rfl, vg_inGW (i := 78) rfl rfl, ⟨by decide, by decide⟩, plainFor_of_name (by decide), ⟨vg_inGW (i := 1036) rfl rfl, vg_inGW (i := 1037) rfl rfl⟩⟩
def r_X2_weight : vg_R := ((yX2_weight, cX2_weight, 2, (some .int), 0, 0, 1, [], false), (fun as σ => ∃ (r : Nat) (a1 : Int32), as = [.ref r, .int a1] ∧ r ∈ ([7, 26] : List Nat) ∧ Iv σ ∧ (0 ≤ a1.toInt ∧ a1.toInt ≤ 15)), (fun as σ v σ' => match as, v with
  | [.ref r, .int a1], some (.int v) => σ' = σ ∧ (v = Int32.ofInt 1000 + σ.1 (r + 1) a1.toNatClampNeg)
  | _, _ => False))
set_option maxRecDepth 100000 in
theorem k_X2_weight : vg_rok r_X2_weight := ⟨vg_inGW (i := 567) rfl rfl, vg_inGW (i := 78) rfl rfl, ⟨by decide, by decide⟩, plainFor_of_name (by decide), ⟨vg_inGW (i := 565) rfl rfl, vg_inGW (i := 566) rfl rfl⟩⟩
def r_X2_weightsOf : vg_R := ((yX2_weightsOf, cX2_weightsOf, 4, (some .int), 1, 21, 1, [], false), (fun as σ => ∃ (r : Nat) (a1 : Int32), as = [.ref r, .int a1] ∧ r ∈ ([7, 26] : List Nat) ∧ Iv σ), (fun as σ v σ' => match as, v with
  | [.ref r, .int a1], some (.int v) => σ' = σ ∧ ((∀ i : Int32, 0 ≤ i.toInt → i.toInt < (σ.1 r 0).toInt → ((a1 >>> (i &&& (31 : Int32))) &&& Int32.ofInt 1).toInt = (Int32.ofInt 1).toInt) → v = vg_ws (σ.1 (r + 1)) (σ.1 r 0).toNatClampNeg)
  | _, _ => False))
set_option maxRecDepth 100000 in
theorem k_X2_weightsOf : vg_rok r_X2_weightsOf := ⟨vg_inGW (i := 563) rfl rfl, vg_inGW (i := 78) rfl rfl, ⟨by decide, by decide⟩, plainFor_of_name (by decide), ⟨vg_inGW (i := 562) rfl rfl, vg_inGW (i := 3) rfl rfl⟩⟩
def r_X2_allWeights : vg_R := ((yX2_allWeights, cX2_allWeights, 1, (some .int), 2, 44, 1, [], false), (fun as σ => ∃ (r : Nat), as = [.ref r] ∧ r ∈ ([7, 26] : List Nat) ∧ Iv σ), (fun as σ v σ' => match as, v with
  | [.ref r], some (.int v) => σ' = σ ∧ (v = vg_ws (σ.1 (r + 1)) (σ.1 r 0).toNatClampNeg)
  | _, _ => False))
set_option maxRecDepth 100000 in
theorem k_X2_allWeights : vg_rok r_X2_allWeights := ⟨vg_inGW (i := 559) rfl rfl, vg_inGW (i := 78) rfl rfl, ⟨by decide, by decide⟩, plainFor_of_name (by decide), ⟨vg_inGW (i := 557) rfl rfl, vg_inGW (i := 558) rfl rfl⟩⟩
def r_X2_unevenness : vg_R := ((yX2_unevenness, cX2_unevenness, 4, (some .int), 1, 21, 1, [], false), (fun as σ => ∃ (r : Nat), as = [.ref r] ∧ r ∈ ([7, 26] : List Nat) ∧ Iv σ), (fun as σ v σ' => match as, v with
  | [.ref r], some (.int v) => σ' = σ ∧ (True)
  | _, _ => False))
set_option maxRecDepth 100000 in
theorem k_X2_unevenness : vg_rok r_X2_unevenness := ⟨vg_inGW (i := 860) rfl rfl, vg_inGW (i := 78) rfl rfl, ⟨by decide, by decide⟩, plainFor_of_name (by decide), ⟨vg_inGW (i := 858) rfl rfl, vg_inGW (i := 859) rfl rfl⟩⟩
def r_X2_chooseRotated : vg_R := ((yX2_chooseRotated, cX2_chooseRotated, 4, (some .int), 0, 0, 1, [], false), (fun as σ => ∃ (r : Nat) (a1 : Int32), as = [.ref r, .int a1] ∧ r ∈ ([7, 26] : List Nat) ∧ Iv σ), (fun as σ v σ' => match as, v with
  | [.ref r, .int a1], some (.int v) => σ' = σ ∧ (True)
  | _, _ => False))
set_option maxRecDepth 100000 in
theorem k_X2_chooseRotated : vg_rok r_X2_chooseRotated := ⟨vg_inGW (i := 732) rfl rfl, vg_inGW (i := 78) rfl rfl, ⟨by decide, by decide⟩, plainFor_of_name (by decide), ⟨vg_inGW (i := 731) rfl rfl, vg_inGW (i := 14) rfl rfl⟩⟩
def r_X2_mostDue : vg_R := ((yX2_mostDue, cX2_mostDue, 6, (some .int), 0, 0, 1, [], false), (fun as σ => ∃ (r : Nat) (a1 : Int32), as = [.ref r, .int a1] ∧ r ∈ ([7, 26] : List Nat) ∧ Iv σ), (fun as σ v σ' => match as, v with
  | [.ref r, .int a1], some (.int v) => σ' = σ ∧ (True)
  | _, _ => False))
set_option maxRecDepth 100000 in
theorem k_X2_mostDue : vg_rok r_X2_mostDue := ⟨vg_inGW (i := 740) rfl rfl, vg_inGW (i := 78) rfl rfl, ⟨by decide, by decide⟩, plainFor_of_name (by decide), ⟨vg_inGW (i := 739) rfl rfl, vg_inGW (i := 16) rfl rfl⟩⟩
def r_X2_chooseTwice : vg_R := ((yX2_chooseTwice, cX2_chooseTwice, 4, (some .int), 1, 25, 1, [], false), (fun as σ => ∃ (r : Nat) (a1 : Int32), as = [.ref r, .int a1] ∧ r ∈ ([7, 26] : List Nat) ∧ Iv σ), (fun as σ v σ' => match as, v with
  | [.ref r, .int a1], some (.int v) => σ' = σ ∧ (True)
  | _, _ => False))
set_option maxRecDepth 100000 in
theorem k_X2_chooseTwice : vg_rok r_X2_chooseTwice := ⟨vg_inGW (i := 736) rfl rfl, vg_inGW (i := 78) rfl rfl, ⟨by decide, by decide⟩, plainFor_of_name (by decide), ⟨vg_inGW (i := 735) rfl rfl, vg_inGW (i := 15) rfl rfl⟩⟩
def r_X2_choose : vg_R := ((yX2_choose, cX2_choose, 2, (some .int), 2, 48, 1, [], false), (fun as σ => ∃ (r : Nat) (a1 : Int32), as = [.ref r, .int a1] ∧ r ∈ ([7, 26] : List Nat) ∧ Iv σ), (fun as σ v σ' => match as, v with
  | [.ref r, .int a1], some (.int v) => σ' = σ ∧ (True)
  | _, _ => False))
set_option maxRecDepth 100000 in
theorem k_X2_choose : vg_rok r_X2_choose := ⟨vg_inGW (i := 728) rfl rfl, vg_inGW (i := 78) rfl rfl, ⟨by decide, by decide⟩, plainFor_of_name (by decide), ⟨vg_inGW (i := 726) rfl rfl, vg_inGW (i := 727) rfl rfl⟩⟩
def r_X2_runUpDebts : vg_R := ((yX2_runUpDebts, cX2_runUpDebts, 4, none, 1, 21, 0, [], false), (fun as σ => ∃ (r : Nat) (a1 : Int32), as = [.ref r, .int a1] ∧ r ∈ ([7, 26] : List Nat) ∧ Iv σ), (fun as σ v σ' => match as, v with
  | [.ref r, .int a1], none => Iv σ' ∧ Kp σ σ' ∧ (True)
  | _, _ => False))
set_option maxRecDepth 100000 in
theorem k_X2_runUpDebts : vg_rok r_X2_runUpDebts := ⟨vg_inGW (i := 744) rfl rfl, vg_inGW (i := 78) rfl rfl, ⟨by decide, by decide⟩, plainFor_of_name (by decide), ⟨vg_inGW (i := 743) rfl rfl, vg_inGW (i := 17) rfl rfl⟩⟩
def r_X2_take : vg_R := ((yX2_take, cX2_take, 3, (some .int), 3, 69, 1, [], false), (fun as σ => ∃ (r : Nat) (a1 : Int32), as = [.ref r, .int a1] ∧ r ∈ ([7, 26] : List Nat) ∧ Iv σ), (fun as σ v σ' => match as, v with
  | [.ref r, .int a1], some (.int v) => Iv σ' ∧ Kp σ σ' ∧ (True)
  | _, _ => False))
set_option maxRecDepth 100000 in
theorem k_X2_take : vg_rok r_X2_take := ⟨vg_inGW (i := 724) rfl rfl, vg_inGW (i := 78) rfl rfl, ⟨by decide, by decide⟩, plainFor_of_name (by decide), ⟨vg_inGW (i := 722) rfl rfl, vg_inGW (i := 723) rfl rfl⟩⟩
def r_X3_begin : vg_R := ((yX3_begin, cX3_begin, 1, none, 1, 23, 0, [], false), (fun as σ => ∃ (r : Nat), as = [.ref r] ∧ r ∈ ([35, 37, 39] : List Nat) ∧ Iv σ), (fun as σ v σ' => match as, v with
  | [.ref r], none => Iv σ' ∧ Kp σ σ' ∧ (True)
  | _, _ => False))
set_option maxRecDepth 100000 in
theorem k_X3_begin : vg_rok r_X3_begin := ⟨vg_inGW (i := 518) rfl rfl, vg_inGW (i := 83) rfl rfl, ⟨by decide, by decide⟩, plainFor_of_name (by decide), ⟨vg_inGW (i := 516) rfl rfl, vg_inGW (i := 517) rfl rfl⟩⟩
def r_X3_take : vg_R := ((yX3_take, cX3_take, 2, (some .boolean), 0, 0, 1, [], false), (fun as σ => ∃ (r : Nat) (a1 : Int32), as = [.ref r, .int a1] ∧ r ∈ ([35, 37, 39] : List Nat) ∧ Iv σ), (fun as σ v σ' => match as, v with
  | [.ref r, .int a1], some (.int v) => Iv σ' ∧ Kp σ σ' ∧ (0 ≤ v.toInt ∧ v.toInt ≤ 1)
  | _, _ => False))
set_option maxRecDepth 100000 in
theorem k_X3_take : vg_rok r_X3_take := ⟨vg_inGW (i := 770) rfl rfl, vg_inGW (i := 83) rfl rfl, ⟨by decide, by decide⟩, plainFor_of_name (by decide), ⟨vg_inGW (i := 768) rfl rfl, vg_inGW (i := 769) rfl rfl⟩⟩
def r_X8_rowOf : vg_R := ((yX8_rowOf, cX8_rowOf, 2, (some (.array .int)), 0, 0, 3, [100, 101, 102, 17], false), (fun as σ => ∃ (r : Nat) (a1 : Int32), as = [.ref r, .int a1] ∧ r ∈ ([16] : List Nat) ∧ Iv σ), (fun as σ v σ' => match as, v with
  | [.ref r, .int a1], some (.ref v) => σ' = σ ∧ ((a1.toInt = 0 ∧ v = 100) ∨ (a1.toInt = 1 ∧ v = 101) ∨ (a1.toInt = 2 ∧ v = 102) ∨ (¬ a1.toInt = 0 ∧ ¬ a1.toInt = 1 ∧ ¬ a1.toInt = 2 ∧ v = 17))
  | _, _ => False))
set_option maxRecDepth 100000 in
theorem k_X8_rowOf : vg_rok r_X8_rowOf := ⟨vg_inGW (i := 590) rfl rfl, vg_inGW (i := 80) rfl rfl, ⟨by decide, by decide⟩, plainFor_of_name (by decide), ⟨vg_inGW (i := 588) rfl rfl, vg_inGW (i := 589) rfl rfl⟩⟩
def r_X8_shiftOf : vg_R := ((yX8_shiftOf, cX8_shiftOf, 2, (some .int), 0, 0, 1, [], false), (fun as σ => ∃ (r : Nat) (a1 : Int32), as = [.ref r, .int a1] ∧ r ∈ ([16] : List Nat) ∧ Iv σ), (fun as σ v σ' => match as, v with
  | [.ref r, .int a1], some (.int v) => σ' = σ ∧ ((a1.toInt = 0 ∧ v.toInt = 2) ∨ (a1.toInt = 1 ∧ v.toInt = 5) ∨ (a1.toInt = 2 ∧ v.toInt = 9) ∨ (¬ a1.toInt = 0 ∧ ¬ a1.toInt = 1 ∧ ¬ a1.toInt = 2 ∧ v.toInt = (σ.1 16 1).toInt))
  | _, _ => False))
set_option maxRecDepth 100000 in
theorem k_X8_shiftOf : vg_rok r_X8_shiftOf := ⟨vg_inGW (i := 779) rfl rfl, vg_inGW (i := 80) rfl rfl, ⟨by decide, by decide⟩, plainFor_of_name (by decide), ⟨vg_inGW (i := 777) rfl rfl, vg_inGW (i := 778) rfl rfl⟩⟩
def r_X3_number : vg_R := ((yX3_number, cX3_number, 6, (some .int), 1, 21, 1, [], false), (fun as σ => ∃ (r : Nat) (a1 : Nat), as = [.ref r, .ref a1] ∧ r ∈ ([35, 37, 39] : List Nat) ∧ a1 ∈ ([16] : List Nat) ∧ Iv σ), (fun as σ v σ' => match as, v with
  | [.ref r, .ref a1], some (.int v) => σ' = σ ∧ (True)
  | _, _ => False))
set_option maxRecDepth 100000 in
theorem k_X3_number : vg_rok r_X3_number := ⟨vg_inGW (i := 774) rfl rfl, vg_inGW (i := 83) rfl rfl, ⟨by decide, by decide⟩, plainFor_of_name (by decide), ⟨vg_inGW (i := 772) rfl rfl, vg_inGW (i := 773) rfl rfl⟩⟩
def r_X8_tell : vg_R := ((yX8_tell, cX8_tell, 6, none, 0, 0, 0, [], false), (fun as σ => ∃ (r : Nat) (a1 : Int32) (a2 : Int32) (a3 : Int32) (a4 : Int32) (a5 : Int32), as = [.ref r, .int a1, .int a2, .int a3, .int a4, .int a5] ∧ r ∈ ([16] : List Nat) ∧ Iv σ), (fun as σ v σ' => match as, v with
  | [.ref r, .int a1, .int a2, .int a3, .int a4, .int a5], none => Iv σ' ∧ K_X10_taps σ σ' ∧ (σ'.1 16 1 = a5 ∧ σ'.1 17 0 = a1 ∧ σ'.1 17 1 = a2 ∧ σ'.1 17 2 = a3 ∧ σ'.1 17 3 = a4 ∧ σ'.1 17 4 = a3 ∧ σ'.1 17 5 = a2 ∧ σ'.1 17 6 = a1)
  | _, _ => False))
set_option maxRecDepth 100000 in
theorem k_X8_tell : vg_rok r_X8_tell := ⟨vg_inGW (i := 582) rfl rfl, vg_inGW (i := 80) rfl rfl, ⟨by decide, by decide⟩, plainFor_of_name (by decide), ⟨vg_inGW (i := 580) rfl rfl, vg_inGW (i := 581) rfl rfl⟩⟩
def r_X8_sumOf : vg_R := ((yX8_sumOf, cX8_sumOf, 7, (some .int), 1, 21, 1, [], false), (fun as σ => ∃ (r : Nat) (a1 : Int32), as = [.ref r, .int a1] ∧ r ∈ ([16] : List Nat) ∧ Iv σ), (fun as σ v σ' => match as, v with
  | [.ref r, .int a1], some (.int v) => σ' = σ ∧ ((a1.toInt = 3 → v = vg_rs (σ.1 17) 7) ∧ (a1.toInt = 0 → v.toInt = 4) ∧ (a1.toInt = 1 → v.toInt = 32) ∧ (a1.toInt = 2 → v.toInt = 512))
  | _, _ => False))
set_option maxRecDepth 100000 in
theorem k_X8_sumOf : vg_rok r_X8_sumOf := ⟨vg_inGW (i := 586) rfl rfl, vg_inGW (i := 80) rfl rfl, ⟨by decide, by decide⟩, plainFor_of_name (by decide), ⟨vg_inGW (i := 584) rfl rfl, vg_inGW (i := 585) rfl rfl⟩⟩
def r_X8_isHalfBand : vg_R := ((yX8_isHalfBand, cX8_isHalfBand, 4, (some .boolean), 1, 21, 1, [], false), (fun as σ => ∃ (r : Nat) (a1 : Int32), as = [.ref r, .int a1] ∧ r ∈ ([16] : List Nat) ∧ Iv σ), (fun as σ v σ' => match as, v with
  | [.ref r, .int a1], some (.int v) => σ' = σ ∧ (0 ≤ v.toInt ∧ v.toInt ≤ 1 ∧ (a1.toInt = 3 → (v.toInt = 1 ∧ (σ.1 17 5).toInt = 0) ∨ (v.toInt = 0 ∧ ¬ (σ.1 17 5).toInt = 0)) ∧ ((a1.toInt = 0 ∨ a1.toInt = 1 ∨ a1.toInt = 2) → v.toInt = 1))
  | _, _ => False))
set_option maxRecDepth 100000 in
theorem k_X8_isHalfBand : vg_rok r_X8_isHalfBand := ⟨vg_inGW (i := 917) rfl rfl, vg_inGW (i := 80) rfl rfl, ⟨by decide, by decide⟩, plainFor_of_name (by decide), ⟨vg_inGW (i := 915) rfl rfl, vg_inGW (i := 916) rfl rfl⟩⟩
def r_X8_manyOf : vg_R := ((yX8_manyOf, cX8_manyOf, 6, (some .int), 1, 21, 1, [], false), (fun as σ => ∃ (r : Nat) (a1 : Int32) (a2 : Int32), as = [.ref r, .int a1, .int a2] ∧ r ∈ ([16] : List Nat) ∧ Iv σ ∧ (0 ≤ a2.toInt)), (fun as σ v σ' => match as, v with
  | [.ref r, .int a1, .int a2], some (.int v) => σ' = σ ∧ (v = vg_cnt (vg_rw σ (vg_rp a1)) (min a2.toInt.toNat (vg_tn a1)))
  | _, _ => False))
set_option maxRecDepth 100000 in
theorem k_X8_manyOf : vg_rok r_X8_manyOf := ⟨vg_inGW (i := 883) rfl rfl, vg_inGW (i := 80) rfl rfl, ⟨by decide, by decide⟩, plainFor_of_name (by decide), ⟨vg_inGW (i := 882) rfl rfl, vg_inGW (i := 22) rfl rfl⟩⟩
def r_X8_plainOf : vg_R := ((yX8_plainOf, cX8_plainOf, 2, (some .int), 2, 46, 1, [], false), (fun as σ => ∃ (r : Nat) (a1 : Int32), as = [.ref r, .int a1] ∧ r ∈ ([16] : List Nat) ∧ Iv σ), (fun as σ v σ' => match as, v with
  | [.ref r, .int a1], some (.int v) => σ' = σ ∧ (v = vg_cnt (vg_rw σ (vg_rp a1)) (vg_tn a1))
  | _, _ => False))
set_option maxRecDepth 100000 in
theorem k_X8_plainOf : vg_rok r_X8_plainOf := ⟨vg_inGW (i := 879) rfl rfl, vg_inGW (i := 80) rfl rfl, ⟨by decide, by decide⟩, plainFor_of_name (by decide), ⟨vg_inGW (i := 877) rfl rfl, vg_inGW (i := 878) rfl rfl⟩⟩
def r_X8_foldedOf : vg_R := ((yX8_foldedOf, cX8_foldedOf, 2, (some .int), 2, 46, 1, [], false), (fun as σ => ∃ (r : Nat) (a1 : Int32), as = [.ref r, .int a1] ∧ r ∈ ([16] : List Nat) ∧ Iv σ), (fun as σ v σ' => match as, v with
  | [.ref r, .int a1], some (.int v) => σ' = σ ∧ (True)
  | _, _ => False))
set_option maxRecDepth 100000 in
theorem k_X8_foldedOf : vg_rok r_X8_foldedOf := ⟨vg_inGW (i := 887) rfl rfl, vg_inGW (i := 80) rfl rfl, ⟨by decide, by decide⟩, plainFor_of_name (by decide), ⟨vg_inGW (i := 885) rfl rfl, vg_inGW (i := 886) rfl rfl⟩⟩
def r_X4_clear : vg_R := ((yX4_clear, cX4_clear, 1, none, 0, 0, 0, [], false), (fun as σ => ∃ (r : Nat), as = [.ref r] ∧ r ∈ ([41, 43, 45, 47, 49, 51, 53] : List Nat) ∧ Iv σ), (fun as σ v σ' => match as, v with
  | [.ref r], none => Iv σ' ∧ Kp σ σ' ∧ (True)
  | _, _ => False))
set_option maxRecDepth 100000 in
theorem k_X4_clear : vg_rok r_X4_clear := ⟨vg_inGW (i := 495) rfl rfl, vg_inGW (i := 84) rfl rfl, ⟨by decide, by decide⟩, plainFor_of_name (by decide), ⟨vg_inGW (i := 493) rfl rfl, vg_inGW (i := 494) rfl rfl⟩⟩
def r_X4_put : vg_R := ((yX4_put, cX4_put, 2, none, 1, 21, 0, [], false), (fun as σ => ∃ (r : Nat) (a1 : Int32), as = [.ref r, .int a1] ∧ r ∈ ([41, 43, 45, 47, 49, 51, 53] : List Nat) ∧ Iv σ), (fun as σ v σ' => match as, v with
  | [.ref r, .int a1], none => Iv σ' ∧ Kp σ σ' ∧ (True)
  | _, _ => False))
set_option maxRecDepth 100000 in
theorem k_X4_put : vg_rok r_X4_put := ⟨vg_inGW (i := 637) rfl rfl, vg_inGW (i := 84) rfl rfl, ⟨by decide, by decide⟩, plainFor_of_name (by decide), ⟨vg_inGW (i := 635) rfl rfl, vg_inGW (i := 636) rfl rfl⟩⟩
def r_X4_get : vg_R := ((yX4_get, cX4_get, 2, (some .int), 0, 0, 1, [], false), (fun as σ => ∃ (r : Nat) (a1 : Int32), as = [.ref r, .int a1] ∧ r ∈ ([41, 43, 45, 47, 49, 51, 53] : List Nat) ∧ Iv σ), (fun as σ v σ' => match as, v with
  | [.ref r, .int a1], some (.int v) => σ' = σ ∧ (True)
  | _, _ => False))
set_option maxRecDepth 100000 in
theorem k_X4_get : vg_rok r_X4_get := ⟨vg_inGW (i := 791) rfl rfl, vg_inGW (i := 84) rfl rfl, ⟨by decide, by decide⟩, plainFor_of_name (by decide), ⟨vg_inGW (i := 789) rfl rfl, vg_inGW (i := 790) rfl rfl⟩⟩
def r_X4_least : vg_R := ((yX4_least, cX4_least, 3, (some .int), 1, 21, 1, [], false), (fun as σ => ∃ (r : Nat), as = [.ref r] ∧ r ∈ ([41, 43, 45, 47, 49, 51, 53] : List Nat) ∧ Iv σ), (fun as σ v σ' => match as, v with
  | [.ref r], some (.int v) => σ' = σ ∧ (True)
  | _, _ => False))
set_option maxRecDepth 100000 in
theorem k_X4_least : vg_rok r_X4_least := ⟨vg_inGW (i := 828) rfl rfl, vg_inGW (i := 84) rfl rfl, ⟨by decide, by decide⟩, plainFor_of_name (by decide), ⟨vg_inGW (i := 826) rfl rfl, vg_inGW (i := 827) rfl rfl⟩⟩
def r_X4_greatest : vg_R := ((yX4_greatest, cX4_greatest, 3, (some .int), 1, 21, 1, [], false), (fun as σ => ∃ (r : Nat), as = [.ref r] ∧ r ∈ ([41, 43, 45, 47, 49, 51, 53] : List Nat) ∧ Iv σ), (fun as σ v σ' => match as, v with
  | [.ref r], some (.int v) => σ' = σ ∧ (True)
  | _, _ => False))
set_option maxRecDepth 100000 in
theorem k_X4_greatest : vg_rok r_X4_greatest := ⟨vg_inGW (i := 833) rfl rfl, vg_inGW (i := 84) rfl rfl, ⟨by decide, by decide⟩, plainFor_of_name (by decide), ⟨vg_inGW (i := 831) rfl rfl, vg_inGW (i := 832) rfl rfl⟩⟩
def r_X4_total : vg_R := ((yX4_total, cX4_total, 4, (some .long), 1, 21, 2, [], false), (fun as σ => ∃ (r : Nat), as = [.ref r] ∧ r ∈ ([41, 43, 45, 47, 49, 51, 53] : List Nat) ∧ Iv σ), (fun as σ v σ' => match as, v with
  | [.ref r], some (.long v) => σ' = σ ∧ (True)
  | _, _ => False))
set_option maxRecDepth 100000 in
theorem k_X4_total : vg_rok r_X4_total := ⟨vg_inGW (i := 838) rfl rfl, vg_inGW (i := 84) rfl rfl, ⟨by decide, by decide⟩, plainFor_of_name (by decide), ⟨vg_inGW (i := 836) rfl rfl, vg_inGW (i := 837) rfl rfl⟩⟩
def r_X4_nearLatest : vg_R := ((yX4_nearLatest, cX4_nearLatest, 3, (some .int), 1, 21, 1, [], false), (fun as σ => ∃ (r : Nat) (a1 : Int32), as = [.ref r, .int a1] ∧ r ∈ ([41, 43, 45, 47, 49, 51, 53] : List Nat) ∧ Iv σ), (fun as σ v σ' => match as, v with
  | [.ref r, .int a1], some (.int v) => σ' = σ ∧ (True)
  | _, _ => False))
set_option maxRecDepth 100000 in
theorem k_X4_nearLatest : vg_rok r_X4_nearLatest := ⟨vg_inGW (i := 846) rfl rfl, vg_inGW (i := 84) rfl rfl, ⟨by decide, by decide⟩, plainFor_of_name (by decide), ⟨vg_inGW (i := 844) rfl rfl, vg_inGW (i := 845) rfl rfl⟩⟩
def r_X4_beatOf : vg_R := ((yX4_beatOf, cX4_beatOf, 9, (some .long), 2, 44, 2, [], false), (fun as σ => ∃ (r : Nat) (a1 : Int32), as = [.ref r, .int a1] ∧ r ∈ ([41, 43, 45, 47, 49, 51, 53] : List Nat) ∧ Iv σ ∧ (0 ≤ a1.toInt ∧ a1.toInt ≤ 47)), (fun as σ v σ' => match as, v with
  | [.ref r, .int a1], some (.long v) => σ' = σ ∧ (True)
  | _, _ => False))
set_option maxRecDepth 100000 in
theorem k_X4_beatOf : vg_rok r_X4_beatOf := ⟨vg_inGW (i := 926) rfl rfl, vg_inGW (i := 84) rfl rfl, ⟨by decide, by decide⟩, plainFor_of_name (by decide), ⟨vg_inGW (i := 924) rfl rfl, vg_inGW (i := 925) rfl rfl⟩⟩
def r_X4_greatestBeat : vg_R := ((yX4_greatestBeat, cX4_greatestBeat, 9, (some .int), 3, 72, 1, [], false), (fun as σ => ∃ (r : Nat) (a1 : Int32) (a2 : Int32), as = [.ref r, .int a1, .int a2] ∧ r ∈ ([41, 43, 45, 47, 49, 51, 53] : List Nat) ∧ Iv σ ∧ (0 ≤ a1.toInt ∧ a1.toInt ≤ 24 ∧ 0 ≤ a2.toInt ∧ a2.toInt ≤ 24)), (fun as σ v σ' => match as, v with
  | [.ref r, .int a1, .int a2], some (.int v) => σ' = σ ∧ (True)
  | _, _ => False))
set_option maxRecDepth 100000 in
theorem k_X4_greatestBeat : vg_rok r_X4_greatestBeat := ⟨vg_inGW (i := 935) rfl rfl, vg_inGW (i := 84) rfl rfl, ⟨by decide, by decide⟩, plainFor_of_name (by decide), ⟨vg_inGW (i := 933) rfl rfl, vg_inGW (i := 934) rfl rfl⟩⟩
def r_X6_copyFrom : vg_R := ((yX6_copyFrom, cX6_copyFrom, 2, none, 0, 0, 0, [], false), (fun as σ => ∃ (r : Nat) (a1 : Nat), as = [.ref r, .ref a1] ∧ r ∈ ([23] : List Nat) ∧ a1 ∈ ([4] : List Nat) ∧ Iv σ), (fun as σ v σ' => match as, v with
  | [.ref r, .ref a1], none => Iv σ' ∧ Kp σ σ' ∧ (True)
  | _, _ => False))
set_option maxRecDepth 100000 in
theorem k_X6_copyFrom : vg_rok r_X6_copyFrom := ⟨vg_inGW (i := 959) rfl rfl, vg_inGW (i := 77) rfl rfl, ⟨by decide, by decide⟩, plainFor_of_name (by decide), ⟨vg_inGW (i := 957) rfl rfl, vg_inGW (i := 958) rfl rfl⟩⟩
def r_X6_besides : vg_R := ((yX6_besides, cX6_besides, 1, (some .int), 0, 0, 1, [], false), (fun as σ => ∃ (r : Nat), as = [.ref r] ∧ r ∈ ([4, 23] : List Nat) ∧ Iv σ), (fun as σ v σ' => match as, v with
  | [.ref r], some (.int v) => σ' = σ ∧ (True)
  | _, _ => False))
set_option maxRecDepth 100000 in
theorem k_X6_besides : vg_rok r_X6_besides := ⟨vg_inGW (i := 688) rfl rfl, vg_inGW (i := 77) rfl rfl, ⟨by decide, by decide⟩, plainFor_of_name (by decide), ⟨vg_inGW (i := 686) rfl rfl, vg_inGW (i := 687) rfl rfl⟩⟩
def r_X6_valueOfSmall : vg_R := ((yX6_valueOfSmall, cX6_valueOfSmall, 2, (some .int), 0, 0, 1, [], false), (fun as σ => ∃ (r : Nat) (a1 : Int32), as = [.ref r, .int a1] ∧ r ∈ ([4, 23] : List Nat) ∧ Iv σ), (fun as σ v σ' => match as, v with
  | [.ref r, .int a1], some (.int v) => σ' = σ ∧ (True)
  | _, _ => False))
set_option maxRecDepth 100000 in
theorem k_X6_valueOfSmall : vg_rok r_X6_valueOfSmall := ⟨vg_inGW (i := 692) rfl rfl, vg_inGW (i := 77) rfl rfl, ⟨by decide, by decide⟩, plainFor_of_name (by decide), ⟨vg_inGW (i := 690) rfl rfl, vg_inGW (i := 691) rfl rfl⟩⟩
def r_X6_valueOf : vg_R := ((yX6_valueOf, cX6_valueOf, 2, (some .int), 1, 21, 1, [], false), (fun as σ => ∃ (r : Nat) (a1 : Int32), as = [.ref r, .int a1] ∧ r ∈ ([4, 23] : List Nat) ∧ Iv σ), (fun as σ v σ' => match as, v with
  | [.ref r, .int a1], some (.int v) => σ' = σ ∧ (True)
  | _, _ => False))
set_option maxRecDepth 100000 in
theorem k_X6_valueOf : vg_rok r_X6_valueOf := ⟨vg_inGW (i := 708) rfl rfl, vg_inGW (i := 77) rfl rfl, ⟨by decide, by decide⟩, plainFor_of_name (by decide), ⟨vg_inGW (i := 706) rfl rfl, vg_inGW (i := 707) rfl rfl⟩⟩
def r_X6_nearest : vg_R := ((yX6_nearest, cX6_nearest, 3, (some .int), 1, 22, 1, [], false), (fun as σ => ∃ (r : Nat) (a1 : Int32), as = [.ref r, .int a1] ∧ r ∈ ([4, 23] : List Nat) ∧ Iv σ), (fun as σ v σ' => match as, v with
  | [.ref r, .int a1], some (.int v) => σ' = σ ∧ (True)
  | _, _ => False))
set_option maxRecDepth 100000 in
theorem k_X6_nearest : vg_rok r_X6_nearest := ⟨vg_inGW (i := 675) rfl rfl, vg_inGW (i := 77) rfl rfl, ⟨by decide, by decide⟩, plainFor_of_name (by decide), ⟨vg_inGW (i := 673) rfl rfl, vg_inGW (i := 674) rfl rfl⟩⟩
def r_X6_elementsOf : vg_R := ((yX6_elementsOf, cX6_elementsOf, 3, (some .int), 0, 0, 1, [], true), (fun as σ => ∃ (a1 : Int32) (a2 : Int32) (a3 : Int32), as = [.int a1, .int a2, .int a3] ∧ (1 ≤ a2.toInt ∧ a2.toInt ≤ 4 ∧ 2 ≤ a3.toInt ∧ a3.toInt ≤ 17)), (fun as σ v σ' => match as, v with
  | [.int a1, .int a2, .int a3], some (.int v) => σ' = σ ∧ (v.toInt = (vg_eo a1 a2 a3).toInt ∧ 1 ≤ v.toInt ∧ v.toInt ≤ 240)
  | _, _ => False))
set_option maxRecDepth 100000 in
theorem k_X6_elementsOf : vg_rok r_X6_elementsOf := ⟨vg_inGW (i := 535) rfl rfl, vg_inGW (i := 77) rfl rfl, ⟨by decide, by decide⟩, plainFor_of_name (by decide), vg_inGW (i := 534) rfl rfl⟩
def r_X5_begin : vg_R := ((yX5_begin, cX5_begin, 1, none, 1, 23, 0, [], false), (fun as σ => ∃ (r : Nat), as = [.ref r] ∧ r ∈ ([3, 22] : List Nat) ∧ Iv σ), (fun as σ v σ' => match as, v with
  | [.ref r], none => Iv σ' ∧ Kp σ σ' ∧ (True)
  | _, _ => False))
set_option maxRecDepth 100000 in
theorem k_X5_begin : vg_rok r_X5_begin := ⟨vg_inGW (i := 499) rfl rfl, vg_inGW (i := 76) rfl rfl, ⟨by decide, by decide⟩, plainFor_of_name (by decide), ⟨vg_inGW (i := 497) rfl rfl, vg_inGW (i := 498) rfl rfl⟩⟩
def r_X5_beginTone : vg_R := ((yX5_beginTone, cX5_beginTone, 2, none, 2, 43, 0, [], false), (fun as σ => ∃ (r : Nat) (a1 : Nat), as = [.ref r, .ref a1] ∧ r ∈ ([22] : List Nat) ∧ a1 ∈ ([4] : List Nat) ∧ Iv σ), (fun as σ v σ' => match as, v with
  | [.ref r, .ref a1], none => Iv σ' ∧ Kp σ σ' ∧ (True)
  | _, _ => False))
set_option maxRecDepth 100000 in
theorem k_X5_beginTone : vg_rok r_X5_beginTone := ⟨vg_inGW (i := 955) rfl rfl, vg_inGW (i := 76) rfl rfl, ⟨by decide, by decide⟩, plainFor_of_name (by decide), ⟨vg_inGW (i := 953) rfl rfl, vg_inGW (i := 954) rfl rfl⟩⟩
def r_X5_copyFrom : vg_R := ((yX5_copyFrom, cX5_copyFrom, 2, none, 2, 43, 0, [], false), (fun as σ => ∃ (r : Nat) (a1 : Nat), as = [.ref r, .ref a1] ∧ r ∈ ([22] : List Nat) ∧ a1 ∈ ([3] : List Nat) ∧ Iv σ), (fun as σ v σ' => match as, v with
  | [.ref r, .ref a1], none => Iv σ' ∧ Kp σ σ' ∧ (True)
  | _, _ => False))
set_option maxRecDepth 100000 in
theorem k_X5_copyFrom : vg_rok r_X5_copyFrom := ⟨vg_inGW (i := 1034) rfl rfl, vg_inGW (i := 76) rfl rfl, ⟨by decide, by decide⟩, plainFor_of_name (by decide), ⟨vg_inGW (i := 1032) rfl rfl, vg_inGW (i := 1033) rfl rfl⟩⟩
def r_X5_gapNow : vg_R := ((yX5_gapNow, cX5_gapNow, 1, (some .long), 0, 0, 2, [], false), (fun as σ => ∃ (r : Nat), as = [.ref r] ∧ r ∈ ([3, 22] : List Nat) ∧ Iv σ), (fun as σ v σ' => match as, v with
  | [.ref r], some (.long v) => σ' = σ ∧ (True)
  | _, _ => False))
set_option maxRecDepth 100000 in
theorem k_X5_gapNow : vg_rok r_X5_gapNow := ⟨vg_inGW (i := 714) rfl rfl, vg_inGW (i := 76) rfl rfl, ⟨by decide, by decide⟩, plainFor_of_name (by decide), ⟨vg_inGW (i := 712) rfl rfl, vg_inGW (i := 713) rfl rfl⟩⟩
def r_X5_drawDither : vg_R := ((yX5_drawDither, cX5_drawDither, 1, (some .int), 0, 0, 1, [], false), (fun as σ => ∃ (r : Nat), as = [.ref r] ∧ r ∈ ([3, 22] : List Nat) ∧ Iv σ), (fun as σ v σ' => match as, v with
  | [.ref r], some (.int v) => Iv σ' ∧ Kp σ σ' ∧ (True)
  | _, _ => False))
set_option maxRecDepth 100000 in
theorem k_X5_drawDither : vg_rok r_X5_drawDither := ⟨vg_inGW (i := 652) rfl rfl, vg_inGW (i := 76) rfl rfl, ⟨by decide, by decide⟩, plainFor_of_name (by decide), ⟨vg_inGW (i := 651) rfl rfl, vg_inGW (i := 7) rfl rfl⟩⟩
def r_X5_hold : vg_R := ((yX5_hold, cX5_hold, 3, (some .int), 1, 21, 1, [], false), (fun as σ => ∃ (r : Nat) (a1 : Int32), as = [.ref r, .int a1] ∧ r ∈ ([3, 22] : List Nat) ∧ Iv σ), (fun as σ v σ' => match as, v with
  | [.ref r, .int a1], some (.int v) => Iv σ' ∧ Kp σ σ' ∧ (True)
  | _, _ => False))
set_option maxRecDepth 100000 in
theorem k_X5_hold : vg_rok r_X5_hold := ⟨vg_inGW (i := 664) rfl rfl, vg_inGW (i := 76) rfl rfl, ⟨by decide, by decide⟩, plainFor_of_name (by decide), ⟨vg_inGW (i := 663) rfl rfl, vg_inGW (i := 9) rfl rfl⟩⟩
def r_X5_outOfSums : vg_R := ((yX5_outOfSums, cX5_outOfSums, 5, (some .int), 2, 44, 1, [], false), (fun as σ => ∃ (r : Nat) (a1 : Int32) (a2 : Int32), as = [.ref r, .int a1, .int a2] ∧ r ∈ ([3, 22] : List Nat) ∧ Iv σ), (fun as σ v σ' => match as, v with
  | [.ref r, .int a1, .int a2], some (.int v) => Iv σ' ∧ Kp σ σ' ∧ (True)
  | _, _ => False))
set_option maxRecDepth 100000 in
theorem k_X5_outOfSums : vg_rok r_X5_outOfSums := ⟨vg_inGW (i := 660) rfl rfl, vg_inGW (i := 76) rfl rfl, ⟨by decide, by decide⟩, plainFor_of_name (by decide), ⟨vg_inGW (i := 659) rfl rfl, vg_inGW (i := 8) rfl rfl⟩⟩
def r_X5_differenceOf : vg_R := ((yX5_differenceOf, cX5_differenceOf, 4, (some .int), 0, 0, 1, [], false), (fun as σ => ∃ (r : Nat) (a1 : Int32) (a2 : Int32), as = [.ref r, .int a1, .int a2] ∧ r ∈ ([3, 22] : List Nat) ∧ Iv σ), (fun as σ v σ' => match as, v with
  | [.ref r, .int a1, .int a2], some (.int v) => Iv σ' ∧ Kp σ σ' ∧ (True)
  | _, _ => False))
set_option maxRecDepth 100000 in
theorem k_X5_differenceOf : vg_rok r_X5_differenceOf := ⟨vg_inGW (i := 696) rfl rfl, vg_inGW (i := 76) rfl rfl, ⟨by decide, by decide⟩, plainFor_of_name (by decide), ⟨vg_inGW (i := 695) rfl rfl, vg_inGW (i := 11) rfl rfl⟩⟩
def r_X5_outOfCascade : vg_R := ((yX5_outOfCascade, cX5_outOfCascade, 8, (some .int), 2, 44, 1, [], false), (fun as σ => ∃ (r : Nat) (a1 : Int32) (a2 : Int32), as = [.ref r, .int a1, .int a2] ∧ r ∈ ([3, 22] : List Nat) ∧ Iv σ), (fun as σ v σ' => match as, v with
  | [.ref r, .int a1, .int a2], some (.int v) => Iv σ' ∧ Kp σ σ' ∧ (True)
  | _, _ => False))
set_option maxRecDepth 100000 in
theorem k_X5_outOfCascade : vg_rok r_X5_outOfCascade := ⟨vg_inGW (i := 684) rfl rfl, vg_inGW (i := 76) rfl rfl, ⟨by decide, by decide⟩, plainFor_of_name (by decide), ⟨vg_inGW (i := 683) rfl rfl, vg_inGW (i := 10) rfl rfl⟩⟩
def r_X5_shapedErrors : vg_R := ((yX5_shapedErrors, cX5_shapedErrors, 1, (some .int), 0, 0, 1, [], false), (fun as σ => ∃ (r : Nat), as = [.ref r] ∧ r ∈ ([3, 22] : List Nat) ∧ Iv σ), (fun as σ v σ' => match as, v with
  | [.ref r], some (.int v) => σ' = σ ∧ (True)
  | _, _ => False))
set_option maxRecDepth 100000 in
theorem k_X5_shapedErrors : vg_rok r_X5_shapedErrors := ⟨vg_inGW (i := 704) rfl rfl, vg_inGW (i := 76) rfl rfl, ⟨by decide, by decide⟩, plainFor_of_name (by decide), ⟨vg_inGW (i := 703) rfl rfl, vg_inGW (i := 13) rfl rfl⟩⟩
def r_X5_outOfErrors : vg_R := ((yX5_outOfErrors, cX5_outOfErrors, 7, (some .int), 2, 44, 1, [], false), (fun as σ => ∃ (r : Nat) (a1 : Int32) (a2 : Int32), as = [.ref r, .int a1, .int a2] ∧ r ∈ ([3, 22] : List Nat) ∧ Iv σ), (fun as σ v σ' => match as, v with
  | [.ref r, .int a1, .int a2], some (.int v) => Iv σ' ∧ Kp σ σ' ∧ (True)
  | _, _ => False))
set_option maxRecDepth 100000 in
theorem k_X5_outOfErrors : vg_rok r_X5_outOfErrors := ⟨vg_inGW (i := 700) rfl rfl, vg_inGW (i := 76) rfl rfl, ⟨by decide, by decide⟩, plainFor_of_name (by decide), ⟨vg_inGW (i := 699) rfl rfl, vg_inGW (i := 12) rfl rfl⟩⟩
def r_X5_outOf : vg_R := ((yX5_outOf, cX5_outOf, 3, (some .int), 3, 71, 1, [], false), (fun as σ => ∃ (r : Nat) (a1 : Int32), as = [.ref r, .int a1] ∧ r ∈ ([3, 22] : List Nat) ∧ Iv σ), (fun as σ v σ' => match as, v with
  | [.ref r, .int a1], some (.int v) => Iv σ' ∧ Kp σ σ' ∧ (True)
  | _, _ => False))
set_option maxRecDepth 100000 in
theorem k_X5_outOf : vg_rok r_X5_outOf := ⟨vg_inGW (i := 648) rfl rfl, vg_inGW (i := 76) rfl rfl, ⟨by decide, by decide⟩, plainFor_of_name (by decide), ⟨vg_inGW (i := 647) rfl rfl, vg_inGW (i := 6) rfl rfl⟩⟩
def r_X5_advance : vg_R := ((yX5_advance, cX5_advance, 3, (some .int), 4, 93, 1, [], false), (fun as σ => ∃ (r : Nat) (a1 : Int32), as = [.ref r, .int a1] ∧ r ∈ ([3, 22] : List Nat) ∧ Iv σ), (fun as σ v σ' => match as, v with
  | [.ref r, .int a1], some (.int v) => Iv σ' ∧ Kp σ σ' ∧ (True)
  | _, _ => False))
set_option maxRecDepth 100000 in
theorem k_X5_advance : vg_rok r_X5_advance := ⟨vg_inGW (i := 644) rfl rfl, vg_inGW (i := 76) rfl rfl, ⟨by decide, by decide⟩, plainFor_of_name (by decide), ⟨vg_inGW (i := 642) rfl rfl, vg_inGW (i := 643) rfl rfl⟩⟩
def r_X5_writeWords : vg_R := ((yX5_writeWords, cX5_writeWords, 3, none, 1, 31, 0, [], false), (fun as σ => ∃ (r : Nat) (a1 : Nat) (a2 : Int32), as = [.ref r, .ref a1, .int a2] ∧ r ∈ ([22] : List Nat) ∧ a1 ∈ ([33] : List Nat) ∧ Iv σ ∧ (0 ≤ a2.toInt ∧ a2.toInt ≤ 10000)), (fun as σ v σ' => match as, v with
  | [.ref r, .ref a1, .int a2], none => Iv σ' ∧ Kp σ σ' ∧ (True)
  | _, _ => False))
set_option maxRecDepth 100000 in
theorem k_X5_writeWords : vg_rok r_X5_writeWords := ⟨vg_inGW (i := 965) rfl rfl, vg_inGW (i := 76) rfl rfl, ⟨by decide, by decide⟩, plainFor_of_name (by decide), ⟨vg_inGW (i := 963) rfl rfl, vg_inGW (i := 964) rfl rfl⟩⟩
def r_X7_numberUnbound : vg_R := ((yX7_numberUnbound, cX7_numberUnbound, 2, (some .int), 1, 22, 1, [], false), (fun as σ => ∃ (r : Nat) (a1 : Int32), as = [.ref r, .int a1] ∧ r ∈ ([1] : List Nat) ∧ Iv σ), (fun as σ v σ' => match as, v with
  | [.ref r, .int a1], some (.int v) => σ' = σ ∧ (True)
  | _, _ => False))
set_option maxRecDepth 100000 in
theorem k_X7_numberUnbound : vg_rok r_X7_numberUnbound := ⟨vg_inGW (i := 627) rfl rfl, vg_inGW (i := 75) rfl rfl, ⟨by decide, by decide⟩, plainFor_of_name (by decide), ⟨vg_inGW (i := 626) rfl rfl, vg_inGW (i := 5) rfl rfl⟩⟩
def r_X7_numberAt : vg_R := ((yX7_numberAt, cX7_numberAt, 2, (some .int), 2, 43, 1, [], false), (fun as σ => ∃ (r : Nat) (a1 : Int32), as = [.ref r, .int a1] ∧ r ∈ ([1] : List Nat) ∧ Iv σ), (fun as σ v σ' => match as, v with
  | [.ref r, .int a1], some (.int v) => σ' = σ ∧ (True)
  | _, _ => False))
set_option maxRecDepth 100000 in
theorem k_X7_numberAt : vg_rok r_X7_numberAt := ⟨vg_inGW (i := 623) rfl rfl, vg_inGW (i := 75) rfl rfl, ⟨by decide, by decide⟩, plainFor_of_name (by decide), ⟨vg_inGW (i := 621) rfl rfl, vg_inGW (i := 622) rfl rfl⟩⟩
def r_X9_cellOf : vg_R := ((yX9_cellOf, cX9_cellOf, 4, (some .int), 0, 0, 1, [], false), (fun as σ => ∃ (r : Nat) (a1 : Int32), as = [.ref r, .int a1] ∧ r ∈ ([31] : List Nat) ∧ Iv σ ∧ (0 ≤ a1.toInt ∧ a1.toInt ≤ 1000)), (fun as σ v σ' => match as, v with
  | [.ref r, .int a1], some (.int v) => σ' = σ ∧ (0 ≤ v.toInt ∧ v.toInt ≤ 2047)
  | _, _ => False))
set_option maxRecDepth 100000 in
theorem k_X9_cellOf : vg_rok r_X9_cellOf := ⟨vg_inGW (i := 974) rfl rfl, vg_inGW (i := 82) rfl rfl, ⟨by decide, by decide⟩, plainFor_of_name (by decide), ⟨vg_inGW (i := 973) rfl rfl, vg_inGW (i := 25) rfl rfl⟩⟩
def r_X9_isSame : vg_R := ((yX9_isSame, cX9_isSame, 4, (some .boolean), 0, 0, 1, [], false), (fun as σ => ∃ (r : Nat) (a1 : Int32) (a2 : Int32), as = [.ref r, .int a1, .int a2] ∧ r ∈ ([31] : List Nat) ∧ Iv σ ∧ (0 ≤ a1.toInt ∧ a1.toInt ≤ 1000 ∧ 0 ≤ a2.toInt ∧ a2.toInt ≤ 1000)), (fun as σ v σ' => match as, v with
  | [.ref r, .int a1, .int a2], some (.int v) => σ' = σ ∧ (0 ≤ v.toInt ∧ v.toInt ≤ 1)
  | _, _ => False))
set_option maxRecDepth 100000 in
theorem k_X9_isSame : vg_rok r_X9_isSame := ⟨vg_inGW (i := 979) rfl rfl, vg_inGW (i := 82) rfl rfl, ⟨by decide, by decide⟩, plainFor_of_name (by decide), ⟨vg_inGW (i := 978) rfl rfl, vg_inGW (i := 26) rfl rfl⟩⟩
def r_X9_findOrPut : vg_R := ((yX9_findOrPut, cX9_findOrPut, 5, (some .int), 1, 23, 1, [], false), (fun as σ => ∃ (r : Nat) (a1 : Int32), as = [.ref r, .int a1] ∧ r ∈ ([31] : List Nat) ∧ Iv σ ∧ ((0 ≤ a1.toInt ∧ a1.toInt ≤ 1000) ∧ ∀ j : Nat, j < 2048 → 0 ≤ (σ.1 34 j).toInt ∧ (σ.1 34 j).toInt ≤ a1.toInt)), (fun as σ v σ' => match as, v with
  | [.ref r, .int a1], some (.int v) => Iv σ' ∧ Kc σ σ' ∧ ((v.toInt = -1 ∨ (0 ≤ v.toInt ∧ v.toInt < a1.toInt)) ∧ ∀ j : Nat, j < 2048 → 0 ≤ (σ'.1 34 j).toInt ∧ (σ'.1 34 j).toInt ≤ a1.toInt + 1)
  | _, _ => False))
set_option maxRecDepth 100000 in
theorem k_X9_findOrPut : vg_rok r_X9_findOrPut := ⟨vg_inGW (i := 970) rfl rfl, vg_inGW (i := 82) rfl rfl, ⟨by decide, by decide⟩, plainFor_of_name (by decide), ⟨vg_inGW (i := 969) rfl rfl, vg_inGW (i := 24) rfl rfl⟩⟩
def r_X9_follow : vg_R := ((yX9_follow, cX9_follow, 6, none, 5, 115, 0, [], false), (fun as σ => ∃ (r : Nat) (a1 : Nat) (a2 : Nat) (a3 : Int32), as = [.ref r, .ref a1, .ref a2, .int a3] ∧ r ∈ ([31] : List Nat) ∧ a1 ∈ ([22] : List Nat) ∧ a2 ∈ ([4] : List Nat) ∧ Iv σ), (fun as σ v σ' => match as, v with
  | [.ref r, .ref a1, .ref a2, .int a3], none => Iv σ' ∧ Kr σ σ' ∧ (0 ≤ (σ'.1 31 4).toInt ∧ 0 ≤ (σ'.1 31 5).toInt ∧ (σ'.1 31 4).toInt + (σ'.1 31 5).toInt ≤ 1000)
  | _, _ => False))
set_option maxRecDepth 100000 in
theorem k_X9_follow : vg_rok r_X9_follow := ⟨vg_inGW (i := 951) rfl rfl, vg_inGW (i := 82) rfl rfl, ⟨by decide, by decide⟩, plainFor_of_name (by decide), ⟨vg_inGW (i := 949) rfl rfl, vg_inGW (i := 950) rfl rfl⟩⟩
def r_X9_patternAt : vg_R := ((yX9_patternAt, cX9_patternAt, 2, (some .int), 0, 0, 1, [], false), (fun as σ => ∃ (r : Nat) (a1 : Int32), as = [.ref r, .int a1] ∧ r ∈ ([31] : List Nat) ∧ Iv σ ∧ (0 ≤ (σ.1 31 4).toInt ∧ 0 ≤ (σ.1 31 5).toInt ∧ (σ.1 31 4).toInt + (σ.1 31 5).toInt ≤ 1000 ∧ 0 ≤ a1.toInt)), (fun as σ v σ' => match as, v with
  | [.ref r, .int a1], some (.int v) => σ' = σ ∧ (True)
  | _, _ => False))
set_option maxRecDepth 100000 in
theorem k_X9_patternAt : vg_rok r_X9_patternAt := ⟨vg_inGW (i := 988) rfl rfl, vg_inGW (i := 82) rfl rfl, ⟨by decide, by decide⟩, plainFor_of_name (by decide), ⟨vg_inGW (i := 987) rfl rfl, vg_inGW (i := 27) rfl rfl⟩⟩
def r_X9_total : vg_R := ((yX9_total, cX9_total, 3, (some .int), 1, 21, 1, [], false), (fun as σ => ∃ (r : Nat), as = [.ref r] ∧ r ∈ ([31] : List Nat) ∧ Iv σ ∧ (0 ≤ (σ.1 31 4).toInt ∧ 0 ≤ (σ.1 31 5).toInt ∧ (σ.1 31 4).toInt + (σ.1 31 5).toInt ≤ 1000)), (fun as σ v σ' => match as, v with
  | [.ref r], some (.int v) => σ' = σ ∧ (True)
  | _, _ => False))
set_option maxRecDepth 100000 in
theorem k_X9_total : vg_rok r_X9_total := ⟨vg_inGW (i := 984) rfl rfl, vg_inGW (i := 82) rfl rfl, ⟨by decide, by decide⟩, plainFor_of_name (by decide), ⟨vg_inGW (i := 982) rfl rfl, vg_inGW (i := 983) rfl rfl⟩⟩
def r_X9_unlike : vg_R := ((yX9_unlike, cX9_unlike, 3, (some .int), 1, 21, 1, [], false), (fun as σ => ∃ (r : Nat), as = [.ref r] ∧ r ∈ ([31] : List Nat) ∧ Iv σ ∧ (0 ≤ (σ.1 31 4).toInt ∧ 0 ≤ (σ.1 31 5).toInt ∧ (σ.1 31 4).toInt + (σ.1 31 5).toInt ≤ 1000)), (fun as σ v σ' => match as, v with
  | [.ref r], some (.int v) => σ' = σ ∧ (True)
  | _, _ => False))
set_option maxRecDepth 100000 in
theorem k_X9_unlike : vg_rok r_X9_unlike := ⟨vg_inGW (i := 992) rfl rfl, vg_inGW (i := 82) rfl rfl, ⟨by decide, by decide⟩, plainFor_of_name (by decide), ⟨vg_inGW (i := 990) rfl rfl, vg_inGW (i := 991) rfl rfl⟩⟩
def r_X9_changes : vg_R := ((yX9_changes, cX9_changes, 3, (some .int), 1, 21, 1, [], false), (fun as σ => ∃ (r : Nat), as = [.ref r] ∧ r ∈ ([31] : List Nat) ∧ Iv σ ∧ (0 ≤ (σ.1 31 4).toInt ∧ 0 ≤ (σ.1 31 5).toInt ∧ (σ.1 31 4).toInt + (σ.1 31 5).toInt ≤ 1000)), (fun as σ v σ' => match as, v with
  | [.ref r], some (.int v) => σ' = σ ∧ (True)
  | _, _ => False))
set_option maxRecDepth 100000 in
theorem k_X9_changes : vg_rok r_X9_changes := ⟨vg_inGW (i := 1002) rfl rfl, vg_inGW (i := 82) rfl rfl, ⟨by decide, by decide⟩, plainFor_of_name (by decide), ⟨vg_inGW (i := 1000) rfl rfl, vg_inGW (i := 1001) rfl rfl⟩⟩
def r_X9_longestRun : vg_R := ((yX9_longestRun, cX9_longestRun, 4, (some .int), 2, 43, 1, [], false), (fun as σ => ∃ (r : Nat), as = [.ref r] ∧ r ∈ ([31] : List Nat) ∧ Iv σ ∧ (0 ≤ (σ.1 31 4).toInt ∧ 0 ≤ (σ.1 31 5).toInt ∧ (σ.1 31 4).toInt + (σ.1 31 5).toInt ≤ 1000)), (fun as σ v σ' => match as, v with
  | [.ref r], some (.int v) => σ' = σ ∧ (True)
  | _, _ => False))
set_option maxRecDepth 100000 in
theorem k_X9_longestRun : vg_rok r_X9_longestRun := ⟨vg_inGW (i := 1006) rfl rfl, vg_inGW (i := 82) rfl rfl, ⟨by decide, by decide⟩, plainFor_of_name (by decide), ⟨vg_inGW (i := 1004) rfl rfl, vg_inGW (i := 1005) rfl rfl⟩⟩
