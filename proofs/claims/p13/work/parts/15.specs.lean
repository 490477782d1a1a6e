/-! contracts -/
def r_X10_status : vg_R := ((yX10_status, cX10_status, 1, (some .int), 0, 0, 1, [], false), (fun as σ => ∃ (r : Nat), as = [.ref r] ∧ r ∈ ([0] : List Nat) ∧ Iv σ), (fun as σ v σ' => match as, v with
  | [.ref r], some (.int v) => σ' = σ ∧ (True)
  | _, _ => False))
set_option maxRecDepth 100000 in
theorem k_X10_status : vg_rok r_X10_status := ⟨vg_inGW (i := 473) rfl rfl, vg_inGW (i := 74) rfl rfl, ⟨by decide, by decide⟩, plainFor_of_name (by decide), ⟨vg_inGW (i := 471) rfl rfl, vg_inGW (i := 472) rfl rfl⟩⟩
def r_X10_refuse : vg_R := ((yX10_refuse, cX10_refuse, 2, (some .int), 0, 0, 1, [], false), (fun as σ => ∃ (r : Nat) (a1 : Int32), as = [.ref r, .int a1] ∧ r ∈ ([0] : List Nat) ∧ Iv σ), (fun as σ v σ' => match as, v with
  | [.ref r, .int a1], some (.int v) => Iv σ' ∧ Kp σ σ' ∧ (v.toInt = -1)
  | _, _ => False))
set_option maxRecDepth 100000 in
theorem k_X10_refuse : vg_rok r_X10_refuse := ⟨vg_inGW (i := 487) rfl rfl, vg_inGW (i := 74) rfl rfl, ⟨by decide, by decide⟩, plainFor_of_name (by decide), ⟨vg_inGW (i := 486) rfl rfl, vg_inGW (i := 0) rfl rfl⟩⟩
def r_X10_answer : vg_R := ((yX10_answer, cX10_answer, 2, (some .int), 0, 0, 1, [], false), (fun as σ => ∃ (r : Nat) (a1 : Int32), as = [.ref r, .int a1] ∧ r ∈ ([0] : List Nat) ∧ Iv σ), (fun as σ v σ' => match as, v with
  | [.ref r, .int a1], some (.int v) => Iv σ' ∧ Kp σ σ' ∧ (v = a1 ∧ v.toInt = a1.toInt)
  | _, _ => False))
set_option maxRecDepth 100000 in
theorem k_X10_answer : vg_rok r_X10_answer := ⟨vg_inGW (i := 523) rfl rfl, vg_inGW (i := 74) rfl rfl, ⟨by decide, by decide⟩, plainFor_of_name (by decide), ⟨vg_inGW (i := 522) rfl rfl, vg_inGW (i := 2) rfl rfl⟩⟩
def r_X10_answerLong : vg_R := ((yX10_answerLong, cX10_answerLong, 3, (some .long), 0, 0, 2, [], false), (fun as σ => ∃ (r : Nat) (a1 : Int64), as = [.ref r, .long a1] ∧ r ∈ ([0] : List Nat) ∧ Iv σ), (fun as σ v σ' => match as, v with
  | [.ref r, .long a1], some (.long v) => Iv σ' ∧ Kp σ σ' ∧ (v = a1)
  | _, _ => False))
set_option maxRecDepth 100000 in
theorem k_X10_answerLong : vg_rok r_X10_answerLong := ⟨vg_inGW (i := 803) rfl rfl, vg_inGW (i := 74) rfl rfl, ⟨by decide, by decide⟩, plainFor_of_name (by decide), ⟨vg_inGW (i := 802) rfl rfl, vg_inGW (i := 19) rfl rfl⟩⟩
def r_X10_beginAnewFrom : vg_R := ((yX10_beginAnewFrom, cX10_beginAnewFrom, 3, none, 2, 44, 0, [], false), (fun as σ => ∃ (r : Nat) (a1 : Int32), as = [.ref r, .int a1] ∧ r ∈ ([0] : List Nat) ∧ Iv σ ∧ (0 ≤ a1.toInt ∧ a1.toInt ≤ 6)), (fun as σ v σ' => match as, v with
  | [.ref r, .int a1], none => Iv σ' ∧ Kp σ σ' ∧ (True)
  | _, _ => False))
set_option maxRecDepth 100000 in
theorem k_X10_beginAnewFrom : vg_rok r_X10_beginAnewFrom := ⟨vg_inGW (i := 491) rfl rfl, vg_inGW (i := 74) rfl rfl, ⟨by decide, by decide⟩, plainFor_of_name (by decide), ⟨vg_inGW (i := 490) rfl rfl, vg_inGW (i := 1) rfl rfl⟩⟩
def r_X10_source : vg_R := ((yX10_source, cX10_source, 5, (some .int), 3, 66, 1, [], false), (fun as σ => ∃ (r : Nat) (a1 : Int32) (a2 : Int32) (a3 : Int32) (a4 : Int32), as = [.ref r, .int a1, .int a2, .int a3, .int a4] ∧ r ∈ ([0] : List Nat) ∧ Iv σ), (fun as σ v σ' => match as, v with
  | [.ref r, .int a1, .int a2, .int a3, .int a4], some (.int v) => Iv σ' ∧ Kp σ σ' ∧ (((0 ≤ a1.toInt ∧ a1.toInt ≤ 3 ∧ -30000 ≤ a2.toInt ∧ a2.toInt ≤ 30000 ∧ -30000 ≤ a3.toInt ∧ a3.toInt ≤ 30000 ∧ 1 ≤ a4.toInt ∧ a4.toInt ≤ 1000) ∧ v.toInt = (σ.1 0 1).toInt) ∨ (¬ (0 ≤ a1.toInt ∧ a1.toInt ≤ 3 ∧ -30000 ≤ a2.toInt ∧ a2.toInt ≤ 30000 ∧ -30000 ≤ a3.toInt ∧ a3.toInt ≤ 30000 ∧ 1 ≤ a4.toInt ∧ a4.toInt ≤ 1000) ∧ v.toInt = -1))
  | _, _ => False))
set_option maxRecDepth 100000 in
theorem k_X10_source : vg_rok r_X10_source := ⟨vg_inGW (i := 477) rfl rfl, vg_inGW (i := 74) rfl rfl, ⟨by decide, by decide⟩, plainFor_of_name (by decide), ⟨vg_inGW (i := 475) rfl rfl, vg_inGW (i := 476) rfl rfl⟩⟩
def r_X10_sample : vg_R := ((yX10_sample, cX10_sample, 4, (some .int), 1, 22, 1, [], false), (fun as σ => ∃ (r : Nat) (a1 : Int32) (a2 : Int32), as = [.ref r, .int a1, .int a2] ∧ r ∈ ([0] : List Nat) ∧ Iv σ), (fun as σ v σ' => match as, v with
  | [.ref r, .int a1, .int a2], some (.int v) => Iv σ' ∧ Kp σ σ' ∧ (True)
  | _, _ => False))
set_option maxRecDepth 100000 in
theorem k_X10_sample : vg_rok r_X10_sample := ⟨vg_inGW (i := 527) rfl rfl, vg_inGW (i := 74) rfl rfl, ⟨by decide, by decide⟩, plainFor_of_name (by decide), ⟨vg_inGW (i := 525) rfl rfl, vg_inGW (i := 526) rfl rfl⟩⟩
def r_X10_loop : vg_R := ((yX10_loop, cX10_loop, 8, (some .int), 3, 66, 1, [], false), (fun as σ => ∃ (r : Nat) (a1 : Int32) (a2 : Int32) (a3 : Int32) (a4 : Int32) (a5 : Int32) (a6 : Int32), as = [.ref r, .int a1, .int a2, .int a3, .int a4, .int a5, .int a6] ∧ r ∈ ([0] : List Nat) ∧ Iv σ ∧ (0 ≤ a6.toInt ∧ a6.toInt ≤ 1)), (fun as σ v σ' => match as, v with
  | [.ref r, .int a1, .int a2, .int a3, .int a4, .int a5, .int a6], some (.int v) => Iv σ' ∧ K_X10_loop σ σ' ∧ (((0 ≤ a1.toInt ∧ a1.toInt ≤ 2 ∧ 1 ≤ a2.toInt ∧ a2.toInt ≤ 4 ∧ 1 ≤ a3.toInt ∧ a3.toInt ≤ 5000 ∧ 2 ≤ a4.toInt ∧ a4.toInt ≤ 17 ∧ 1 ≤ a5.toInt ∧ a5.toInt ≤ 60000 ∧ (vg_eo a1 a2 a4).toInt ≤ 16) ∧ v.toInt = (vg_eo a1 a2 a4).toInt ∧ (σ'.1 7 0).toInt = (vg_eo a1 a2 a4).toInt ∧ (σ'.1 20 1).toInt = 0) ∨ (¬ (0 ≤ a1.toInt ∧ a1.toInt ≤ 2 ∧ 1 ≤ a2.toInt ∧ a2.toInt ≤ 4 ∧ 1 ≤ a3.toInt ∧ a3.toInt ≤ 5000 ∧ 2 ≤ a4.toInt ∧ a4.toInt ≤ 17 ∧ 1 ≤ a5.toInt ∧ a5.toInt ≤ 60000 ∧ (vg_eo a1 a2 a4).toInt ≤ 16) ∧ v.toInt = -1 ∧ (σ'.1 7 0).toInt = (σ.1 7 0).toInt ∧ (σ'.1 20 1).toInt = (σ.1 20 1).toInt))
  | _, _ => False))
set_option maxRecDepth 100000 in
theorem k_X10_loop : vg_rok r_X10_loop := ⟨vg_inGW (i := 531) rfl rfl, vg_inGW (i := 74) rfl rfl, ⟨by decide, by decide⟩, plainFor_of_name (by decide), ⟨vg_inGW (i := 529) rfl rfl, vg_inGW (i := 530) rfl rfl⟩⟩
def r_X10_dither : vg_R := ((yX10_dither, cX10_dither, 3, (some .int), 3, 66, 1, [], false), (fun as σ => ∃ (r : Nat) (a1 : Int32) (a2 : Int32), as = [.ref r, .int a1, .int a2] ∧ r ∈ ([0] : List Nat) ∧ Iv σ), (fun as σ v σ' => match as, v with
  | [.ref r, .int a1, .int a2], some (.int v) => Iv σ' ∧ K_X10_dither σ σ' ∧ (((0 ≤ a1.toInt ∧ a1.toInt ≤ 5000 ∧ 0 ≤ a2.toInt) ∧ v.toInt = (σ.1 0 1).toInt) ∨ (¬ (0 ≤ a1.toInt ∧ a1.toInt ≤ 5000 ∧ 0 ≤ a2.toInt) ∧ v.toInt = -1))
  | _, _ => False))
set_option maxRecDepth 100000 in
theorem k_X10_dither : vg_rok r_X10_dither := ⟨vg_inGW (i := 543) rfl rfl, vg_inGW (i := 74) rfl rfl, ⟨by decide, by decide⟩, plainFor_of_name (by decide), ⟨vg_inGW (i := 541) rfl rfl, vg_inGW (i := 542) rfl rfl⟩⟩
def r_X10_way : vg_R := ((yX10_way, cX10_way, 3, (some .int), 3, 66, 1, [], false), (fun as σ => ∃ (r : Nat) (a1 : Int32), as = [.ref r, .int a1] ∧ r ∈ ([0] : List Nat) ∧ Iv σ), (fun as σ v σ' => match as, v with
  | [.ref r, .int a1], some (.int v) => Iv σ' ∧ K_X10_way σ σ' ∧ (((0 ≤ a1.toInt ∧ a1.toInt ≤ 2) ∧ v.toInt = (σ.1 7 1).toInt ∧ (σ'.1 7 1).toInt = a1.toInt) ∨ (¬ (0 ≤ a1.toInt ∧ a1.toInt ≤ 2) ∧ v.toInt = -1 ∧ (σ'.1 7 1).toInt = (σ.1 7 1).toInt))
  | _, _ => False))
set_option maxRecDepth 100000 in
theorem k_X10_way : vg_rok r_X10_way := ⟨vg_inGW (i := 547) rfl rfl, vg_inGW (i := 74) rfl rfl, ⟨by decide, by decide⟩, plainFor_of_name (by decide), ⟨vg_inGW (i := 545) rfl rfl, vg_inGW (i := 546) rfl rfl⟩⟩
def r_X10_deviation : vg_R := ((yX10_deviation, cX10_deviation, 4, (some .int), 3, 66, 1, [], false), (fun as σ => ∃ (r : Nat) (a1 : Int32) (a2 : Int32), as = [.ref r, .int a1, .int a2] ∧ r ∈ ([0] : List Nat) ∧ Iv σ), (fun as σ v σ' => match as, v with
  | [.ref r, .int a1, .int a2], some (.int v) => Iv σ' ∧ K_X10_deviation σ σ' ∧ (((-99 ≤ a2.toInt ∧ a2.toInt ≤ 99 ∧ 0 ≤ a1.toInt ∧ a1.toInt ≤ 15) ∧ v = σ.1 8 a1.toNatClampNeg ∧ ∀ j : Nat, σ'.1 8 j = if j = a1.toNatClampNeg then a2 else σ.1 8 j) ∨ (¬ (-99 ≤ a2.toInt ∧ a2.toInt ≤ 99 ∧ 0 ≤ a1.toInt ∧ a1.toInt ≤ 15) ∧ v.toInt = -1 ∧ ∀ j : Nat, σ'.1 8 j = σ.1 8 j))
  | _, _ => False))
set_option maxRecDepth 100000 in
theorem k_X10_deviation : vg_rok r_X10_deviation := ⟨vg_inGW (i := 551) rfl rfl, vg_inGW (i := 74) rfl rfl, ⟨by decide, by decide⟩, plainFor_of_name (by decide), ⟨vg_inGW (i := 549) rfl rfl, vg_inGW (i := 550) rfl rfl⟩⟩
def r_X10_comb : vg_R := ((yX10_comb, cX10_comb, 5, (some .int), 3, 66, 1, [], false), (fun as σ => ∃ (r : Nat) (a1 : Int32) (a2 : Int32) (a3 : Int32) (a4 : Int32), as = [.ref r, .int a1, .int a2, .int a3, .int a4] ∧ r ∈ ([0] : List Nat) ∧ Iv σ), (fun as σ v σ' => match as, v with
  | [.ref r, .int a1, .int a2, .int a3, .int a4], some (.int v) => Iv σ' ∧ K_X10_comb σ σ' ∧ (((1 ≤ a1.toInt ∧ a1.toInt ≤ 5 ∧ 1 ≤ a2.toInt ∧ a2.toInt ≤ 16 ∧ 8 ≤ a3.toInt ∧ a3.toInt ≤ 32 ∧ 0 ≤ a4.toInt ∧ a4.toInt ≤ 1) ∧ (σ'.1 12 0).toInt = a1.toInt ∧ (σ'.1 12 1).toInt = a2.toInt ∧ vg_isneed (vg_mp a2.toInt64 (vg_cx a4 (σ.1 7 0) (σ.1 8)).toInt64 a1.toNatClampNeg) v) ∨ (¬ (1 ≤ a1.toInt ∧ a1.toInt ≤ 5 ∧ 1 ≤ a2.toInt ∧ a2.toInt ≤ 16 ∧ 8 ≤ a3.toInt ∧ a3.toInt ≤ 32 ∧ 0 ≤ a4.toInt ∧ a4.toInt ≤ 1) ∧ (σ'.1 12 0).toInt = (σ.1 12 0).toInt ∧ (σ'.1 12 1).toInt = (σ.1 12 1).toInt ∧ v.toInt = -1))
  | _, _ => False))
set_option maxRecDepth 100000 in
theorem k_X10_comb : vg_rok r_X10_comb := ⟨vg_inGW (i := 555) rfl rfl, vg_inGW (i := 74) rfl rfl, ⟨by decide, by decide⟩, plainFor_of_name (by decide), ⟨vg_inGW (i := 553) rfl rfl, vg_inGW (i := 554) rfl rfl⟩⟩
def r_X10_taps : vg_R := ((yX10_taps, cX10_taps, 6, (some .int), 3, 66, 1, [], false), (fun as σ => ∃ (r : Nat) (a1 : Int32) (a2 : Int32) (a3 : Int32) (a4 : Int32) (a5 : Int32), as = [.ref r, .int a1, .int a2, .int a3, .int a4, .int a5] ∧ r ∈ ([0] : List Nat) ∧ Iv σ), (fun as σ v σ' => match as, v with
  | [.ref r, .int a1, .int a2, .int a3, .int a4, .int a5], some (.int v) => Iv σ' ∧ K_X10_taps σ σ' ∧ (((-999 ≤ a1.toInt ∧ a1.toInt ≤ 999 ∧ -999 ≤ a2.toInt ∧ a2.toInt ≤ 999 ∧ -999 ≤ a3.toInt ∧ a3.toInt ≤ 999 ∧ -999 ≤ a4.toInt ∧ a4.toInt ≤ 999 ∧ 0 ≤ a5.toInt ∧ a5.toInt ≤ 12) ∧ v.toInt = 2 * (a1.toInt + a2.toInt + a3.toInt) + a4.toInt ∧ σ'.1 16 1 = a5 ∧ σ'.1 17 0 = a1 ∧ σ'.1 17 1 = a2 ∧ σ'.1 17 2 = a3 ∧ σ'.1 17 3 = a4 ∧ σ'.1 17 4 = a3 ∧ σ'.1 17 5 = a2 ∧ σ'.1 17 6 = a1) ∨ (¬ (-999 ≤ a1.toInt ∧ a1.toInt ≤ 999 ∧ -999 ≤ a2.toInt ∧ a2.toInt ≤ 999 ∧ -999 ≤ a3.toInt ∧ a3.toInt ≤ 999 ∧ -999 ≤ a4.toInt ∧ a4.toInt ≤ 999 ∧ 0 ≤ a5.toInt ∧ a5.toInt ≤ 12) ∧ v.toInt = -1 ∧ σ'.1 16 1 = σ.1 16 1 ∧ ∀ j : Nat, σ'.1 17 j = σ.1 17 j))
  | _, _ => False))
set_option maxRecDepth 100000 in
theorem k_X10_taps : vg_rok r_X10_taps := ⟨vg_inGW (i := 575) rfl rfl, vg_inGW (i := 74) rfl rfl, ⟨by decide, by decide⟩, plainFor_of_name (by decide), ⟨vg_inGW (i := 573) rfl rfl, vg_inGW (i := 574) rfl rfl⟩⟩
def r_X10_folds : vg_R := ((yX10_folds, cX10_folds, 5, (some .int), 3, 66, 1, [], false), (fun as σ => ∃ (r : Nat) (a1 : Int32) (a2 : Int32) (a3 : Int32) (a4 : Int32), as = [.ref r, .int a1, .int a2, .int a3, .int a4] ∧ r ∈ ([0] : List Nat) ∧ Iv σ), (fun as σ v σ' => match as, v with
  | [.ref r, .int a1, .int a2, .int a3, .int a4], some (.int v) => Iv σ' ∧ K_X10_folds σ σ' ∧ (((0 ≤ a1.toInt ∧ a1.toInt ≤ 3 ∧ 0 ≤ a2.toInt ∧ a2.toInt ≤ 3 ∧ 0 ≤ a3.toInt ∧ a3.toInt ≤ 3 ∧ 0 ≤ a4.toInt ∧ a4.toInt ≤ 3) ∧ v.toInt = (vg_af a1).toInt) ∨ (¬ (0 ≤ a1.toInt ∧ a1.toInt ≤ 3 ∧ 0 ≤ a2.toInt ∧ a2.toInt ≤ 3 ∧ 0 ≤ a3.toInt ∧ a3.toInt ≤ 3 ∧ 0 ≤ a4.toInt ∧ a4.toInt ≤ 3) ∧ v.toInt = -1))
  | _, _ => False))
set_option maxRecDepth 100000 in
theorem k_X10_folds : vg_rok r_X10_folds := ⟨vg_inGW (i := 600) rfl rfl, vg_inGW (i := 74) rfl rfl, ⟨by decide, by decide⟩, plainFor_of_name (by decide), ⟨vg_inGW (i := 598) rfl rfl, vg_inGW (i := 599) rfl rfl⟩⟩
def r_X10_anew : vg_R := ((yX10_anew, cX10_anew, 2, (some .int), 3, 66, 1, [], false), (fun as σ => ∃ (r : Nat) (a1 : Int32), as = [.ref r, .int a1] ∧ r ∈ ([0] : List Nat) ∧ Iv σ), (fun as σ v σ' => match as, v with
  | [.ref r, .int a1], some (.int v) => Iv σ' ∧ Kp σ σ' ∧ (((0 ≤ a1.toInt ∧ a1.toInt ≤ 6) ∧ v.toInt = (σ.1 0 1).toInt) ∨ (¬ (0 ≤ a1.toInt ∧ a1.toInt ≤ 6) ∧ v.toInt = -1))
  | _, _ => False))
set_option maxRecDepth 100000 in
theorem k_X10_anew : vg_rok r_X10_anew := ⟨vg_inGW (i := 608) rfl rfl, vg_inGW (i := 74) rfl rfl, ⟨by decide, by decide⟩, plainFor_of_name (by decide), ⟨vg_inGW (i := 606) rfl rfl, vg_inGW (i := 607) rfl rfl⟩⟩
def r_X10_handToFolds : vg_R := ((yX10_handToFolds, cX10_handToFolds, 4, none, 2, 46, 0, [], false), (fun as σ => ∃ (r : Nat) (a1 : Int32), as = [.ref r, .int a1] ∧ r ∈ ([0] : List Nat) ∧ Iv σ), (fun as σ v σ' => match as, v with
  | [.ref r, .int a1], none => Iv σ' ∧ Kp σ σ' ∧ (True)
  | _, _ => False))
set_option maxRecDepth 100000 in
theorem k_X10_handToFolds : vg_rok r_X10_handToFolds := ⟨vg_inGW (i := 766) rfl rfl, vg_inGW (i := 74) rfl rfl, ⟨by decide, by decide⟩, plainFor_of_name (by decide), ⟨vg_inGW (i := 765) rfl rfl, vg_inGW (i := 18) rfl rfl⟩⟩
def r_X10_oneClock : vg_R := ((yX10_oneClock, cX10_oneClock, 4, none, 5, 115, 0, [], false), (fun as σ => ∃ (r : Nat), as = [.ref r] ∧ r ∈ ([0] : List Nat) ∧ Iv σ ∧ (0 ≤ (σ.1 0 1).toInt ∧ (σ.1 0 1).toInt ≤ 2000000000)), (fun as σ v σ' => match as, v with
  | [.ref r], none => Iv σ' ∧ K_X10_clocks σ σ' ∧ ((σ'.1 0 1).toInt = (σ.1 0 1).toInt + 1)
  | _, _ => False))
set_option maxRecDepth 100000 in
theorem k_X10_oneClock : vg_rok r_X10_oneClock := ⟨vg_inGW (i := 619) rfl rfl, vg_inGW (i := 74) rfl rfl, ⟨by decide, by decide⟩, plainFor_of_name (by decide), ⟨vg_inGW (i := 618) rfl rfl, vg_inGW (i := 4) rfl rfl⟩⟩
def r_X10_clocks : vg_R := ((yX10_clocks, cX10_clocks, 3, (some .int), 6, 138, 1, [], false), (fun as σ => ∃ (r : Nat) (a1 : Int32), as = [.ref r, .int a1] ∧ r ∈ ([0] : List Nat) ∧ Iv σ ∧ (0 ≤ (σ.1 0 1).toInt ∧ (σ.1 0 1).toInt ≤ 1900000000)), (fun as σ v σ' => match as, v with
  | [.ref r, .int a1], some (.int v) => Iv σ' ∧ K_X10_clocks σ σ' ∧ (((1 ≤ a1.toInt ∧ a1.toInt ≤ 400) ∧ v.toInt = (σ.1 0 1).toInt + a1.toInt ∧ (σ'.1 0 1).toInt = (σ.1 0 1).toInt + a1.toInt) ∨ (¬ (1 ≤ a1.toInt ∧ a1.toInt ≤ 400) ∧ v.toInt = -1 ∧ (σ'.1 0 1).toInt = (σ.1 0 1).toInt))
  | _, _ => False))
set_option maxRecDepth 100000 in
theorem k_X10_clocks : vg_rok r_X10_clocks := ⟨vg_inGW (i := 615) rfl rfl, vg_inGW (i := 74) rfl rfl, ⟨by decide, by decide⟩, plainFor_of_name (by decide), ⟨vg_inGW (i := 613) rfl rfl, vg_inGW (i := 614) rfl rfl⟩⟩
def r_X10_told : vg_R := ((yX10_told, cX10_told, 2, (some .int), 2, 42, 1, [], false), (fun as σ => ∃ (r : Nat) (a1 : Int32), as = [.ref r, .int a1] ∧ r ∈ ([0] : List Nat) ∧ Iv σ), (fun as σ v σ' => match as, v with
  | [.ref r, .int a1], some (.int v) => Iv σ' ∧ Kp σ σ' ∧ (True)
  | _, _ => False))
set_option maxRecDepth 100000 in
theorem k_X10_told : vg_rok r_X10_told := ⟨vg_inGW (i := 783) rfl rfl, vg_inGW (i := 74) rfl rfl, ⟨by decide, by decide⟩, plainFor_of_name (by decide), ⟨vg_inGW (i := 781) rfl rfl, vg_inGW (i := 782) rfl rfl⟩⟩
def r_X10_latest : vg_R := ((yX10_latest, cX10_latest, 3, (some .int), 2, 42, 1, [], false), (fun as σ => ∃ (r : Nat) (a1 : Int32) (a2 : Int32), as = [.ref r, .int a1, .int a2] ∧ r ∈ ([0] : List Nat) ∧ Iv σ), (fun as σ v σ' => match as, v with
  | [.ref r, .int a1, .int a2], some (.int v) => Iv σ' ∧ Kp σ σ' ∧ (True)
  | _, _ => False))
set_option maxRecDepth 100000 in
theorem k_X10_latest : vg_rok r_X10_latest := ⟨vg_inGW (i := 787) rfl rfl, vg_inGW (i := 74) rfl rfl, ⟨by decide, by decide⟩, plainFor_of_name (by decide), ⟨vg_inGW (i := 785) rfl rfl, vg_inGW (i := 786) rfl rfl⟩⟩
def r_X10_state : vg_R := ((yX10_state, cX10_state, 2, (some .int), 1, 22, 1, [], false), (fun as σ => ∃ (r : Nat) (a1 : Int32), as = [.ref r, .int a1] ∧ r ∈ ([0] : List Nat) ∧ Iv σ), (fun as σ v σ' => match as, v with
  | [.ref r, .int a1], some (.int v) => Iv σ' ∧ Kp σ σ' ∧ (True)
  | _, _ => False))
set_option maxRecDepth 100000 in
theorem k_X10_state : vg_rok r_X10_state := ⟨vg_inGW (i := 795) rfl rfl, vg_inGW (i := 74) rfl rfl, ⟨by decide, by decide⟩, plainFor_of_name (by decide), ⟨vg_inGW (i := 793) rfl rfl, vg_inGW (i := 794) rfl rfl⟩⟩
def r_X10_sum : vg_R := ((yX10_sum, cX10_sum, 2, (some .long), 1, 22, 2, [], false), (fun as σ => ∃ (r : Nat) (a1 : Int32), as = [.ref r, .int a1] ∧ r ∈ ([0] : List Nat) ∧ Iv σ), (fun as σ v σ' => match as, v with
  | [.ref r, .int a1], some (.long v) => Iv σ' ∧ Kp σ σ' ∧ (True)
  | _, _ => False))
set_option maxRecDepth 100000 in
theorem k_X10_sum : vg_rok r_X10_sum := ⟨vg_inGW (i := 799) rfl rfl, vg_inGW (i := 74) rfl rfl, ⟨by decide, by decide⟩, plainFor_of_name (by decide), ⟨vg_inGW (i := 797) rfl rfl, vg_inGW (i := 798) rfl rfl⟩⟩
def r_X10_keptByLoop : vg_R := ((yX10_keptByLoop, cX10_keptByLoop, 1, (some .int), 1, 21, 1, [], false), (fun as σ => ∃ (r : Nat), as = [.ref r] ∧ r ∈ ([0] : List Nat) ∧ Iv σ), (fun as σ v σ' => match as, v with
  | [.ref r], some (.int v) => σ' = σ ∧ (0 ≤ v.toInt ∧ v.toInt ≤ 48)
  | _, _ => False))
set_option maxRecDepth 100000 in
theorem k_X10_keptByLoop : vg_rok r_X10_keptByLoop := ⟨vg_inGW (i := 812) rfl rfl, vg_inGW (i := 74) rfl rfl, ⟨by decide, by decide⟩, plainFor_of_name (by decide), ⟨vg_inGW (i := 811) rfl rfl, vg_inGW (i := 20) rfl rfl⟩⟩
def r_X10_greatestGapOf : vg_R := ((yX10_greatestGapOf, cX10_greatestGapOf, 8, (some .long), 2, 42, 2, [], false), (fun as σ => ∃ (r : Nat) (a1 : Int32), as = [.ref r, .int a1] ∧ r ∈ ([0] : List Nat) ∧ Iv σ ∧ (1 ≤ a1.toInt ∧ a1.toInt ≤ 48)), (fun as σ v σ' => match as, v with
  | [.ref r, .int a1], some (.long v) => σ' = σ ∧ (True)
  | _, _ => False))
set_option maxRecDepth 100000 in
theorem k_X10_greatestGapOf : vg_rok r_X10_greatestGapOf := ⟨vg_inGW (i := 817) rfl rfl, vg_inGW (i := 74) rfl rfl, ⟨by decide, by decide⟩, plainFor_of_name (by decide), ⟨vg_inGW (i := 816) rfl rfl, vg_inGW (i := 21) rfl rfl⟩⟩
def r_X10_gap : vg_R := ((yX10_gap, cX10_gap, 3, (some .long), 3, 69, 2, [], false), (fun as σ => ∃ (r : Nat) (a1 : Int32) (a2 : Int32), as = [.ref r, .int a1, .int a2] ∧ r ∈ ([0] : List Nat) ∧ Iv σ), (fun as σ v σ' => match as, v with
  | [.ref r, .int a1, .int a2], some (.long v) => Iv σ' ∧ Kp σ σ' ∧ (True)
  | _, _ => False))
set_option maxRecDepth 100000 in
theorem k_X10_gap : vg_rok r_X10_gap := ⟨vg_inGW (i := 807) rfl rfl, vg_inGW (i := 74) rfl rfl, ⟨by decide, by decide⟩, plainFor_of_name (by decide), ⟨vg_inGW (i := 805) rfl rfl, vg_inGW (i := 806) rfl rfl⟩⟩
def r_X10_range : vg_R := ((yX10_range, cX10_range, 4, (some .long), 2, 44, 2, [], false), (fun as σ => ∃ (r : Nat) (a1 : Int32) (a2 : Int32), as = [.ref r, .int a1, .int a2] ∧ r ∈ ([0] : List Nat) ∧ Iv σ), (fun as σ v σ' => match as, v with
  | [.ref r, .int a1, .int a2], some (.long v) => Iv σ' ∧ Kp σ σ' ∧ (True)
  | _, _ => False))
set_option maxRecDepth 100000 in
theorem k_X10_range : vg_rok r_X10_range := ⟨vg_inGW (i := 824) rfl rfl, vg_inGW (i := 74) rfl rfl, ⟨by decide, by decide⟩, plainFor_of_name (by decide), ⟨vg_inGW (i := 822) rfl rfl, vg_inGW (i := 823) rfl rfl⟩⟩
def r_X10_steady : vg_R := ((yX10_steady, cX10_steady, 3, (some .int), 2, 43, 1, [], false), (fun as σ => ∃ (r : Nat) (a1 : Int32) (a2 : Int32), as = [.ref r, .int a1, .int a2] ∧ r ∈ ([0] : List Nat) ∧ Iv σ), (fun as σ v σ' => match as, v with
  | [.ref r, .int a1, .int a2], some (.int v) => Iv σ' ∧ Kp σ σ' ∧ (True)
  | _, _ => False))
set_option maxRecDepth 100000 in
theorem k_X10_steady : vg_rok r_X10_steady := ⟨vg_inGW (i := 842) rfl rfl, vg_inGW (i := 74) rfl rfl, ⟨by decide, by decide⟩, plainFor_of_name (by decide), ⟨vg_inGW (i := 840) rfl rfl, vg_inGW (i := 841) rfl rfl⟩⟩
def r_X10_element : vg_R := ((yX10_element, cX10_element, 3, (some .int), 1, 22, 1, [], false), (fun as σ => ∃ (r : Nat) (a1 : Int32) (a2 : Int32), as = [.ref r, .int a1, .int a2] ∧ r ∈ ([0] : List Nat) ∧ Iv σ), (fun as σ v σ' => match as, v with
  | [.ref r, .int a1, .int a2], some (.int v) => Iv σ' ∧ Kp σ σ' ∧ (True)
  | _, _ => False))
set_option maxRecDepth 100000 in
theorem k_X10_element : vg_rok r_X10_element := ⟨vg_inGW (i := 851) rfl rfl, vg_inGW (i := 74) rfl rfl, ⟨by decide, by decide⟩, plainFor_of_name (by decide), ⟨vg_inGW (i := 849) rfl rfl, vg_inGW (i := 850) rfl rfl⟩⟩
def r_X10_spread : vg_R := ((yX10_spread, cX10_spread, 1, (some .int), 2, 44, 1, [], false), (fun as σ => ∃ (r : Nat), as = [.ref r] ∧ r ∈ ([0] : List Nat) ∧ Iv σ), (fun as σ v σ' => match as, v with
  | [.ref r], some (.int v) => Iv σ' ∧ Kp σ σ' ∧ (True)
  | _, _ => False))
set_option maxRecDepth 100000 in
theorem k_X10_spread : vg_rok r_X10_spread := ⟨vg_inGW (i := 856) rfl rfl, vg_inGW (i := 74) rfl rfl, ⟨by decide, by decide⟩, plainFor_of_name (by decide), ⟨vg_inGW (i := 854) rfl rfl, vg_inGW (i := 855) rfl rfl⟩⟩
def r_X10_combed : vg_R := ((yX10_combed, cX10_combed, 2, (some .int), 1, 23, 1, [], false), (fun as σ => ∃ (r : Nat) (a1 : Int32), as = [.ref r, .int a1] ∧ r ∈ ([0] : List Nat) ∧ Iv σ), (fun as σ v σ' => match as, v with
  | [.ref r, .int a1], some (.int v) => Iv σ' ∧ Kp σ σ' ∧ (True)
  | _, _ => False))
set_option maxRecDepth 100000 in
theorem k_X10_combed : vg_rok r_X10_combed := ⟨vg_inGW (i := 866) rfl rfl, vg_inGW (i := 74) rfl rfl, ⟨by decide, by decide⟩, plainFor_of_name (by decide), ⟨vg_inGW (i := 864) rfl rfl, vg_inGW (i := 865) rfl rfl⟩⟩
def r_X10_wrong : vg_R := ((yX10_wrong, cX10_wrong, 2, (some .long), 2, 43, 2, [], false), (fun as σ => ∃ (r : Nat) (a1 : Int32), as = [.ref r, .int a1] ∧ r ∈ ([0] : List Nat) ∧ Iv σ), (fun as σ v σ' => match as, v with
  | [.ref r, .int a1], some (.long v) => Iv σ' ∧ Kp σ σ' ∧ (True)
  | _, _ => False))
set_option maxRecDepth 100000 in
theorem k_X10_wrong : vg_rok r_X10_wrong := ⟨vg_inGW (i := 871) rfl rfl, vg_inGW (i := 74) rfl rfl, ⟨by decide, by decide⟩, plainFor_of_name (by decide), ⟨vg_inGW (i := 869) rfl rfl, vg_inGW (i := 870) rfl rfl⟩⟩
def r_X10_work : vg_R := ((yX10_work, cX10_work, 5, (some .int), 3, 67, 1, [], false), (fun as σ => ∃ (r : Nat) (a1 : Int32) (a2 : Int32), as = [.ref r, .int a1, .int a2] ∧ r ∈ ([0] : List Nat) ∧ Iv σ), (fun as σ v σ' => match as, v with
  | [.ref r, .int a1, .int a2], some (.int v) => Iv σ' ∧ Kp σ σ' ∧ (True)
  | _, _ => False))
set_option maxRecDepth 100000 in
theorem k_X10_work : vg_rok r_X10_work := ⟨vg_inGW (i := 875) rfl rfl, vg_inGW (i := 74) rfl rfl, ⟨by decide, by decide⟩, plainFor_of_name (by decide), ⟨vg_inGW (i := 873) rfl rfl, vg_inGW (i := 874) rfl rfl⟩⟩
def r_X10_beat : vg_R := ((yX10_beat, cX10_beat, 3, (some .long), 3, 72, 2, [], false), (fun as σ => ∃ (r : Nat) (a1 : Int32) (a2 : Int32), as = [.ref r, .int a1, .int a2] ∧ r ∈ ([0] : List Nat) ∧ Iv σ), (fun as σ v σ' => match as, v with
  | [.ref r, .int a1, .int a2], some (.long v) => Iv σ' ∧ Kp σ σ' ∧ (True)
  | _, _ => False))
set_option maxRecDepth 100000 in
theorem k_X10_beat : vg_rok r_X10_beat := ⟨vg_inGW (i := 922) rfl rfl, vg_inGW (i := 74) rfl rfl, ⟨by decide, by decide⟩, plainFor_of_name (by decide), ⟨vg_inGW (i := 920) rfl rfl, vg_inGW (i := 921) rfl rfl⟩⟩
def r_X10_tonal : vg_R := ((yX10_tonal, cX10_tonal, 2, (some .int), 4, 100, 1, [], false), (fun as σ => ∃ (r : Nat) (a1 : Int32), as = [.ref r, .int a1] ∧ r ∈ ([0] : List Nat) ∧ Iv σ), (fun as σ v σ' => match as, v with
  | [.ref r, .int a1], some (.int v) => Iv σ' ∧ Kp σ σ' ∧ (True)
  | _, _ => False))
set_option maxRecDepth 100000 in
theorem k_X10_tonal : vg_rok r_X10_tonal := ⟨vg_inGW (i := 931) rfl rfl, vg_inGW (i := 74) rfl rfl, ⟨by decide, by decide⟩, plainFor_of_name (by decide), ⟨vg_inGW (i := 929) rfl rfl, vg_inGW (i := 930) rfl rfl⟩⟩
def r_X10_out : vg_R := ((yX10_out, cX10_out, 5, (some .int), 5, 115, 1, [], false), (fun as σ => ∃ (r : Nat) (a1 : Int32) (a2 : Int32), as = [.ref r, .int a1, .int a2] ∧ r ∈ ([0] : List Nat) ∧ Iv σ), (fun as σ v σ' => match as, v with
  | [.ref r, .int a1, .int a2], some (.int v) => Iv σ' ∧ Kp σ σ' ∧ (True)
  | _, _ => False))
set_option maxRecDepth 100000 in
theorem k_X10_out : vg_rok r_X10_out := ⟨vg_inGW (i := 1012) rfl rfl, vg_inGW (i := 74) rfl rfl, ⟨by decide, by decide⟩, plainFor_of_name (by decide), ⟨vg_inGW (i := 1010) rfl rfl, vg_inGW (i := 1011) rfl rfl⟩⟩
def r_X10_next : vg_R := ((yX10_next, cX10_next, 2, (some .int), 3, 69, 1, [], false), (fun as σ => ∃ (r : Nat) (a1 : Int32), as = [.ref r, .int a1] ∧ r ∈ ([0] : List Nat) ∧ Iv σ), (fun as σ v σ' => match as, v with
  | [.ref r, .int a1], some (.int v) => Iv σ' ∧ Kp σ σ' ∧ (True)
  | _, _ => False))
set_option maxRecDepth 100000 in
theorem k_X10_next : vg_rok r_X10_next := ⟨vg_inGW (i := 1025) rfl rfl, vg_inGW (i := 74) rfl rfl, ⟨by decide, by decide⟩, plainFor_of_name (by decide), ⟨vg_inGW (i := 1023) rfl rfl, vg_inGW (i := 1024) rfl rfl⟩⟩
def r_X10_ahead : vg_R := ((yX10_ahead, cX10_ahead, 5, (some .long), 5, 115, 2, [], false), (fun as σ => ∃ (r : Nat) (a1 : Int32) (a2 : Int32) (a3 : Int32), as = [.ref r, .int a1, .int a2, .int a3] ∧ r ∈ ([0] : List Nat) ∧ Iv σ), (fun as σ v σ' => match as, v with
  | [.ref r, .int a1, .int a2, .int a3], some (.long v) => Iv σ' ∧ Kp σ σ' ∧ (True)
  | _, _ => False))
set_option maxRecDepth 100000 in
theorem k_X10_ahead : vg_rok r_X10_ahead := ⟨vg_inGW (i := 1030) rfl rfl, vg_inGW (i := 74) rfl rfl, ⟨by decide, by decide⟩, plainFor_of_name (by decide), ⟨vg_inGW (i := 1028) rfl rfl, vg_inGW (i := 1029) rfl rfl⟩⟩
def r_X10_hitClocksAhead : vg_R := ((yX10_hitClocksAhead, cX10_hitClocksAhead, 4, (some .int), 5, 115, 1, [], false), (fun as σ => ∃ (r : Nat) (a1 : Int32) (a2 : Int32), as = [.ref r, .int a1, .int a2] ∧ r ∈ ([0] : List Nat) ∧ Iv σ ∧ (1 ≤ a1.toInt ∧ a1.toInt ≤ 400 ∧ 1 ≤ a2.toInt ∧ a2.toInt ≤ 60000)), (fun as σ v σ' => match as, v with
  | [.ref r, .int a1, .int a2], some (.int v) => Iv σ' ∧ Kp σ σ' ∧ (True)
  | _, _ => False))
set_option maxRecDepth 100000 in
theorem k_X10_hitClocksAhead : vg_rok r_X10_hitClocksAhead := ⟨vg_inGW (i := 1048) rfl rfl, vg_inGW (i := 74) rfl rfl, ⟨by decide, by decide⟩, plainFor_of_name (by decide), ⟨vg_inGW (i := 1047) rfl rfl, vg_inGW (i := 28) rfl rfl⟩⟩
def r_X10_strain : vg_R := ((yX10_strain, cX10_strain, 3, (some .int), 6, 138, 1, [], false), (fun as σ => ∃ (r : Nat) (a1 : Int32) (a2 : Int32), as = [.ref r, .int a1, .int a2] ∧ r ∈ ([0] : List Nat) ∧ Iv σ), (fun as σ v σ' => match as, v with
  | [.ref r, .int a1, .int a2], some (.int v) => Iv σ' ∧ Kp σ σ' ∧ (True)
  | _, _ => False))
set_option maxRecDepth 100000 in
theorem k_X10_strain : vg_rok r_X10_strain := ⟨vg_inGW (i := 1044) rfl rfl, vg_inGW (i := 74) rfl rfl, ⟨by decide, by decide⟩, plainFor_of_name (by decide), ⟨vg_inGW (i := 1042) rfl rfl, vg_inGW (i := 1043) rfl rfl⟩⟩
def r_X10_calmed : vg_R := ((yX10_calmed, cX10_calmed, 3, (some .int), 6, 138, 1, [], false), (fun as σ => ∃ (r : Nat) (a1 : Int32) (a2 : Int32), as = [.ref r, .int a1, .int a2] ∧ r ∈ ([0] : List Nat) ∧ Iv σ), (fun as σ v σ' => match as, v with
  | [.ref r, .int a1, .int a2], some (.int v) => Iv σ' ∧ Kp σ σ' ∧ (True)
  | _, _ => False))
set_option maxRecDepth 100000 in
theorem k_X10_calmed : vg_rok r_X10_calmed := ⟨vg_inGW (i := 1052) rfl rfl, vg_inGW (i := 74) rfl rfl, ⟨by decide, by decide⟩, plainFor_of_name (by decide), ⟨vg_inGW (i := 1050) rfl rfl, vg_inGW (i := 1051) rfl rfl⟩⟩
def r_X10_tone : vg_R := ((yX10_tone, cX10_tone, 3, (some .int), 6, 140, 1, [], false), (fun as σ => ∃ (r : Nat) (a1 : Int32) (a2 : Int32), as = [.ref r, .int a1, .int a2] ∧ r ∈ ([0] : List Nat) ∧ Iv σ), (fun as σ v σ' => match as, v with
  | [.ref r, .int a1, .int a2], some (.int v) => Iv σ' ∧ K_X10_tone σ σ' ∧ (((-30000 ≤ a1.toInt ∧ a1.toInt ≤ 30000 ∧ 0 ≤ a2.toInt ∧ a2.toInt ≤ 5) ∧ vg_adk (σ.1 20 1).toInt (σ.1 21) a1 (σ'.1 20 1).toInt (σ'.1 21)) ∨ (¬ (-30000 ≤ a1.toInt ∧ a1.toInt ≤ 30000 ∧ 0 ≤ a2.toInt ∧ a2.toInt ≤ 5) ∧ (σ'.1 20 1).toInt = (σ.1 20 1).toInt ∧ ∀ j : Nat, σ'.1 21 j = σ.1 21 j))
  | _, _ => False))
set_option maxRecDepth 100000 in
theorem k_X10_tone : vg_rok r_X10_tone := ⟨vg_inGW (i := 940) rfl rfl, vg_inGW (i := 74) rfl rfl, ⟨by decide, by decide⟩, plainFor_of_name (by decide), ⟨vg_inGW (i := 938) rfl rfl, vg_inGW (i := 939) rfl rfl⟩⟩
def r_X10_idle : vg_R := ((yX10_idle, cX10_idle, 9, (some .int), 6, 140, 1, [], false), (fun as σ => ∃ (r : Nat) (a1 : Int32) (a2 : Int32) (a3 : Int32) (a4 : Int32), as = [.ref r, .int a1, .int a2, .int a3, .int a4] ∧ r ∈ ([0] : List Nat) ∧ Iv σ), (fun as σ v σ' => match as, v with
  | [.ref r, .int a1, .int a2, .int a3, .int a4], some (.int v) => Iv σ' ∧ Kr σ σ' ∧ (True)
  | _, _ => False))
set_option maxRecDepth 100000 in
theorem k_X10_idle : vg_rok r_X10_idle := ⟨vg_inGW (i := 1021) rfl rfl, vg_inGW (i := 74) rfl rfl, ⟨by decide, by decide⟩, plainFor_of_name (by decide), ⟨vg_inGW (i := 1019) rfl rfl, vg_inGW (i := 1020) rfl rfl⟩⟩
def r_X10_half : vg_R := ((yX10_half, cX10_half, 3, (some .int), 3, 67, 1, [], false), (fun as σ => ∃ (r : Nat) (a1 : Int32) (a2 : Int32), as = [.ref r, .int a1, .int a2] ∧ r ∈ ([0] : List Nat) ∧ Iv σ), (fun as σ v σ' => match as, v with
  | [.ref r, .int a1, .int a2], some (.int v) => Iv σ' ∧ Kp σ σ' ∧ (((0 ≤ a1.toInt ∧ a1.toInt ≤ 3 ∧ 0 ≤ a2.toInt ∧ a2.toInt ≤ 3) ∧ ((a2.toInt = 0 ∧ ((a1.toInt = 3 → v = vg_rs (σ.1 17) 7) ∧ (a1.toInt = 0 → v.toInt = 4) ∧ (a1.toInt = 1 → v.toInt = 32) ∧ (a1.toInt = 2 → v.toInt = 512))) ∨ (a2.toInt = 1 ∧ ((a1.toInt = 3 → (v.toInt = 1 ∧ (σ.1 17 5).toInt = 0) ∨ (v.toInt = 0 ∧ ¬ (σ.1 17 5).toInt = 0)) ∧ ((a1.toInt = 0 ∨ a1.toInt = 1 ∨ a1.toInt = 2) → v.toInt = 1))) ∨ (a2.toInt = 2 ∧ ((a1.toInt = 0 ∧ v.toInt = 2) ∨ (a1.toInt = 1 ∧ v.toInt = 5) ∨ (a1.toInt = 2 ∧ v.toInt = 9) ∨ (¬ a1.toInt = 0 ∧ ¬ a1.toInt = 1 ∧ ¬ a1.toInt = 2 ∧ v.toInt = (σ.1 16 1).toInt))) ∨ (a2.toInt = 3 ∧ (v = vg_cnt (vg_rw σ (vg_rp a1)) (vg_tn a1))))) ∨ (¬ (0 ≤ a1.toInt ∧ a1.toInt ≤ 3 ∧ 0 ≤ a2.toInt ∧ a2.toInt ≤ 3) ∧ v.toInt = -1))
  | _, _ => False))
set_option maxRecDepth 100000 in
theorem k_X10_half : vg_rok r_X10_half := ⟨vg_inGW (i := 913) rfl rfl, vg_inGW (i := 74) rfl rfl, ⟨by decide, by decide⟩, plainFor_of_name (by decide), ⟨vg_inGW (i := 911) rfl rfl, vg_inGW (i := 912) rfl rfl⟩⟩
def r_X10_need : vg_R := ((yX10_need, cX10_need, 3, (some .int), 1, 24, 1, [], false), (fun as σ => ∃ (r : Nat) (a1 : Int32), as = [.ref r, .int a1] ∧ r ∈ ([0] : List Nat) ∧ Iv σ), (fun as σ v σ' => match as, v with
  | [.ref r, .int a1], some (.int v) => Iv σ' ∧ Kp σ σ' ∧ (((0 ≤ a1.toInt ∧ a1.toInt ≤ 100000) ∧ vg_isneed (vg_mp (σ.1 12 1).toInt64 a1.toInt64 (σ.1 12 0).toNatClampNeg) v) ∨ (¬ (0 ≤ a1.toInt ∧ a1.toInt ≤ 100000) ∧ v.toInt = -1))
  | _, _ => False))
set_option maxRecDepth 100000 in
theorem k_X10_need : vg_rok r_X10_need := ⟨vg_inGW (i := 891) rfl rfl, vg_inGW (i := 74) rfl rfl, ⟨by decide, by decide⟩, plainFor_of_name (by decide), ⟨vg_inGW (i := 889) rfl rfl, vg_inGW (i := 890) rfl rfl⟩⟩
def r_X10_asked : vg_R := ((yX10_asked, cX10_asked, 2, (some .int), 1, 21, 1, [], false), (fun as σ => ∃ (r : Nat) (a1 : Int32), as = [.ref r, .int a1] ∧ r ∈ ([0] : List Nat) ∧ Iv σ), (fun as σ v σ' => match as, v with
  | [.ref r, .int a1], some (.int v) => Iv σ' ∧ Kp σ σ' ∧ (((0 ≤ a1.toInt ∧ a1.toInt < (σ.1 20 1).toInt) ∧ v = σ.1 21 a1.toNatClampNeg) ∨ (¬ (0 ≤ a1.toInt ∧ a1.toInt < (σ.1 20 1).toInt) ∧ v.toInt = -1))
  | _, _ => False))
set_option maxRecDepth 100000 in
theorem k_X10_asked : vg_rok r_X10_asked := ⟨vg_inGW (i := 1017) rfl rfl, vg_inGW (i := 74) rfl rfl, ⟨by decide, by decide⟩, plainFor_of_name (by decide), ⟨vg_inGW (i := 1015) rfl rfl, vg_inGW (i := 1016) rfl rfl⟩⟩
def r_X10_response : vg_R := ((yX10_response, cX10_response, 2, (some .int), 2, 45, 1, [], false), (fun as σ => ∃ (r : Nat) (a1 : Int32), as = [.ref r, .int a1] ∧ r ∈ ([0] : List Nat) ∧ Iv σ), (fun as σ v σ' => match as, v with
  | [.ref r, .int a1], some (.int v) => Iv σ' ∧ Kp σ σ' ∧ (((0 ≤ a1.toInt ∧ a1.toInt ≤ vg_lres (σ.1 12 0) (σ.1 12 1)) ∧ v = vg_cc (σ.1 12 1).toNatClampNeg (σ.1 12 0).toNatClampNeg a1.toNatClampNeg) ∨ (¬ (0 ≤ a1.toInt ∧ a1.toInt ≤ vg_lres (σ.1 12 0) (σ.1 12 1)) ∧ v.toInt = -1))
  | _, _ => False))
set_option maxRecDepth 100000 in
theorem k_X10_response : vg_rok r_X10_response := ⟨vg_inGW (i := 896) rfl rfl, vg_inGW (i := 74) rfl rfl, ⟨by decide, by decide⟩, plainFor_of_name (by decide), ⟨vg_inGW (i := 894) rfl rfl, vg_inGW (i := 895) rfl rfl⟩⟩
