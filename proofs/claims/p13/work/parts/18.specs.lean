/-! contracts -/
def r_X11_status : vg_R := ((yX11_status, cX11_status, 1, (some .int), 0, 0, 1, [], false), (fun as σ => ∃ (r : Nat), as = [.ref r] ∧ r ∈ ([55] : List Nat) ∧ Iv σ), (fun as σ v σ' => match as, v with
  | [.ref r], some (.int v) => σ' = σ ∧ (True)
  | _, _ => False))
set_option maxRecDepth 100000 in
theorem k_X11_status : vg_rok r_X11_status := ⟨vg_inGW (i := 1170) rfl rfl, vg_inGW (i := 85) rfl rfl, ⟨by decide, by decide⟩, plainFor_of_name (by decide), ⟨vg_inGW (i := 1168) rfl rfl, vg_inGW (i := 1169) rfl rfl⟩⟩
def r_X11_refuse : vg_R := ((yX11_refuse, cX11_refuse, 2, (some .int), 0, 0, 1, [], false), (fun as σ => ∃ (r : Nat) (a1 : Int32), as = [.ref r, .int a1] ∧ r ∈ ([55] : List Nat) ∧ Iv σ), (fun as σ v σ' => match as, v with
  | [.ref r, .int a1], some (.int v) => Iv σ' ∧ Kp σ σ' ∧ (v.toInt = -1)
  | _, _ => False))
set_option maxRecDepth 100000 in
theorem k_X11_refuse : vg_rok r_X11_refuse := ⟨vg_inGW (i := 1184) rfl rfl, vg_inGW (i := 85) rfl rfl, ⟨by decide, by decide⟩, plainFor_of_name (by decide), ⟨vg_inGW (i := 1183) rfl rfl, vg_inGW (i := 29) rfl rfl⟩⟩
def r_X11_gives : vg_R := ((yX11_gives, cX11_gives, 2, (some .int), 0, 0, 1, [], false), (fun as σ => ∃ (r : Nat) (a1 : Int32), as = [.ref r, .int a1] ∧ r ∈ ([55] : List Nat) ∧ Iv σ), (fun as σ v σ' => match as, v with
  | [.ref r, .int a1], some (.int v) => Iv σ' ∧ Kp σ σ' ∧ (v = a1 ∧ v.toInt = a1.toInt)
  | _, _ => False))
set_option maxRecDepth 100000 in
theorem k_X11_gives : vg_rok r_X11_gives := ⟨vg_inGW (i := 1209) rfl rfl, vg_inGW (i := 85) rfl rfl, ⟨by decide, by decide⟩, plainFor_of_name (by decide), ⟨vg_inGW (i := 1208) rfl rfl, vg_inGW (i := 35) rfl rfl⟩⟩
def r_X11_givesLong : vg_R := ((yX11_givesLong, cX11_givesLong, 3, (some .long), 0, 0, 2, [], false), (fun as σ => ∃ (r : Nat) (a1 : Int64), as = [.ref r, .long a1] ∧ r ∈ ([55] : List Nat) ∧ Iv σ), (fun as σ v σ' => match as, v with
  | [.ref r, .long a1], some (.long v) => Iv σ' ∧ Kp σ σ' ∧ (v = a1)
  | _, _ => False))
set_option maxRecDepth 100000 in
theorem k_X11_givesLong : vg_rok r_X11_givesLong := ⟨vg_inGW (i := 1396) rfl rfl, vg_inGW (i := 85) rfl rfl, ⟨by decide, by decide⟩, plainFor_of_name (by decide), ⟨vg_inGW (i := 1395) rfl rfl, vg_inGW (i := 62) rfl rfl⟩⟩
def r_X11_isFrom : vg_R := ((yX11_isFrom, cX11_isFrom, 3, (some .boolean), 0, 0, 1, [], true), (fun as σ => ∃ (a1 : Int32) (a2 : Int32) (a3 : Int32), as = [.int a1, .int a2, .int a3] ∧ True), (fun as σ v σ' => match as, v with
  | [.int a1, .int a2, .int a3], some (.int v) => σ' = σ ∧ ((v.toInt = 1 ∧ a2.toInt ≤ a1.toInt ∧ a1.toInt ≤ a3.toInt) ∨ (v.toInt = 0 ∧ (a1.toInt < a2.toInt ∨ a3.toInt < a1.toInt)))
  | _, _ => False))
set_option maxRecDepth 100000 in
theorem k_X11_isFrom : vg_rok r_X11_isFrom := ⟨vg_inGW (i := 1177) rfl rfl, vg_inGW (i := 85) rfl rfl, ⟨by decide, by decide⟩, plainFor_of_name (by decide), vg_inGW (i := 1176) rfl rfl⟩
def r_X11_isFar : vg_R := ((yX11_isFar, cX11_isFar, 1, (some .boolean), 1, 22, 1, [], true), (fun as σ => ∃ (a1 : Int32), as = [.int a1] ∧ True), (fun as σ v σ' => match as, v with
  | [.int a1], some (.int v) => σ' = σ ∧ ((v.toInt = 1 ∧ -30000 ≤ a1.toInt ∧ a1.toInt ≤ 30000) ∨ (v.toInt = 0 ∧ (a1.toInt < -30000 ∨ 30000 < a1.toInt)))
  | _, _ => False))
set_option maxRecDepth 100000 in
theorem k_X11_isFar : vg_rok r_X11_isFar := ⟨vg_inGW (i := 1180) rfl rfl, vg_inGW (i := 85) rfl rfl, ⟨by decide, by decide⟩, plainFor_of_name (by decide), vg_inGW (i := 1179) rfl rfl⟩
def r_X11_isTap : vg_R := ((yX11_isTap, cX11_isTap, 1, (some .boolean), 1, 22, 1, [], true), (fun as σ => ∃ (a1 : Int32), as = [.int a1] ∧ True), (fun as σ v σ' => match as, v with
  | [.int a1], some (.int v) => σ' = σ ∧ ((v.toInt = 1 ∧ -999 ≤ a1.toInt ∧ a1.toInt ≤ 999) ∨ (v.toInt = 0 ∧ (a1.toInt < -999 ∨ 999 < a1.toInt)))
  | _, _ => False))
set_option maxRecDepth 100000 in
theorem k_X11_isTap : vg_rok r_X11_isTap := ⟨vg_inGW (i := 1256) rfl rfl, vg_inGW (i := 85) rfl rfl, ⟨by decide, by decide⟩, plainFor_of_name (by decide), vg_inGW (i := 1255) rfl rfl⟩
def r_X11_isStage : vg_R := ((yX11_isStage, cX11_isStage, 1, (some .boolean), 1, 22, 1, [], true), (fun as σ => ∃ (a1 : Int32), as = [.int a1] ∧ True), (fun as σ v σ' => match as, v with
  | [.int a1], some (.int v) => σ' = σ ∧ ((v.toInt = 1 ∧ 0 ≤ a1.toInt ∧ a1.toInt ≤ 6) ∨ (v.toInt = 0 ∧ (a1.toInt < 0 ∨ 6 < a1.toInt)))
  | _, _ => False))
set_option maxRecDepth 100000 in
theorem k_X11_isStage : vg_rok r_X11_isStage := ⟨vg_inGW (i := 1267) rfl rfl, vg_inGW (i := 85) rfl rfl, ⟨by decide, by decide⟩, plainFor_of_name (by decide), vg_inGW (i := 1266) rfl rfl⟩
def r_X11_get : vg_R := ((yX11_get, cX11_get, 2, (some .int), 0, 0, 1, [], false), (fun as σ => ∃ (r : Nat) (a1 : Int32), as = [.ref r, .int a1] ∧ r ∈ ([55] : List Nat) ∧ Iv σ ∧ (0 ≤ a1.toInt ∧ a1.toInt ≤ 480)), (fun as σ v σ' => match as, v with
  | [.ref r, .int a1], some (.int v) => σ' = σ ∧ (v = (σ.2 56 a1.toNatClampNeg).toInt32)
  | _, _ => False))
set_option maxRecDepth 100000 in
theorem k_X11_get : vg_rok r_X11_get := ⟨vg_inGW (i := 1205) rfl rfl, vg_inGW (i := 85) rfl rfl, ⟨by decide, by decide⟩, plainFor_of_name (by decide), ⟨vg_inGW (i := 1204) rfl rfl, vg_inGW (i := 34) rfl rfl⟩⟩
def r_X11_copies : vg_R := ((yX11_copies, cX11_copies, 3, none, 0, 0, 0, [], true), (fun as σ => ∃ (a1 : Nat) (a2 : Nat), as = [.ref a1, .ref a2] ∧ a1 ∈ ([56, 57, 67] : List Nat) ∧ a2 ∈ ([56, 57, 67] : List Nat) ∧ Iv σ ∧ (¬ a1 = a2)), (fun as σ v σ' => match as, v with
  | [.ref a1, .ref a2], none => (σ'.1 = σ.1 ∧ σ'.2 a2 0 = σ.2 a1 0 ∧ ∀ k, k ≠ a2 → σ'.2 k = σ.2 k)
  | _, _ => False))
set_option maxRecDepth 100000 in
theorem k_X11_copies : vg_rok r_X11_copies := ⟨vg_inGW (i := 1476) rfl rfl, vg_inGW (i := 85) rfl rfl, ⟨by decide, by decide⟩, plainFor_of_name (by decide), vg_inGW (i := 1475) rfl rfl⟩
def r_X11_wipes : vg_R := ((yX11_wipes, cX11_wipes, 4, none, 0, 0, 0, [], false), (fun as σ => ∃ (r : Nat) (a1 : Int32) (a2 : Int32), as = [.ref r, .int a1, .int a2] ∧ r ∈ ([55] : List Nat) ∧ Iv σ ∧ (1 ≤ a1.toInt ∧ 0 ≤ a2.toInt ∧ a1.toInt + a2.toInt ≤ 481)), (fun as σ v σ' => match as, v with
  | [.ref r, .int a1, .int a2], none => Iv σ' ∧ Kp σ σ' ∧ (True)
  | _, _ => False))
set_option maxRecDepth 100000 in
theorem k_X11_wipes : vg_rok r_X11_wipes := ⟨vg_inGW (i := 1192) rfl rfl, vg_inGW (i := 85) rfl rfl, ⟨by decide, by decide⟩, plainFor_of_name (by decide), ⟨vg_inGW (i := 1191) rfl rfl, vg_inGW (i := 31) rfl rfl⟩⟩
def r_X11_beginsLoop : vg_R := ((yX11_beginsLoop, cX11_beginsLoop, 1, none, 1, 23, 0, [], false), (fun as σ => ∃ (r : Nat), as = [.ref r] ∧ r ∈ ([55] : List Nat) ∧ Iv σ), (fun as σ v σ' => match as, v with
  | [.ref r], none => Iv σ' ∧ Kp σ σ' ∧ (True)
  | _, _ => False))
set_option maxRecDepth 100000 in
theorem k_X11_beginsLoop : vg_rok r_X11_beginsLoop := ⟨vg_inGW (i := 1196) rfl rfl, vg_inGW (i := 85) rfl rfl, ⟨by decide, by decide⟩, plainFor_of_name (by decide), ⟨vg_inGW (i := 1195) rfl rfl, vg_inGW (i := 32) rfl rfl⟩⟩
def r_X11_beginsElements : vg_R := ((yX11_beginsElements, cX11_beginsElements, 1, none, 1, 23, 0, [], false), (fun as σ => ∃ (r : Nat), as = [.ref r] ∧ r ∈ ([55] : List Nat) ∧ Iv σ), (fun as σ v σ' => match as, v with
  | [.ref r], none => Iv σ' ∧ Kp σ σ' ∧ (True)
  | _, _ => False))
set_option maxRecDepth 100000 in
theorem k_X11_beginsElements : vg_rok r_X11_beginsElements := ⟨vg_inGW (i := 1200) rfl rfl, vg_inGW (i := 85) rfl rfl, ⟨by decide, by decide⟩, plainFor_of_name (by decide), ⟨vg_inGW (i := 1199) rfl rfl, vg_inGW (i := 33) rfl rfl⟩⟩
def r_X11_begins : vg_R := ((yX11_begins, cX11_begins, 3, none, 2, 43, 0, [], false), (fun as σ => ∃ (r : Nat) (a1 : Int32), as = [.ref r, .int a1] ∧ r ∈ ([55] : List Nat) ∧ Iv σ ∧ (0 ≤ a1.toInt ∧ a1.toInt ≤ 6)), (fun as σ v σ' => match as, v with
  | [.ref r, .int a1], none => Iv σ' ∧ Kp σ σ' ∧ (True)
  | _, _ => False))
set_option maxRecDepth 100000 in
theorem k_X11_begins : vg_rok r_X11_begins := ⟨vg_inGW (i := 1188) rfl rfl, vg_inGW (i := 85) rfl rfl, ⟨by decide, by decide⟩, plainFor_of_name (by decide), ⟨vg_inGW (i := 1187) rfl rfl, vg_inGW (i := 30) rfl rfl⟩⟩
def r_X11_elements : vg_R := ((yX11_elements, cX11_elements, 1, (some .int), 0, 0, 1, [], false), (fun as σ => ∃ (r : Nat), as = [.ref r] ∧ r ∈ ([55] : List Nat) ∧ Iv σ), (fun as σ v σ' => match as, v with
  | [.ref r], some (.int v) => σ' = σ ∧ (v = vg_me σ ∧ 1 ≤ v.toInt ∧ v.toInt ≤ 16)
  | _, _ => False))
set_option maxRecDepth 100000 in
theorem k_X11_elements : vg_rok r_X11_elements := ⟨vg_inGW (i := 1221) rfl rfl, vg_inGW (i := 85) rfl rfl, ⟨by decide, by decide⟩, plainFor_of_name (by decide), ⟨vg_inGW (i := 1220) rfl rfl, vg_inGW (i := 36) rfl rfl⟩⟩
def r_X11_besides : vg_R := ((yX11_besides, cX11_besides, 1, (some .int), 0, 0, 1, [], false), (fun as σ => ∃ (r : Nat), as = [.ref r] ∧ r ∈ ([55] : List Nat) ∧ Iv σ), (fun as σ v σ' => match as, v with
  | [.ref r], some (.int v) => σ' = σ ∧ (True)
  | _, _ => False))
set_option maxRecDepth 100000 in
theorem k_X11_besides : vg_rok r_X11_besides := ⟨vg_inGW (i := 1325) rfl rfl, vg_inGW (i := 85) rfl rfl, ⟨by decide, by decide⟩, plainFor_of_name (by decide), ⟨vg_inGW (i := 1324) rfl rfl, vg_inGW (i := 51) rfl rfl⟩⟩
def r_X11_weight : vg_R := ((yX11_weight, cX11_weight, 2, (some .int), 0, 0, 1, [], false), (fun as σ => ∃ (r : Nat) (a1 : Int32), as = [.ref r, .int a1] ∧ r ∈ ([55] : List Nat) ∧ Iv σ ∧ (0 ≤ a1.toInt ∧ a1.toInt ≤ 15)), (fun as σ v σ' => match as, v with
  | [.ref r, .int a1], some (.int v) => σ' = σ ∧ (v = Int32.ofInt 1000 + σ.1 59 a1.toNatClampNeg)
  | _, _ => False))
set_option maxRecDepth 100000 in
theorem k_X11_weight : vg_rok r_X11_weight := ⟨vg_inGW (i := 1245) rfl rfl, vg_inGW (i := 85) rfl rfl, ⟨by decide, by decide⟩, plainFor_of_name (by decide), ⟨vg_inGW (i := 1244) rfl rfl, vg_inGW (i := 38) rfl rfl⟩⟩
def r_X11_weights : vg_R := ((yX11_weights, cX11_weights, 3, (some .int), 1, 21, 1, [], false), (fun as σ => ∃ (r : Nat), as = [.ref r] ∧ r ∈ ([55] : List Nat) ∧ Iv σ), (fun as σ v σ' => match as, v with
  | [.ref r], some (.int v) => σ' = σ ∧ (v = vg_ws (σ.1 59) (vg_me σ).toNatClampNeg)
  | _, _ => False))
set_option maxRecDepth 100000 in
theorem k_X11_weights : vg_rok r_X11_weights := ⟨vg_inGW (i := 1241) rfl rfl, vg_inGW (i := 85) rfl rfl, ⟨by decide, by decide⟩, plainFor_of_name (by decide), ⟨vg_inGW (i := 1240) rfl rfl, vg_inGW (i := 37) rfl rfl⟩⟩
def r_X11_tells : vg_R := ((yX11_tells, cX11_tells, 6, none, 0, 0, 0, [], false), (fun as σ => ∃ (r : Nat) (a1 : Int32) (a2 : Int64), as = [.ref r, .int a1, .long a2] ∧ r ∈ ([55] : List Nat) ∧ Iv σ ∧ (0 ≤ a1.toInt ∧ a1.toInt ≤ 6)), (fun as σ v σ' => match as, v with
  | [.ref r, .int a1, .long a2], none => Iv σ' ∧ Kp σ σ' ∧ (True)
  | _, _ => False))
set_option maxRecDepth 100000 in
theorem k_X11_tells : vg_rok r_X11_tells := ⟨vg_inGW (i := 1284) rfl rfl, vg_inGW (i := 85) rfl rfl, ⟨by decide, by decide⟩, plainFor_of_name (by decide), ⟨vg_inGW (i := 1283) rfl rfl, vg_inGW (i := 42) rfl rfl⟩⟩
def r_X11_many : vg_R := ((yX11_many, cX11_many, 2, (some .int), 1, 21, 1, [], false), (fun as σ => ∃ (r : Nat) (a1 : Int32), as = [.ref r, .int a1] ∧ r ∈ ([55] : List Nat) ∧ Iv σ ∧ (0 ≤ a1.toInt ∧ a1.toInt ≤ 6)), (fun as σ v σ' => match as, v with
  | [.ref r, .int a1], some (.int v) => σ' = σ ∧ (v.toInt ≤ 48)
  | _, _ => False))
set_option maxRecDepth 100000 in
theorem k_X11_many : vg_rok r_X11_many := ⟨vg_inGW (i := 1384) rfl rfl, vg_inGW (i := 85) rfl rfl, ⟨by decide, by decide⟩, plainFor_of_name (by decide), ⟨vg_inGW (i := 1383) rfl rfl, vg_inGW (i := 61) rfl rfl⟩⟩
def r_X11_latestOf : vg_R := ((yX11_latestOf, cX11_latestOf, 3, (some .long), 0, 0, 2, [], false), (fun as σ => ∃ (r : Nat) (a1 : Int32) (a2 : Int32), as = [.ref r, .int a1, .int a2] ∧ r ∈ ([55] : List Nat) ∧ Iv σ ∧ (0 ≤ a1.toInt ∧ a1.toInt ≤ 6 ∧ 0 ≤ a2.toInt ∧ a2.toInt ≤ 47)), (fun as σ v σ' => match as, v with
  | [.ref r, .int a1, .int a2], some (.long v) => σ' = σ ∧ (True)
  | _, _ => False))
set_option maxRecDepth 100000 in
theorem k_X11_latestOf : vg_rok r_X11_latestOf := ⟨vg_inGW (i := 1356) rfl rfl, vg_inGW (i := 85) rfl rfl, ⟨by decide, by decide⟩, plainFor_of_name (by decide), ⟨vg_inGW (i := 1355) rfl rfl, vg_inGW (i := 56) rfl rfl⟩⟩
def r_X11_sourceAt : vg_R := ((yX11_sourceAt, cX11_sourceAt, 3, (some .int), 1, 21, 1, [], false), (fun as σ => ∃ (r : Nat) (a1 : Int32), as = [.ref r, .int a1] ∧ r ∈ ([55] : List Nat) ∧ Iv σ ∧ (0 ≤ a1.toInt)), (fun as σ v σ' => match as, v with
  | [.ref r, .int a1], some (.int v) => σ' = σ ∧ (True)
  | _, _ => False))
set_option maxRecDepth 100000 in
theorem k_X11_sourceAt : vg_rok r_X11_sourceAt := ⟨vg_inGW (i := 1279) rfl rfl, vg_inGW (i := 85) rfl rfl, ⟨by decide, by decide⟩, plainFor_of_name (by decide), ⟨vg_inGW (i := 1278) rfl rfl, vg_inGW (i := 41) rfl rfl⟩⟩
def r_X11_valueOf : vg_R := ((yX11_valueOf, cX11_valueOf, 2, (some .int), 0, 0, 1, [], false), (fun as σ => ∃ (r : Nat) (a1 : Int32), as = [.ref r, .int a1] ∧ r ∈ ([55] : List Nat) ∧ Iv σ), (fun as σ v σ' => match as, v with
  | [.ref r, .int a1], some (.int v) => σ' = σ ∧ (True)
  | _, _ => False))
set_option maxRecDepth 100000 in
theorem k_X11_valueOf : vg_rok r_X11_valueOf := ⟨vg_inGW (i := 1308) rfl rfl, vg_inGW (i := 85) rfl rfl, ⟨by decide, by decide⟩, plainFor_of_name (by decide), ⟨vg_inGW (i := 1307) rfl rfl, vg_inGW (i := 47) rfl rfl⟩⟩
def r_X11_nearest : vg_R := ((yX11_nearest, cX11_nearest, 4, (some .int), 1, 21, 1, [], false), (fun as σ => ∃ (r : Nat) (a1 : Int32), as = [.ref r, .int a1] ∧ r ∈ ([55] : List Nat) ∧ Iv σ), (fun as σ v σ' => match as, v with
  | [.ref r, .int a1], some (.int v) => σ' = σ ∧ (True)
  | _, _ => False))
set_option maxRecDepth 100000 in
theorem k_X11_nearest : vg_rok r_X11_nearest := ⟨vg_inGW (i := 1304) rfl rfl, vg_inGW (i := 85) rfl rfl, ⟨by decide, by decide⟩, plainFor_of_name (by decide), ⟨vg_inGW (i := 1303) rfl rfl, vg_inGW (i := 46) rfl rfl⟩⟩
def r_X11_held : vg_R := ((yX11_held, cX11_held, 3, (some .int), 1, 21, 1, [], false), (fun as σ => ∃ (r : Nat) (a1 : Int32), as = [.ref r, .int a1] ∧ r ∈ ([55] : List Nat) ∧ Iv σ), (fun as σ v σ' => match as, v with
  | [.ref r, .int a1], some (.int v) => Iv σ' ∧ Kp σ σ' ∧ (True)
  | _, _ => False))
set_option maxRecDepth 100000 in
theorem k_X11_held : vg_rok r_X11_held := ⟨vg_inGW (i := 1313) rfl rfl, vg_inGW (i := 85) rfl rfl, ⟨by decide, by decide⟩, plainFor_of_name (by decide), ⟨vg_inGW (i := 1312) rfl rfl, vg_inGW (i := 48) rfl rfl⟩⟩
def r_X11_drawn : vg_R := ((yX11_drawn, cX11_drawn, 1, (some .int), 0, 0, 1, [], false), (fun as σ => ∃ (r : Nat), as = [.ref r] ∧ r ∈ ([55] : List Nat) ∧ Iv σ), (fun as σ v σ' => match as, v with
  | [.ref r], some (.int v) => Iv σ' ∧ Kp σ σ' ∧ (True)
  | _, _ => False))
set_option maxRecDepth 100000 in
theorem k_X11_drawn : vg_rok r_X11_drawn := ⟨vg_inGW (i := 1288) rfl rfl, vg_inGW (i := 85) rfl rfl, ⟨by decide, by decide⟩, plainFor_of_name (by decide), ⟨vg_inGW (i := 1287) rfl rfl, vg_inGW (i := 43) rfl rfl⟩⟩
def r_X11_byErrors : vg_R := ((yX11_byErrors, cX11_byErrors, 8, (some .int), 2, 44, 1, [], false), (fun as σ => ∃ (r : Nat) (a1 : Int32) (a2 : Int32), as = [.ref r, .int a1, .int a2] ∧ r ∈ ([55] : List Nat) ∧ Iv σ), (fun as σ v σ' => match as, v with
  | [.ref r, .int a1, .int a2], some (.int v) => Iv σ' ∧ Kp σ σ' ∧ (True)
  | _, _ => False))
set_option maxRecDepth 100000 in
theorem k_X11_byErrors : vg_rok r_X11_byErrors := ⟨vg_inGW (i := 1300) rfl rfl, vg_inGW (i := 85) rfl rfl, ⟨by decide, by decide⟩, plainFor_of_name (by decide), ⟨vg_inGW (i := 1299) rfl rfl, vg_inGW (i := 45) rfl rfl⟩⟩
def r_X11_bySums : vg_R := ((yX11_bySums, cX11_bySums, 5, (some .int), 2, 44, 1, [], false), (fun as σ => ∃ (r : Nat) (a1 : Int32) (a2 : Int32), as = [.ref r, .int a1, .int a2] ∧ r ∈ ([55] : List Nat) ∧ Iv σ), (fun as σ v σ' => match as, v with
  | [.ref r, .int a1, .int a2], some (.int v) => Iv σ' ∧ Kp σ σ' ∧ (True)
  | _, _ => False))
set_option maxRecDepth 100000 in
theorem k_X11_bySums : vg_rok r_X11_bySums := ⟨vg_inGW (i := 1317) rfl rfl, vg_inGW (i := 85) rfl rfl, ⟨by decide, by decide⟩, plainFor_of_name (by decide), ⟨vg_inGW (i := 1316) rfl rfl, vg_inGW (i := 49) rfl rfl⟩⟩
def r_X11_byCascade : vg_R := ((yX11_byCascade, cX11_byCascade, 10, (some .int), 2, 44, 1, [], false), (fun as σ => ∃ (r : Nat) (a1 : Int32) (a2 : Int32), as = [.ref r, .int a1, .int a2] ∧ r ∈ ([55] : List Nat) ∧ Iv σ), (fun as σ v σ' => match as, v with
  | [.ref r, .int a1, .int a2], some (.int v) => Iv σ' ∧ Kp σ σ' ∧ (True)
  | _, _ => False))
set_option maxRecDepth 100000 in
theorem k_X11_byCascade : vg_rok r_X11_byCascade := ⟨vg_inGW (i := 1321) rfl rfl, vg_inGW (i := 85) rfl rfl, ⟨by decide, by decide⟩, plainFor_of_name (by decide), ⟨vg_inGW (i := 1320) rfl rfl, vg_inGW (i := 50) rfl rfl⟩⟩
def r_X11_loops : vg_R := ((yX11_loops, cX11_loops, 4, (some .int), 3, 73, 1, [], false), (fun as σ => ∃ (r : Nat) (a1 : Int32) (a2 : Int32), as = [.ref r, .int a1, .int a2] ∧ r ∈ ([55] : List Nat) ∧ Iv σ), (fun as σ v σ' => match as, v with
  | [.ref r, .int a1, .int a2], some (.int v) => Iv σ' ∧ Kp σ σ' ∧ (True)
  | _, _ => False))
set_option maxRecDepth 100000 in
theorem k_X11_loops : vg_rok r_X11_loops := ⟨vg_inGW (i := 1296) rfl rfl, vg_inGW (i := 85) rfl rfl, ⟨by decide, by decide⟩, plainFor_of_name (by decide), ⟨vg_inGW (i := 1295) rfl rfl, vg_inGW (i := 44) rfl rfl⟩⟩
def r_X11_wouldBeOn : vg_R := ((yX11_wouldBeOn, cX11_wouldBeOn, 7, (some .int), 1, 21, 1, [], false), (fun as σ => ∃ (r : Nat) (a1 : Int32), as = [.ref r, .int a1] ∧ r ∈ ([55] : List Nat) ∧ Iv σ), (fun as σ v σ' => match as, v with
  | [.ref r, .int a1], some (.int v) => σ' = σ ∧ (True)
  | _, _ => False))
set_option maxRecDepth 100000 in
theorem k_X11_wouldBeOn : vg_rok r_X11_wouldBeOn := ⟨vg_inGW (i := 1335) rfl rfl, vg_inGW (i := 85) rfl rfl, ⟨by decide, by decide⟩, plainFor_of_name (by decide), ⟨vg_inGW (i := 1334) rfl rfl, vg_inGW (i := 53) rfl rfl⟩⟩
def r_X11_bounded : vg_R := ((yX11_bounded, cX11_bounded, 2, (some .long), 1, 23, 2, [], true), (fun as σ => ∃ (a1 : Int64), as = [.long a1] ∧ True), (fun as σ v σ' => match as, v with
  | [.long a1], some (.long v) => σ' = σ ∧ (True)
  | _, _ => False))
set_option maxRecDepth 100000 in
theorem k_X11_bounded : vg_rok r_X11_bounded := ⟨vg_inGW (i := 1339) rfl rfl, vg_inGW (i := 85) rfl rfl, ⟨by decide, by decide⟩, plainFor_of_name (by decide), vg_inGW (i := 1338) rfl rfl⟩
def r_X11_goesElements : vg_R := ((yX11_goesElements, cX11_goesElements, 7, (some .int), 2, 47, 1, [], false), (fun as σ => ∃ (r : Nat) (a1 : Int32), as = [.ref r, .int a1] ∧ r ∈ ([55] : List Nat) ∧ Iv σ), (fun as σ v σ' => match as, v with
  | [.ref r, .int a1], some (.int v) => Iv σ' ∧ Kp σ σ' ∧ (True)
  | _, _ => False))
set_option maxRecDepth 100000 in
theorem k_X11_goesElements : vg_rok r_X11_goesElements := ⟨vg_inGW (i := 1331) rfl rfl, vg_inGW (i := 85) rfl rfl, ⟨by decide, by decide⟩, plainFor_of_name (by decide), ⟨vg_inGW (i := 1330) rfl rfl, vg_inGW (i := 52) rfl rfl⟩⟩
def r_X11_worded : vg_R := ((yX11_worded, cX11_worded, 3, (some .long), 0, 0, 2, [], false), (fun as σ => ∃ (r : Nat) (a1 : Int64), as = [.ref r, .long a1] ∧ r ∈ ([55] : List Nat) ∧ Iv σ), (fun as σ v σ' => match as, v with
  | [.ref r, .long a1], some (.long v) => σ' = σ ∧ (True)
  | _, _ => False))
set_option maxRecDepth 100000 in
theorem k_X11_worded : vg_rok r_X11_worded := ⟨vg_inGW (i := 1352) rfl rfl, vg_inGW (i := 85) rfl rfl, ⟨by decide, by decide⟩, plainFor_of_name (by decide), ⟨vg_inGW (i := 1351) rfl rfl, vg_inGW (i := 55) rfl rfl⟩⟩
def r_X11_combs : vg_R := ((yX11_combs, cX11_combs, 12, (some .boolean), 1, 25, 1, [], false), (fun as σ => ∃ (r : Nat) (a1 : Int64), as = [.ref r, .long a1] ∧ r ∈ ([55] : List Nat) ∧ Iv σ), (fun as σ v σ' => match as, v with
  | [.ref r, .long a1], some (.int v) => Iv σ' ∧ Kp σ σ' ∧ (0 ≤ v.toInt ∧ v.toInt ≤ 1)
  | _, _ => False))
set_option maxRecDepth 100000 in
theorem k_X11_combs : vg_rok r_X11_combs := ⟨vg_inGW (i := 1348) rfl rfl, vg_inGW (i := 85) rfl rfl, ⟨by decide, by decide⟩, plainFor_of_name (by decide), ⟨vg_inGW (i := 1347) rfl rfl, vg_inGW (i := 54) rfl rfl⟩⟩
def r_X11_tapMany : vg_R := ((yX11_tapMany, cX11_tapMany, 2, (some .int), 0, 0, 1, [], false), (fun as σ => ∃ (r : Nat) (a1 : Int32), as = [.ref r, .int a1] ∧ r ∈ ([55] : List Nat) ∧ Iv σ), (fun as σ v σ' => match as, v with
  | [.ref r, .int a1], some (.int v) => σ' = σ ∧ (((a1.toInt = 0 ∧ v.toInt = 3) ∨ (a1.toInt = 2 ∧ v.toInt = 11) ∨ (¬ a1.toInt = 0 ∧ ¬ a1.toInt = 2 ∧ v.toInt = 7)) ∧ v.toInt = (vg_tn a1 : Int))
  | _, _ => False))
set_option maxRecDepth 100000 in
theorem k_X11_tapMany : vg_rok r_X11_tapMany := ⟨vg_inGW (i := 1364) rfl rfl, vg_inGW (i := 85) rfl rfl, ⟨by decide, by decide⟩, plainFor_of_name (by decide), ⟨vg_inGW (i := 1363) rfl rfl, vg_inGW (i := 58) rfl rfl⟩⟩
def r_X11_tapOf : vg_R := ((yX11_tapOf, cX11_tapOf, 4, (some .int), 1, 21, 1, [], false), (fun as σ => ∃ (r : Nat) (a1 : Int32) (a2 : Int32), as = [.ref r, .int a1, .int a2] ∧ r ∈ ([55] : List Nat) ∧ Iv σ ∧ (0 ≤ a2.toInt ∧ ((a1.toInt = 0 ∧ a2.toInt ≤ 2) ∨ (a1.toInt = 2 ∧ a2.toInt ≤ 10) ∨ (¬ a1.toInt = 0 ∧ ¬ a1.toInt = 2 ∧ a2.toInt ≤ 6)))), (fun as σ v σ' => match as, v with
  | [.ref r, .int a1, .int a2], some (.int v) => σ' = σ ∧ (v = vg_tp (σ.1 61) a1 a2.toNatClampNeg)
  | _, _ => False))
set_option maxRecDepth 100000 in
theorem k_X11_tapOf : vg_rok r_X11_tapOf := ⟨vg_inGW (i := 1368) rfl rfl, vg_inGW (i := 85) rfl rfl, ⟨by decide, by decide⟩, plainFor_of_name (by decide), ⟨vg_inGW (i := 1367) rfl rfl, vg_inGW (i := 59) rfl rfl⟩⟩
def r_X11_shiftOf : vg_R := ((yX11_shiftOf, cX11_shiftOf, 2, (some .int), 0, 0, 1, [], false), (fun as σ => ∃ (r : Nat) (a1 : Int32), as = [.ref r, .int a1] ∧ r ∈ ([55] : List Nat) ∧ Iv σ), (fun as σ v σ' => match as, v with
  | [.ref r, .int a1], some (.int v) => σ' = σ ∧ ((a1.toInt = 0 ∧ v.toInt = 2) ∨ (a1.toInt = 1 ∧ v.toInt = 5) ∨ (a1.toInt = 2 ∧ v.toInt = 9) ∨ (¬ a1.toInt = 0 ∧ ¬ a1.toInt = 1 ∧ ¬ a1.toInt = 2 ∧ v.toInt = (σ.1 55 21).toInt))
  | _, _ => False))
set_option maxRecDepth 100000 in
theorem k_X11_shiftOf : vg_rok r_X11_shiftOf := ⟨vg_inGW (i := 1372) rfl rfl, vg_inGW (i := 85) rfl rfl, ⟨by decide, by decide⟩, plainFor_of_name (by decide), ⟨vg_inGW (i := 1371) rfl rfl, vg_inGW (i := 60) rfl rfl⟩⟩
def r_X11_folds : vg_R := ((yX11_folds, cX11_folds, 8, (some .boolean), 2, 44, 1, [], false), (fun as σ => ∃ (r : Nat) (a1 : Int32) (a2 : Int64), as = [.ref r, .int a1, .long a2] ∧ r ∈ ([55] : List Nat) ∧ Iv σ ∧ (0 ≤ a1.toInt ∧ a1.toInt ≤ 2)), (fun as σ v σ' => match as, v with
  | [.ref r, .int a1, .long a2], some (.int v) => Iv σ' ∧ Kp σ σ' ∧ (0 ≤ v.toInt ∧ v.toInt ≤ 1)
  | _, _ => False))
set_option maxRecDepth 100000 in
theorem k_X11_folds : vg_rok r_X11_folds := ⟨vg_inGW (i := 1360) rfl rfl, vg_inGW (i := 85) rfl rfl, ⟨by decide, by decide⟩, plainFor_of_name (by decide), ⟨vg_inGW (i := 1359) rfl rfl, vg_inGW (i := 57) rfl rfl⟩⟩
def r_X11_goes : vg_R := ((yX11_goes, cX11_goes, 6, none, 4, 96, 0, [], false), (fun as σ => ∃ (r : Nat), as = [.ref r] ∧ r ∈ ([55] : List Nat) ∧ Iv σ ∧ (0 ≤ (σ.2 56 0).toInt ∧ (σ.2 56 0).toInt ≤ 2000000000)), (fun as σ v σ' => match as, v with
  | [.ref r], none => Iv σ' ∧ Kg σ σ' ∧ ((σ'.2 56 0).toInt = (σ.2 56 0).toInt + 1)
  | _, _ => False))
set_option maxRecDepth 100000 in
theorem k_X11_goes : vg_rok r_X11_goes := ⟨vg_inGW (i := 1275) rfl rfl, vg_inGW (i := 85) rfl rfl, ⟨by decide, by decide⟩, plainFor_of_name (by decide), ⟨vg_inGW (i := 1274) rfl rfl, vg_inGW (i := 40) rfl rfl⟩⟩
def r_X11_source : vg_R := ((yX11_source, cX11_source, 5, (some .int), 3, 65, 1, [], false), (fun as σ => ∃ (r : Nat) (a1 : Int32) (a2 : Int32) (a3 : Int32) (a4 : Int32), as = [.ref r, .int a1, .int a2, .int a3, .int a4] ∧ r ∈ ([55] : List Nat) ∧ Iv σ ∧ (0 ≤ (σ.2 56 0).toInt ∧ (σ.2 56 0).toInt ≤ 1900000000)), (fun as σ v σ' => match as, v with
  | [.ref r, .int a1, .int a2, .int a3, .int a4], some (.int v) => Iv σ' ∧ Kp σ σ' ∧ (((0 ≤ a1.toInt ∧ a1.toInt ≤ 3 ∧ -30000 ≤ a2.toInt ∧ a2.toInt ≤ 30000 ∧ -30000 ≤ a3.toInt ∧ a3.toInt ≤ 30000 ∧ 1 ≤ a4.toInt ∧ a4.toInt ≤ 1000) ∧ v.toInt = (σ.2 56 0).toInt) ∨ (¬ (0 ≤ a1.toInt ∧ a1.toInt ≤ 3 ∧ -30000 ≤ a2.toInt ∧ a2.toInt ≤ 30000 ∧ -30000 ≤ a3.toInt ∧ a3.toInt ≤ 30000 ∧ 1 ≤ a4.toInt ∧ a4.toInt ≤ 1000) ∧ v.toInt = -1))
  | _, _ => False))
set_option maxRecDepth 100000 in
theorem k_X11_source : vg_rok r_X11_source := ⟨vg_inGW (i := 1174) rfl rfl, vg_inGW (i := 85) rfl rfl, ⟨by decide, by decide⟩, plainFor_of_name (by decide), ⟨vg_inGW (i := 1172) rfl rfl, vg_inGW (i := 1173) rfl rfl⟩⟩
def r_X11_anew : vg_R := ((yX11_anew, cX11_anew, 2, (some .int), 3, 65, 1, [], false), (fun as σ => ∃ (r : Nat) (a1 : Int32), as = [.ref r, .int a1] ∧ r ∈ ([55] : List Nat) ∧ Iv σ ∧ (0 ≤ (σ.2 56 0).toInt ∧ (σ.2 56 0).toInt ≤ 1900000000)), (fun as σ v σ' => match as, v with
  | [.ref r, .int a1], some (.int v) => Iv σ' ∧ Kp σ σ' ∧ (((0 ≤ a1.toInt ∧ a1.toInt ≤ 6) ∧ v.toInt = (σ.2 56 0).toInt) ∨ (¬ (0 ≤ a1.toInt ∧ a1.toInt ≤ 6) ∧ v.toInt = -1))
  | _, _ => False))
set_option maxRecDepth 100000 in
theorem k_X11_anew : vg_rok r_X11_anew := ⟨vg_inGW (i := 1264) rfl rfl, vg_inGW (i := 85) rfl rfl, ⟨by decide, by decide⟩, plainFor_of_name (by decide), ⟨vg_inGW (i := 1262) rfl rfl, vg_inGW (i := 1263) rfl rfl⟩⟩
def r_X11_sample : vg_R := ((yX11_sample, cX11_sample, 4, (some .int), 2, 42, 1, [], false), (fun as σ => ∃ (r : Nat) (a1 : Int32) (a2 : Int32), as = [.ref r, .int a1, .int a2] ∧ r ∈ ([55] : List Nat) ∧ Iv σ), (fun as σ v σ' => match as, v with
  | [.ref r, .int a1, .int a2], some (.int v) => Iv σ' ∧ Kp σ σ' ∧ (True)
  | _, _ => False))
set_option maxRecDepth 100000 in
theorem k_X11_sample : vg_rok r_X11_sample := ⟨vg_inGW (i := 1213) rfl rfl, vg_inGW (i := 85) rfl rfl, ⟨by decide, by decide⟩, plainFor_of_name (by decide), ⟨vg_inGW (i := 1211) rfl rfl, vg_inGW (i := 1212) rfl rfl⟩⟩
def r_X11_told : vg_R := ((yX11_told, cX11_told, 2, (some .int), 2, 42, 1, [], false), (fun as σ => ∃ (r : Nat) (a1 : Int32), as = [.ref r, .int a1] ∧ r ∈ ([55] : List Nat) ∧ Iv σ), (fun as σ v σ' => match as, v with
  | [.ref r, .int a1], some (.int v) => Iv σ' ∧ Kp σ σ' ∧ (True)
  | _, _ => False))
set_option maxRecDepth 100000 in
theorem k_X11_told : vg_rok r_X11_told := ⟨vg_inGW (i := 1376) rfl rfl, vg_inGW (i := 85) rfl rfl, ⟨by decide, by decide⟩, plainFor_of_name (by decide), ⟨vg_inGW (i := 1374) rfl rfl, vg_inGW (i := 1375) rfl rfl⟩⟩
def r_X11_latest : vg_R := ((yX11_latest, cX11_latest, 3, (some .int), 2, 42, 1, [], false), (fun as σ => ∃ (r : Nat) (a1 : Int32) (a2 : Int32), as = [.ref r, .int a1, .int a2] ∧ r ∈ ([55] : List Nat) ∧ Iv σ), (fun as σ v σ' => match as, v with
  | [.ref r, .int a1, .int a2], some (.int v) => Iv σ' ∧ Kp σ σ' ∧ (True)
  | _, _ => False))
set_option maxRecDepth 100000 in
theorem k_X11_latest : vg_rok r_X11_latest := ⟨vg_inGW (i := 1380) rfl rfl, vg_inGW (i := 85) rfl rfl, ⟨by decide, by decide⟩, plainFor_of_name (by decide), ⟨vg_inGW (i := 1378) rfl rfl, vg_inGW (i := 1379) rfl rfl⟩⟩
def r_X11_state : vg_R := ((yX11_state, cX11_state, 2, (some .int), 1, 22, 1, [], false), (fun as σ => ∃ (r : Nat) (a1 : Int32), as = [.ref r, .int a1] ∧ r ∈ ([55] : List Nat) ∧ Iv σ), (fun as σ v σ' => match as, v with
  | [.ref r, .int a1], some (.int v) => Iv σ' ∧ Kp σ σ' ∧ (True)
  | _, _ => False))
set_option maxRecDepth 100000 in
theorem k_X11_state : vg_rok r_X11_state := ⟨vg_inGW (i := 1388) rfl rfl, vg_inGW (i := 85) rfl rfl, ⟨by decide, by decide⟩, plainFor_of_name (by decide), ⟨vg_inGW (i := 1386) rfl rfl, vg_inGW (i := 1387) rfl rfl⟩⟩
def r_X11_sum : vg_R := ((yX11_sum, cX11_sum, 2, (some .long), 1, 22, 2, [], false), (fun as σ => ∃ (r : Nat) (a1 : Int32), as = [.ref r, .int a1] ∧ r ∈ ([55] : List Nat) ∧ Iv σ), (fun as σ v σ' => match as, v with
  | [.ref r, .int a1], some (.long v) => Iv σ' ∧ Kp σ σ' ∧ (True)
  | _, _ => False))
set_option maxRecDepth 100000 in
theorem k_X11_sum : vg_rok r_X11_sum := ⟨vg_inGW (i := 1392) rfl rfl, vg_inGW (i := 85) rfl rfl, ⟨by decide, by decide⟩, plainFor_of_name (by decide), ⟨vg_inGW (i := 1390) rfl rfl, vg_inGW (i := 1391) rfl rfl⟩⟩
def r_X11_element : vg_R := ((yX11_element, cX11_element, 3, (some .int), 1, 22, 1, [], false), (fun as σ => ∃ (r : Nat) (a1 : Int32) (a2 : Int32), as = [.ref r, .int a1, .int a2] ∧ r ∈ ([55] : List Nat) ∧ Iv σ), (fun as σ v σ' => match as, v with
  | [.ref r, .int a1, .int a2], some (.int v) => Iv σ' ∧ Kp σ σ' ∧ (True)
  | _, _ => False))
set_option maxRecDepth 100000 in
theorem k_X11_element : vg_rok r_X11_element := ⟨vg_inGW (i := 1412) rfl rfl, vg_inGW (i := 85) rfl rfl, ⟨by decide, by decide⟩, plainFor_of_name (by decide), ⟨vg_inGW (i := 1410) rfl rfl, vg_inGW (i := 1411) rfl rfl⟩⟩
def r_X11_spreadNow : vg_R := ((yX11_spreadNow, cX11_spreadNow, 4, (some .int), 1, 21, 1, [], false), (fun as σ => ∃ (r : Nat), as = [.ref r] ∧ r ∈ ([55] : List Nat) ∧ Iv σ), (fun as σ v σ' => match as, v with
  | [.ref r], some (.int v) => σ' = σ ∧ (True)
  | _, _ => False))
set_option maxRecDepth 100000 in
theorem k_X11_spreadNow : vg_rok r_X11_spreadNow := ⟨vg_inGW (i := 1420) rfl rfl, vg_inGW (i := 85) rfl rfl, ⟨by decide, by decide⟩, plainFor_of_name (by decide), ⟨vg_inGW (i := 1419) rfl rfl, vg_inGW (i := 63) rfl rfl⟩⟩
def r_X11_spread : vg_R := ((yX11_spread, cX11_spread, 1, (some .int), 2, 44, 1, [], false), (fun as σ => ∃ (r : Nat), as = [.ref r] ∧ r ∈ ([55] : List Nat) ∧ Iv σ), (fun as σ v σ' => match as, v with
  | [.ref r], some (.int v) => Iv σ' ∧ Kp σ σ' ∧ (True)
  | _, _ => False))
set_option maxRecDepth 100000 in
theorem k_X11_spread : vg_rok r_X11_spread := ⟨vg_inGW (i := 1416) rfl rfl, vg_inGW (i := 85) rfl rfl, ⟨by decide, by decide⟩, plainFor_of_name (by decide), ⟨vg_inGW (i := 1414) rfl rfl, vg_inGW (i := 1415) rfl rfl⟩⟩
def r_X11_combed : vg_R := ((yX11_combed, cX11_combed, 2, (some .int), 1, 22, 1, [], false), (fun as σ => ∃ (r : Nat) (a1 : Int32), as = [.ref r, .int a1] ∧ r ∈ ([55] : List Nat) ∧ Iv σ), (fun as σ v σ' => match as, v with
  | [.ref r, .int a1], some (.int v) => Iv σ' ∧ Kp σ σ' ∧ (True)
  | _, _ => False))
set_option maxRecDepth 100000 in
theorem k_X11_combed : vg_rok r_X11_combed := ⟨vg_inGW (i := 1424) rfl rfl, vg_inGW (i := 85) rfl rfl, ⟨by decide, by decide⟩, plainFor_of_name (by decide), ⟨vg_inGW (i := 1422) rfl rfl, vg_inGW (i := 1423) rfl rfl⟩⟩
def r_X11_wrong : vg_R := ((yX11_wrong, cX11_wrong, 2, (some .long), 1, 22, 2, [], false), (fun as σ => ∃ (r : Nat) (a1 : Int32), as = [.ref r, .int a1] ∧ r ∈ ([55] : List Nat) ∧ Iv σ), (fun as σ v σ' => match as, v with
  | [.ref r, .int a1], some (.long v) => Iv σ' ∧ Kp σ σ' ∧ (True)
  | _, _ => False))
set_option maxRecDepth 100000 in
theorem k_X11_wrong : vg_rok r_X11_wrong := ⟨vg_inGW (i := 1428) rfl rfl, vg_inGW (i := 85) rfl rfl, ⟨by decide, by decide⟩, plainFor_of_name (by decide), ⟨vg_inGW (i := 1426) rfl rfl, vg_inGW (i := 1427) rfl rfl⟩⟩
def r_X11_unlikeNone : vg_R := ((yX11_unlikeNone, cX11_unlikeNone, 4, (some .int), 2, 44, 1, [], false), (fun as σ => ∃ (r : Nat) (a1 : Int32), as = [.ref r, .int a1] ∧ r ∈ ([55] : List Nat) ∧ Iv σ), (fun as σ v σ' => match as, v with
  | [.ref r, .int a1], some (.int v) => σ' = σ ∧ (v = vg_cnt (vg_tp (σ.1 61) a1) (vg_tn a1))
  | _, _ => False))
set_option maxRecDepth 100000 in
theorem k_X11_unlikeNone : vg_rok r_X11_unlikeNone := ⟨vg_inGW (i := 1436) rfl rfl, vg_inGW (i := 85) rfl rfl, ⟨by decide, by decide⟩, plainFor_of_name (by decide), ⟨vg_inGW (i := 1435) rfl rfl, vg_inGW (i := 64) rfl rfl⟩⟩
def r_X11_work : vg_R := ((yX11_work, cX11_work, 5, (some .int), 3, 67, 1, [], false), (fun as σ => ∃ (r : Nat) (a1 : Int32) (a2 : Int32), as = [.ref r, .int a1, .int a2] ∧ r ∈ ([55] : List Nat) ∧ Iv σ), (fun as σ v σ' => match as, v with
  | [.ref r, .int a1, .int a2], some (.int v) => Iv σ' ∧ Kp σ σ' ∧ (True)
  | _, _ => False))
set_option maxRecDepth 100000 in
theorem k_X11_work : vg_rok r_X11_work := ⟨vg_inGW (i := 1432) rfl rfl, vg_inGW (i := 85) rfl rfl, ⟨by decide, by decide⟩, plainFor_of_name (by decide), ⟨vg_inGW (i := 1430) rfl rfl, vg_inGW (i := 1431) rfl rfl⟩⟩
def r_X11_next : vg_R := ((yX11_next, cX11_next, 2, (some .int), 2, 47, 1, [], false), (fun as σ => ∃ (r : Nat) (a1 : Int32), as = [.ref r, .int a1] ∧ r ∈ ([55] : List Nat) ∧ Iv σ), (fun as σ v σ' => match as, v with
  | [.ref r, .int a1], some (.int v) => Iv σ' ∧ Kp σ σ' ∧ (True)
  | _, _ => False))
set_option maxRecDepth 100000 in
theorem k_X11_next : vg_rok r_X11_next := ⟨vg_inGW (i := 1508) rfl rfl, vg_inGW (i := 85) rfl rfl, ⟨by decide, by decide⟩, plainFor_of_name (by decide), ⟨vg_inGW (i := 1506) rfl rfl, vg_inGW (i := 1507) rfl rfl⟩⟩
def r_X11_loop : vg_R := ((yX11_loop, cX11_loop, 8, (some .int), 3, 65, 1, [], false), (fun as σ => ∃ (r : Nat) (a1 : Int32) (a2 : Int32) (a3 : Int32) (a4 : Int32) (a5 : Int32) (a6 : Int32), as = [.ref r, .int a1, .int a2, .int a3, .int a4, .int a5, .int a6] ∧ r ∈ ([55] : List Nat) ∧ Iv σ ∧ (0 ≤ a6.toInt ∧ a6.toInt ≤ 1)), (fun as σ v σ' => match as, v with
  | [.ref r, .int a1, .int a2, .int a3, .int a4, .int a5, .int a6], some (.int v) => Iv σ' ∧ K_X11_loop σ σ' ∧ (((0 ≤ a1.toInt ∧ a1.toInt ≤ 2 ∧ 1 ≤ a2.toInt ∧ a2.toInt ≤ 4 ∧ 1 ≤ a3.toInt ∧ a3.toInt ≤ 5000 ∧ 2 ≤ a4.toInt ∧ a4.toInt ≤ 17 ∧ 1 ≤ a5.toInt ∧ a5.toInt ≤ 60000 ∧ (vg_eo a1 a2 a4).toInt ≤ 16) ∧ v.toInt = (vg_eo a1 a2 a4).toInt ∧ (vg_me σ').toInt = (vg_eo a1 a2 a4).toInt ∧ (σ'.1 55 33).toInt = 0) ∨ (¬ (0 ≤ a1.toInt ∧ a1.toInt ≤ 2 ∧ 1 ≤ a2.toInt ∧ a2.toInt ≤ 4 ∧ 1 ≤ a3.toInt ∧ a3.toInt ≤ 5000 ∧ 2 ≤ a4.toInt ∧ a4.toInt ≤ 17 ∧ 1 ≤ a5.toInt ∧ a5.toInt ≤ 60000 ∧ (vg_eo a1 a2 a4).toInt ≤ 16) ∧ v.toInt = -1 ∧ (vg_me σ').toInt = (vg_me σ).toInt ∧ (σ'.1 55 33).toInt = (σ.1 55 33).toInt))
  | _, _ => False))
set_option maxRecDepth 100000 in
theorem k_X11_loop : vg_rok r_X11_loop := ⟨vg_inGW (i := 1217) rfl rfl, vg_inGW (i := 85) rfl rfl, ⟨by decide, by decide⟩, plainFor_of_name (by decide), ⟨vg_inGW (i := 1215) rfl rfl, vg_inGW (i := 1216) rfl rfl⟩⟩
def r_X11_dither : vg_R := ((yX11_dither, cX11_dither, 3, (some .int), 3, 65, 1, [], false), (fun as σ => ∃ (r : Nat) (a1 : Int32) (a2 : Int32), as = [.ref r, .int a1, .int a2] ∧ r ∈ ([55] : List Nat) ∧ Iv σ ∧ (0 ≤ (σ.2 56 0).toInt ∧ (σ.2 56 0).toInt ≤ 1900000000)), (fun as σ v σ' => match as, v with
  | [.ref r, .int a1, .int a2], some (.int v) => Iv σ' ∧ K_X11_dither σ σ' ∧ (((0 ≤ a1.toInt ∧ a1.toInt ≤ 5000 ∧ 0 ≤ a2.toInt) ∧ v.toInt = (σ.2 56 0).toInt) ∨ (¬ (0 ≤ a1.toInt ∧ a1.toInt ≤ 5000 ∧ 0 ≤ a2.toInt) ∧ v.toInt = -1))
  | _, _ => False))
set_option maxRecDepth 100000 in
theorem k_X11_dither : vg_rok r_X11_dither := ⟨vg_inGW (i := 1225) rfl rfl, vg_inGW (i := 85) rfl rfl, ⟨by decide, by decide⟩, plainFor_of_name (by decide), ⟨vg_inGW (i := 1223) rfl rfl, vg_inGW (i := 1224) rfl rfl⟩⟩
def r_X11_way : vg_R := ((yX11_way, cX11_way, 3, (some .int), 3, 65, 1, [], false), (fun as σ => ∃ (r : Nat) (a1 : Int32), as = [.ref r, .int a1] ∧ r ∈ ([55] : List Nat) ∧ Iv σ), (fun as σ v σ' => match as, v with
  | [.ref r, .int a1], some (.int v) => Iv σ' ∧ K_X11_way σ σ' ∧ (((0 ≤ a1.toInt ∧ a1.toInt ≤ 2) ∧ v.toInt = (σ.1 55 15).toInt ∧ (σ'.1 55 15).toInt = a1.toInt) ∨ (¬ (0 ≤ a1.toInt ∧ a1.toInt ≤ 2) ∧ v.toInt = -1 ∧ (σ'.1 55 15).toInt = (σ.1 55 15).toInt))
  | _, _ => False))
set_option maxRecDepth 100000 in
theorem k_X11_way : vg_rok r_X11_way := ⟨vg_inGW (i := 1229) rfl rfl, vg_inGW (i := 85) rfl rfl, ⟨by decide, by decide⟩, plainFor_of_name (by decide), ⟨vg_inGW (i := 1227) rfl rfl, vg_inGW (i := 1228) rfl rfl⟩⟩
def r_X11_deviation : vg_R := ((yX11_deviation, cX11_deviation, 4, (some .int), 3, 65, 1, [], false), (fun as σ => ∃ (r : Nat) (a1 : Int32) (a2 : Int32), as = [.ref r, .int a1, .int a2] ∧ r ∈ ([55] : List Nat) ∧ Iv σ), (fun as σ v σ' => match as, v with
  | [.ref r, .int a1, .int a2], some (.int v) => Iv σ' ∧ K_X11_deviation σ σ' ∧ (((-99 ≤ a2.toInt ∧ a2.toInt ≤ 99 ∧ 0 ≤ a1.toInt ∧ a1.toInt ≤ 15) ∧ v = σ.1 59 a1.toNatClampNeg ∧ ∀ j : Nat, σ'.1 59 j = if j = a1.toNatClampNeg then a2 else σ.1 59 j) ∨ (¬ (-99 ≤ a2.toInt ∧ a2.toInt ≤ 99 ∧ 0 ≤ a1.toInt ∧ a1.toInt ≤ 15) ∧ v.toInt = -1 ∧ ∀ j : Nat, σ'.1 59 j = σ.1 59 j))
  | _, _ => False))
set_option maxRecDepth 100000 in
theorem k_X11_deviation : vg_rok r_X11_deviation := ⟨vg_inGW (i := 1233) rfl rfl, vg_inGW (i := 85) rfl rfl, ⟨by decide, by decide⟩, plainFor_of_name (by decide), ⟨vg_inGW (i := 1231) rfl rfl, vg_inGW (i := 1232) rfl rfl⟩⟩
def r_X11_needFor : vg_R := ((yX11_needFor, cX11_needFor, 5, (some .int), 0, 0, 1, [], false), (fun as σ => ∃ (r : Nat) (a1 : Int32), as = [.ref r, .int a1] ∧ r ∈ ([55] : List Nat) ∧ Iv σ), (fun as σ v σ' => match as, v with
  | [.ref r, .int a1], some (.int v) => σ' = σ ∧ (vg_isneed (vg_mp (σ.1 55 17).toInt64 a1.toInt64 (σ.1 55 16).toNatClampNeg) v)
  | _, _ => False))
set_option maxRecDepth 100000 in
theorem k_X11_needFor : vg_rok r_X11_needFor := ⟨vg_inGW (i := 1249) rfl rfl, vg_inGW (i := 85) rfl rfl, ⟨by decide, by decide⟩, plainFor_of_name (by decide), ⟨vg_inGW (i := 1248) rfl rfl, vg_inGW (i := 39) rfl rfl⟩⟩
def r_X11_comb : vg_R := ((yX11_comb, cX11_comb, 5, (some .int), 3, 65, 1, [], false), (fun as σ => ∃ (r : Nat) (a1 : Int32) (a2 : Int32) (a3 : Int32) (a4 : Int32), as = [.ref r, .int a1, .int a2, .int a3, .int a4] ∧ r ∈ ([55] : List Nat) ∧ Iv σ), (fun as σ v σ' => match as, v with
  | [.ref r, .int a1, .int a2, .int a3, .int a4], some (.int v) => Iv σ' ∧ K_X11_comb σ σ' ∧ (((1 ≤ a1.toInt ∧ a1.toInt ≤ 5 ∧ 1 ≤ a2.toInt ∧ a2.toInt ≤ 16 ∧ 8 ≤ a3.toInt ∧ a3.toInt ≤ 32 ∧ 0 ≤ a4.toInt ∧ a4.toInt ≤ 1) ∧ (σ'.1 55 16).toInt = a1.toInt ∧ (σ'.1 55 17).toInt = a2.toInt ∧ vg_isneed (vg_mp a2.toInt64 (vg_cx a4 (vg_me σ) (σ.1 59)).toInt64 a1.toNatClampNeg) v) ∨ (¬ (1 ≤ a1.toInt ∧ a1.toInt ≤ 5 ∧ 1 ≤ a2.toInt ∧ a2.toInt ≤ 16 ∧ 8 ≤ a3.toInt ∧ a3.toInt ≤ 32 ∧ 0 ≤ a4.toInt ∧ a4.toInt ≤ 1) ∧ (σ'.1 55 16).toInt = (σ.1 55 16).toInt ∧ (σ'.1 55 17).toInt = (σ.1 55 17).toInt ∧ v.toInt = -1))
  | _, _ => False))
set_option maxRecDepth 100000 in
theorem k_X11_comb : vg_rok r_X11_comb := ⟨vg_inGW (i := 1237) rfl rfl, vg_inGW (i := 85) rfl rfl, ⟨by decide, by decide⟩, plainFor_of_name (by decide), ⟨vg_inGW (i := 1235) rfl rfl, vg_inGW (i := 1236) rfl rfl⟩⟩
def r_X11_taps : vg_R := ((yX11_taps, cX11_taps, 6, (some .int), 3, 65, 1, [], false), (fun as σ => ∃ (r : Nat) (a1 : Int32) (a2 : Int32) (a3 : Int32) (a4 : Int32) (a5 : Int32), as = [.ref r, .int a1, .int a2, .int a3, .int a4, .int a5] ∧ r ∈ ([55] : List Nat) ∧ Iv σ), (fun as σ v σ' => match as, v with
  | [.ref r, .int a1, .int a2, .int a3, .int a4, .int a5], some (.int v) => Iv σ' ∧ K_X11_taps σ σ' ∧ (((-999 ≤ a1.toInt ∧ a1.toInt ≤ 999 ∧ -999 ≤ a2.toInt ∧ a2.toInt ≤ 999 ∧ -999 ≤ a3.toInt ∧ a3.toInt ≤ 999 ∧ -999 ≤ a4.toInt ∧ a4.toInt ≤ 999 ∧ 0 ≤ a5.toInt ∧ a5.toInt ≤ 12) ∧ v.toInt = 2 * (a1.toInt + a2.toInt + a3.toInt) + a4.toInt ∧ σ'.1 55 21 = a5 ∧ σ'.1 61 0 = a1 ∧ σ'.1 61 1 = a2 ∧ σ'.1 61 2 = a3 ∧ σ'.1 61 3 = a4) ∨ (¬ (-999 ≤ a1.toInt ∧ a1.toInt ≤ 999 ∧ -999 ≤ a2.toInt ∧ a2.toInt ≤ 999 ∧ -999 ≤ a3.toInt ∧ a3.toInt ≤ 999 ∧ -999 ≤ a4.toInt ∧ a4.toInt ≤ 999 ∧ 0 ≤ a5.toInt ∧ a5.toInt ≤ 12) ∧ v.toInt = -1 ∧ σ'.1 55 21 = σ.1 55 21 ∧ ∀ j : Nat, σ'.1 61 j = σ.1 61 j))
  | _, _ => False))
set_option maxRecDepth 100000 in
theorem k_X11_taps : vg_rok r_X11_taps := ⟨vg_inGW (i := 1253) rfl rfl, vg_inGW (i := 85) rfl rfl, ⟨by decide, by decide⟩, plainFor_of_name (by decide), ⟨vg_inGW (i := 1251) rfl rfl, vg_inGW (i := 1252) rfl rfl⟩⟩
def r_X11_folds_ : vg_R := ((yX11_folds_, cX11_folds_, 5, (some .int), 3, 65, 1, [], false), (fun as σ => ∃ (r : Nat) (a1 : Int32) (a2 : Int32) (a3 : Int32) (a4 : Int32), as = [.ref r, .int a1, .int a2, .int a3, .int a4] ∧ r ∈ ([55] : List Nat) ∧ Iv σ), (fun as σ v σ' => match as, v with
  | [.ref r, .int a1, .int a2, .int a3, .int a4], some (.int v) => Iv σ' ∧ K_X11_folds_ σ σ' ∧ (((0 ≤ a1.toInt ∧ a1.toInt ≤ 3 ∧ 0 ≤ a2.toInt ∧ a2.toInt ≤ 3 ∧ 0 ≤ a3.toInt ∧ a3.toInt ≤ 3 ∧ 0 ≤ a4.toInt ∧ a4.toInt ≤ 3) ∧ v.toInt = (vg_af a1).toInt) ∨ (¬ (0 ≤ a1.toInt ∧ a1.toInt ≤ 3 ∧ 0 ≤ a2.toInt ∧ a2.toInt ≤ 3 ∧ 0 ≤ a3.toInt ∧ a3.toInt ≤ 3 ∧ 0 ≤ a4.toInt ∧ a4.toInt ≤ 3) ∧ v.toInt = -1))
  | _, _ => False))
set_option maxRecDepth 100000 in
theorem k_X11_folds_ : vg_rok r_X11_folds_ := ⟨vg_inGW (i := 1260) rfl rfl, vg_inGW (i := 85) rfl rfl, ⟨by decide, by decide⟩, plainFor_of_name (by decide), ⟨vg_inGW (i := 1258) rfl rfl, vg_inGW (i := 1259) rfl rfl⟩⟩
def r_X11_clocks : vg_R := ((yX11_clocks, cX11_clocks, 3, (some .int), 5, 121, 1, [], false), (fun as σ => ∃ (r : Nat) (a1 : Int32), as = [.ref r, .int a1] ∧ r ∈ ([55] : List Nat) ∧ Iv σ ∧ (0 ≤ (σ.2 56 0).toInt ∧ (σ.2 56 0).toInt ≤ 1900000000)), (fun as σ v σ' => match as, v with
  | [.ref r, .int a1], some (.int v) => Iv σ' ∧ Kg σ σ' ∧ (((1 ≤ a1.toInt ∧ a1.toInt ≤ 400) ∧ v.toInt = (σ.2 56 0).toInt + a1.toInt ∧ (σ'.2 56 0).toInt = (σ.2 56 0).toInt + a1.toInt) ∨ (¬ (1 ≤ a1.toInt ∧ a1.toInt ≤ 400) ∧ v.toInt = -1 ∧ (σ'.2 56 0).toInt = (σ.2 56 0).toInt))
  | _, _ => False))
set_option maxRecDepth 100000 in
theorem k_X11_clocks : vg_rok r_X11_clocks := ⟨vg_inGW (i := 1271) rfl rfl, vg_inGW (i := 85) rfl rfl, ⟨by decide, by decide⟩, plainFor_of_name (by decide), ⟨vg_inGW (i := 1269) rfl rfl, vg_inGW (i := 1270) rfl rfl⟩⟩
def r_X11_gap : vg_R := ((yX11_gap, cX11_gap, 10, (some .long), 2, 42, 2, [], false), (fun as σ => ∃ (r : Nat) (a1 : Int32) (a2 : Int32), as = [.ref r, .int a1, .int a2] ∧ r ∈ ([55] : List Nat) ∧ Iv σ), (fun as σ v σ' => match as, v with
  | [.ref r, .int a1, .int a2], some (.long v) => Iv σ' ∧ Kp σ σ' ∧ (True)
  | _, _ => False))
set_option maxRecDepth 100000 in
theorem k_X11_gap : vg_rok r_X11_gap := ⟨vg_inGW (i := 1400) rfl rfl, vg_inGW (i := 85) rfl rfl, ⟨by decide, by decide⟩, plainFor_of_name (by decide), ⟨vg_inGW (i := 1398) rfl rfl, vg_inGW (i := 1399) rfl rfl⟩⟩
def r_X11_range : vg_R := ((yX11_range, cX11_range, 10, (some .long), 2, 42, 2, [], false), (fun as σ => ∃ (r : Nat) (a1 : Int32) (a2 : Int32), as = [.ref r, .int a1, .int a2] ∧ r ∈ ([55] : List Nat) ∧ Iv σ), (fun as σ v σ' => match as, v with
  | [.ref r, .int a1, .int a2], some (.long v) => Iv σ' ∧ Kp σ σ' ∧ (True)
  | _, _ => False))
set_option maxRecDepth 100000 in
theorem k_X11_range : vg_rok r_X11_range := ⟨vg_inGW (i := 1404) rfl rfl, vg_inGW (i := 85) rfl rfl, ⟨by decide, by decide⟩, plainFor_of_name (by decide), ⟨vg_inGW (i := 1402) rfl rfl, vg_inGW (i := 1403) rfl rfl⟩⟩
def r_X11_steady : vg_R := ((yX11_steady, cX11_steady, 4, (some .int), 2, 42, 1, [], false), (fun as σ => ∃ (r : Nat) (a1 : Int32) (a2 : Int32), as = [.ref r, .int a1, .int a2] ∧ r ∈ ([55] : List Nat) ∧ Iv σ), (fun as σ v σ' => match as, v with
  | [.ref r, .int a1, .int a2], some (.int v) => Iv σ' ∧ Kp σ σ' ∧ (True)
  | _, _ => False))
set_option maxRecDepth 100000 in
theorem k_X11_steady : vg_rok r_X11_steady := ⟨vg_inGW (i := 1408) rfl rfl, vg_inGW (i := 85) rfl rfl, ⟨by decide, by decide⟩, plainFor_of_name (by decide), ⟨vg_inGW (i := 1406) rfl rfl, vg_inGW (i := 1407) rfl rfl⟩⟩
def r_X11_response : vg_R := ((yX11_response, cX11_response, 6, (some .int), 1, 22, 1, [], false), (fun as σ => ∃ (r : Nat) (a1 : Int32), as = [.ref r, .int a1] ∧ r ∈ ([55] : List Nat) ∧ Iv σ), (fun as σ v σ' => match as, v with
  | [.ref r, .int a1], some (.int v) => Iv σ' ∧ Kp σ σ' ∧ (((0 ≤ a1.toInt ∧ a1.toInt < vg_mn (σ.1 55 17).toInt (σ.1 55 16).toNatClampNeg) ∧ v = vg_cc (σ.1 55 17).toNatClampNeg (σ.1 55 16).toNatClampNeg a1.toNatClampNeg) ∨ (¬ (0 ≤ a1.toInt ∧ a1.toInt < vg_mn (σ.1 55 17).toInt (σ.1 55 16).toNatClampNeg) ∧ v.toInt = -1))
  | _, _ => False))
set_option maxRecDepth 100000 in
theorem k_X11_response : vg_rok r_X11_response := ⟨vg_inGW (i := 1445) rfl rfl, vg_inGW (i := 85) rfl rfl, ⟨by decide, by decide⟩, plainFor_of_name (by decide), ⟨vg_inGW (i := 1443) rfl rfl, vg_inGW (i := 1444) rfl rfl⟩⟩
def r_X11_half : vg_R := ((yX11_half, cX11_half, 7, (some .int), 3, 67, 1, [], false), (fun as σ => ∃ (r : Nat) (a1 : Int32) (a2 : Int32), as = [.ref r, .int a1, .int a2] ∧ r ∈ ([55] : List Nat) ∧ Iv σ), (fun as σ v σ' => match as, v with
  | [.ref r, .int a1, .int a2], some (.int v) => Iv σ' ∧ Kp σ σ' ∧ (((0 ≤ a1.toInt ∧ a1.toInt ≤ 3 ∧ 0 ≤ a2.toInt ∧ a2.toInt ≤ 3) ∧ ((a2.toInt = 0 ∧ (v = vg_rs (vg_tp (σ.1 61) a1) (vg_tn a1))) ∨ (a2.toInt = 1 ∧ (vg_hbr (vg_tp (σ.1 61) a1) ((vg_tn a1 : Int) / 2) (vg_tn a1 : Int) v)) ∨ (a2.toInt = 2 ∧ ((a1.toInt = 0 ∧ v.toInt = 2) ∨ (a1.toInt = 1 ∧ v.toInt = 5) ∨ (a1.toInt = 2 ∧ v.toInt = 9) ∨ (¬ a1.toInt = 0 ∧ ¬ a1.toInt = 1 ∧ ¬ a1.toInt = 2 ∧ v.toInt = (σ.1 55 21).toInt))) ∨ (a2.toInt = 3 ∧ (v = vg_cnt (vg_tp (σ.1 61) a1) (vg_tn a1))))) ∨ (¬ (0 ≤ a1.toInt ∧ a1.toInt ≤ 3 ∧ 0 ≤ a2.toInt ∧ a2.toInt ≤ 3) ∧ v.toInt = -1))
  | _, _ => False))
set_option maxRecDepth 100000 in
theorem k_X11_half : vg_rok r_X11_half := ⟨vg_inGW (i := 1449) rfl rfl, vg_inGW (i := 85) rfl rfl, ⟨by decide, by decide⟩, plainFor_of_name (by decide), ⟨vg_inGW (i := 1447) rfl rfl, vg_inGW (i := 1448) rfl rfl⟩⟩
def r_X11_beatOf : vg_R := ((yX11_beatOf, cX11_beatOf, 9, (some .long), 2, 42, 2, [], false), (fun as σ => ∃ (r : Nat) (a1 : Int32) (a2 : Int32), as = [.ref r, .int a1, .int a2] ∧ r ∈ ([55] : List Nat) ∧ Iv σ ∧ (0 ≤ a1.toInt ∧ a1.toInt ≤ 6 ∧ 0 ≤ a2.toInt ∧ a2.toInt ≤ 47)), (fun as σ v σ' => match as, v with
  | [.ref r, .int a1, .int a2], some (.long v) => σ' = σ ∧ (True)
  | _, _ => False))
set_option maxRecDepth 100000 in
theorem k_X11_beatOf : vg_rok r_X11_beatOf := ⟨vg_inGW (i := 1457) rfl rfl, vg_inGW (i := 85) rfl rfl, ⟨by decide, by decide⟩, plainFor_of_name (by decide), ⟨vg_inGW (i := 1456) rfl rfl, vg_inGW (i := 65) rfl rfl⟩⟩
def r_X11_beat : vg_R := ((yX11_beat, cX11_beat, 3, (some .long), 3, 70, 2, [], false), (fun as σ => ∃ (r : Nat) (a1 : Int32) (a2 : Int32), as = [.ref r, .int a1, .int a2] ∧ r ∈ ([55] : List Nat) ∧ Iv σ), (fun as σ v σ' => match as, v with
  | [.ref r, .int a1, .int a2], some (.long v) => Iv σ' ∧ Kp σ σ' ∧ (True)
  | _, _ => False))
set_option maxRecDepth 100000 in
theorem k_X11_beat : vg_rok r_X11_beat := ⟨vg_inGW (i := 1453) rfl rfl, vg_inGW (i := 85) rfl rfl, ⟨by decide, by decide⟩, plainFor_of_name (by decide), ⟨vg_inGW (i := 1451) rfl rfl, vg_inGW (i := 1452) rfl rfl⟩⟩
def r_X11_tonal : vg_R := ((yX11_tonal, cX11_tonal, 4, (some .int), 3, 70, 1, [], false), (fun as σ => ∃ (r : Nat) (a1 : Int32), as = [.ref r, .int a1] ∧ r ∈ ([55] : List Nat) ∧ Iv σ), (fun as σ v σ' => match as, v with
  | [.ref r, .int a1], some (.int v) => Iv σ' ∧ Kp σ σ' ∧ (True)
  | _, _ => False))
set_option maxRecDepth 100000 in
theorem k_X11_tonal : vg_rok r_X11_tonal := ⟨vg_inGW (i := 1461) rfl rfl, vg_inGW (i := 85) rfl rfl, ⟨by decide, by decide⟩, plainFor_of_name (by decide), ⟨vg_inGW (i := 1459) rfl rfl, vg_inGW (i := 1460) rfl rfl⟩⟩
def r_X11_lays : vg_R := ((yX11_lays, cX11_lays, 3, none, 0, 0, 0, [], false), (fun as σ => ∃ (r : Nat) (a1 : Int32), as = [.ref r, .int a1] ∧ r ∈ ([55] : List Nat) ∧ Iv σ ∧ (0 ≤ a1.toInt ∧ a1.toInt ≤ 1000)), (fun as σ v σ' => match as, v with
  | [.ref r, .int a1], none => Iv σ' ∧ Kp σ σ' ∧ (True)
  | _, _ => False))
set_option maxRecDepth 100000 in
theorem k_X11_lays : vg_rok r_X11_lays := ⟨vg_inGW (i := 1480) rfl rfl, vg_inGW (i := 85) rfl rfl, ⟨by decide, by decide⟩, plainFor_of_name (by decide), ⟨vg_inGW (i := 1479) rfl rfl, vg_inGW (i := 68) rfl rfl⟩⟩
def r_X11_isLike : vg_R := ((yX11_isLike, cX11_isLike, 4, (some .boolean), 0, 0, 1, [], false), (fun as σ => ∃ (r : Nat) (a1 : Int32) (a2 : Int32), as = [.ref r, .int a1, .int a2] ∧ r ∈ ([55] : List Nat) ∧ Iv σ ∧ (0 ≤ a1.toInt ∧ a1.toInt ≤ 1000 ∧ 0 ≤ a2.toInt ∧ a2.toInt ≤ 1000)), (fun as σ v σ' => match as, v with
  | [.ref r, .int a1, .int a2], some (.int v) => σ' = σ ∧ (0 ≤ v.toInt ∧ v.toInt ≤ 1)
  | _, _ => False))
set_option maxRecDepth 100000 in
theorem k_X11_isLike : vg_rok r_X11_isLike := ⟨vg_inGW (i := 1484) rfl rfl, vg_inGW (i := 85) rfl rfl, ⟨by decide, by decide⟩, plainFor_of_name (by decide), ⟨vg_inGW (i := 1483) rfl rfl, vg_inGW (i := 69) rfl rfl⟩⟩
def r_X11_tones : vg_R := ((yX11_tones, cX11_tones, 5, none, 4, 96, 0, [], false), (fun as σ => ∃ (r : Nat) (a1 : Int32) (a2 : Int32), as = [.ref r, .int a1, .int a2] ∧ r ∈ ([55] : List Nat) ∧ Iv σ), (fun as σ v σ' => match as, v with
  | [.ref r, .int a1, .int a2], none => Iv σ' ∧ Kt σ σ' ∧ ((σ'.1 55 31).toInt = -1 ∨ (0 ≤ (σ'.1 55 30).toInt ∧ 1 ≤ (σ'.1 55 31).toInt ∧ (σ'.1 55 30).toInt + (σ'.1 55 31).toInt ≤ 1000))
  | _, _ => False))
set_option maxRecDepth 100000 in
theorem k_X11_tones : vg_rok r_X11_tones := ⟨vg_inGW (i := 1473) rfl rfl, vg_inGW (i := 85) rfl rfl, ⟨by decide, by decide⟩, plainFor_of_name (by decide), ⟨vg_inGW (i := 1472) rfl rfl, vg_inGW (i := 67) rfl rfl⟩⟩
def r_X11_asks : vg_R := ((yX11_asks, cX11_asks, 3, none, 0, 0, 0, [], false), (fun as σ => ∃ (r : Nat) (a1 : Int32), as = [.ref r, .int a1] ∧ r ∈ ([55] : List Nat) ∧ Iv σ), (fun as σ v σ' => match as, v with
  | [.ref r, .int a1], none => Iv σ' ∧ K_X11_asks σ σ' ∧ (vg_adk (σ.1 55 33).toInt (σ.1 66) a1 (σ'.1 55 33).toInt (σ'.1 66))
  | _, _ => False))
set_option maxRecDepth 100000 in
theorem k_X11_asks : vg_rok r_X11_asks := ⟨vg_inGW (i := 1469) rfl rfl, vg_inGW (i := 85) rfl rfl, ⟨by decide, by decide⟩, plainFor_of_name (by decide), ⟨vg_inGW (i := 1468) rfl rfl, vg_inGW (i := 66) rfl rfl⟩⟩
def r_X11_inPattern : vg_R := ((yX11_inPattern, cX11_inPattern, 2, (some .int), 0, 0, 1, [], false), (fun as σ => ∃ (r : Nat) (a1 : Int32), as = [.ref r, .int a1] ∧ r ∈ ([55] : List Nat) ∧ Iv σ ∧ (0 ≤ (σ.1 55 30).toInt ∧ 1 ≤ (σ.1 55 31).toInt ∧ (σ.1 55 30).toInt + (σ.1 55 31).toInt ≤ 1000 ∧ 0 ≤ a1.toInt)), (fun as σ v σ' => match as, v with
  | [.ref r, .int a1], some (.int v) => σ' = σ ∧ (True)
  | _, _ => False))
set_option maxRecDepth 100000 in
theorem k_X11_inPattern : vg_rok r_X11_inPattern := ⟨vg_inGW (i := 1492) rfl rfl, vg_inGW (i := 85) rfl rfl, ⟨by decide, by decide⟩, plainFor_of_name (by decide), ⟨vg_inGW (i := 1491) rfl rfl, vg_inGW (i := 71) rfl rfl⟩⟩
def r_X11_ofPattern : vg_R := ((yX11_ofPattern, cX11_ofPattern, 9, (some .int), 1, 21, 1, [], false), (fun as σ => ∃ (r : Nat) (a1 : Int32), as = [.ref r, .int a1] ∧ r ∈ ([55] : List Nat) ∧ Iv σ ∧ (0 ≤ (σ.1 55 30).toInt ∧ 1 ≤ (σ.1 55 31).toInt ∧ (σ.1 55 30).toInt + (σ.1 55 31).toInt ≤ 1000)), (fun as σ v σ' => match as, v with
  | [.ref r, .int a1], some (.int v) => σ' = σ ∧ (True)
  | _, _ => False))
set_option maxRecDepth 100000 in
theorem k_X11_ofPattern : vg_rok r_X11_ofPattern := ⟨vg_inGW (i := 1488) rfl rfl, vg_inGW (i := 85) rfl rfl, ⟨by decide, by decide⟩, plainFor_of_name (by decide), ⟨vg_inGW (i := 1487) rfl rfl, vg_inGW (i := 70) rfl rfl⟩⟩
def r_X11_tone : vg_R := ((yX11_tone, cX11_tone, 3, (some .int), 5, 120, 1, [], false), (fun as σ => ∃ (r : Nat) (a1 : Int32) (a2 : Int32), as = [.ref r, .int a1, .int a2] ∧ r ∈ ([55] : List Nat) ∧ Iv σ), (fun as σ v σ' => match as, v with
  | [.ref r, .int a1, .int a2], some (.int v) => Iv σ' ∧ K_X11_tone σ σ' ∧ (((-30000 ≤ a1.toInt ∧ a1.toInt ≤ 30000 ∧ 0 ≤ a2.toInt ∧ a2.toInt ≤ 5) ∧ vg_adk (σ.1 55 33).toInt (σ.1 66) a1 (σ'.1 55 33).toInt (σ'.1 66)) ∨ (¬ (-30000 ≤ a1.toInt ∧ a1.toInt ≤ 30000 ∧ 0 ≤ a2.toInt ∧ a2.toInt ≤ 5) ∧ (σ'.1 55 33).toInt = (σ.1 55 33).toInt ∧ ∀ j : Nat, σ'.1 66 j = σ.1 66 j))
  | _, _ => False))
set_option maxRecDepth 100000 in
theorem k_X11_tone : vg_rok r_X11_tone := ⟨vg_inGW (i := 1465) rfl rfl, vg_inGW (i := 85) rfl rfl, ⟨by decide, by decide⟩, plainFor_of_name (by decide), ⟨vg_inGW (i := 1463) rfl rfl, vg_inGW (i := 1464) rfl rfl⟩⟩
def r_X11_out : vg_R := ((yX11_out, cX11_out, 3, (some .int), 5, 120, 1, [], false), (fun as σ => ∃ (r : Nat) (a1 : Int32) (a2 : Int32), as = [.ref r, .int a1, .int a2] ∧ r ∈ ([55] : List Nat) ∧ Iv σ), (fun as σ v σ' => match as, v with
  | [.ref r, .int a1, .int a2], some (.int v) => Iv σ' ∧ Kt σ σ' ∧ (True)
  | _, _ => False))
set_option maxRecDepth 100000 in
theorem k_X11_out : vg_rok r_X11_out := ⟨vg_inGW (i := 1496) rfl rfl, vg_inGW (i := 85) rfl rfl, ⟨by decide, by decide⟩, plainFor_of_name (by decide), ⟨vg_inGW (i := 1494) rfl rfl, vg_inGW (i := 1495) rfl rfl⟩⟩
def r_X11_idle : vg_R := ((yX11_idle, cX11_idle, 9, (some .int), 5, 120, 1, [], false), (fun as σ => ∃ (r : Nat) (a1 : Int32) (a2 : Int32) (a3 : Int32) (a4 : Int32), as = [.ref r, .int a1, .int a2, .int a3, .int a4] ∧ r ∈ ([55] : List Nat) ∧ Iv σ), (fun as σ v σ' => match as, v with
  | [.ref r, .int a1, .int a2, .int a3, .int a4], some (.int v) => Iv σ' ∧ Kt σ σ' ∧ (True)
  | _, _ => False))
set_option maxRecDepth 100000 in
theorem k_X11_idle : vg_rok r_X11_idle := ⟨vg_inGW (i := 1504) rfl rfl, vg_inGW (i := 85) rfl rfl, ⟨by decide, by decide⟩, plainFor_of_name (by decide), ⟨vg_inGW (i := 1502) rfl rfl, vg_inGW (i := 1503) rfl rfl⟩⟩
def r_X11_ahead : vg_R := ((yX11_ahead, cX11_ahead, 9, (some .long), 5, 121, 2, [], false), (fun as σ => ∃ (r : Nat) (a1 : Int32) (a2 : Int32) (a3 : Int32), as = [.ref r, .int a1, .int a2, .int a3] ∧ r ∈ ([55] : List Nat) ∧ Iv σ ∧ (0 ≤ (σ.2 56 0).toInt ∧ (σ.2 56 0).toInt ≤ 1900000000)), (fun as σ v σ' => match as, v with
  | [.ref r, .int a1, .int a2, .int a3], some (.long v) => Iv σ' ∧ K_X11_ahead σ σ' ∧ ((σ'.1 55 15).toInt = (σ.1 55 15).toInt)
  | _, _ => False))
set_option maxRecDepth 100000 in
theorem k_X11_ahead : vg_rok r_X11_ahead := ⟨vg_inGW (i := 1512) rfl rfl, vg_inGW (i := 85) rfl rfl, ⟨by decide, by decide⟩, plainFor_of_name (by decide), ⟨vg_inGW (i := 1510) rfl rfl, vg_inGW (i := 1511) rfl rfl⟩⟩
def r_X11_strained : vg_R := ((yX11_strained, cX11_strained, 7, (some .int), 5, 121, 1, [], false), (fun as σ => ∃ (r : Nat) (a1 : Int32) (a2 : Int32), as = [.ref r, .int a1, .int a2] ∧ r ∈ ([55] : List Nat) ∧ Iv σ ∧ (0 ≤ (σ.2 56 0).toInt ∧ (σ.2 56 0).toInt ≤ 1900000000 ∧ 1 ≤ a1.toInt ∧ a1.toInt ≤ 400)), (fun as σ v σ' => match as, v with
  | [.ref r, .int a1, .int a2], some (.int v) => Iv σ' ∧ Kt σ σ' ∧ (True)
  | _, _ => False))
set_option maxRecDepth 100000 in
theorem k_X11_strained : vg_rok r_X11_strained := ⟨vg_inGW (i := 1520) rfl rfl, vg_inGW (i := 85) rfl rfl, ⟨by decide, by decide⟩, plainFor_of_name (by decide), ⟨vg_inGW (i := 1519) rfl rfl, vg_inGW (i := 72) rfl rfl⟩⟩
def r_X11_strain : vg_R := ((yX11_strain, cX11_strain, 3, (some .int), 6, 147, 1, [], false), (fun as σ => ∃ (r : Nat) (a1 : Int32) (a2 : Int32), as = [.ref r, .int a1, .int a2] ∧ r ∈ ([55] : List Nat) ∧ Iv σ ∧ (0 ≤ (σ.2 56 0).toInt ∧ (σ.2 56 0).toInt ≤ 1900000000)), (fun as σ v σ' => match as, v with
  | [.ref r, .int a1, .int a2], some (.int v) => Iv σ' ∧ Kt σ σ' ∧ (True)
  | _, _ => False))
set_option maxRecDepth 100000 in
theorem k_X11_strain : vg_rok r_X11_strain := ⟨vg_inGW (i := 1516) rfl rfl, vg_inGW (i := 85) rfl rfl, ⟨by decide, by decide⟩, plainFor_of_name (by decide), ⟨vg_inGW (i := 1514) rfl rfl, vg_inGW (i := 1515) rfl rfl⟩⟩
def r_X11_calmed : vg_R := ((yX11_calmed, cX11_calmed, 4, (some .int), 6, 147, 1, [], false), (fun as σ => ∃ (r : Nat) (a1 : Int32) (a2 : Int32), as = [.ref r, .int a1, .int a2] ∧ r ∈ ([55] : List Nat) ∧ Iv σ ∧ (0 ≤ (σ.2 56 0).toInt ∧ (σ.2 56 0).toInt ≤ 1900000000)), (fun as σ v σ' => match as, v with
  | [.ref r, .int a1, .int a2], some (.int v) => Iv σ' ∧ Kt σ σ' ∧ (True)
  | _, _ => False))
set_option maxRecDepth 100000 in
theorem k_X11_calmed : vg_rok r_X11_calmed := ⟨vg_inGW (i := 1524) rfl rfl, vg_inGW (i := 85) rfl rfl, ⟨by decide, by decide⟩, plainFor_of_name (by decide), ⟨vg_inGW (i := 1522) rfl rfl, vg_inGW (i := 1523) rfl rfl⟩⟩
def r_X11_need : vg_R := ((yX11_need, cX11_need, 3, (some .int), 1, 24, 1, [], false), (fun as σ => ∃ (r : Nat) (a1 : Int32), as = [.ref r, .int a1] ∧ r ∈ ([55] : List Nat) ∧ Iv σ), (fun as σ v σ' => match as, v with
  | [.ref r, .int a1], some (.int v) => Iv σ' ∧ Kp σ σ' ∧ (((0 ≤ a1.toInt ∧ a1.toInt ≤ 100000) ∧ vg_isneed (vg_mp (σ.1 55 17).toInt64 a1.toInt64 (σ.1 55 16).toNatClampNeg) v) ∨ (¬ (0 ≤ a1.toInt ∧ a1.toInt ≤ 100000) ∧ v.toInt = -1))
  | _, _ => False))
set_option maxRecDepth 100000 in
theorem k_X11_need : vg_rok r_X11_need := ⟨vg_inGW (i := 1440) rfl rfl, vg_inGW (i := 85) rfl rfl, ⟨by decide, by decide⟩, plainFor_of_name (by decide), ⟨vg_inGW (i := 1438) rfl rfl, vg_inGW (i := 1439) rfl rfl⟩⟩
def r_X11_asked : vg_R := ((yX11_asked, cX11_asked, 2, (some .int), 1, 21, 1, [], false), (fun as σ => ∃ (r : Nat) (a1 : Int32), as = [.ref r, .int a1] ∧ r ∈ ([55] : List Nat) ∧ Iv σ), (fun as σ v σ' => match as, v with
  | [.ref r, .int a1], some (.int v) => Iv σ' ∧ Kp σ σ' ∧ (((0 ≤ a1.toInt ∧ a1.toInt < (σ.1 55 33).toInt) ∧ v = σ.1 66 a1.toNatClampNeg) ∨ (¬ (0 ≤ a1.toInt ∧ a1.toInt < (σ.1 55 33).toInt) ∧ v.toInt = -1))
  | _, _ => False))
set_option maxRecDepth 100000 in
theorem k_X11_asked : vg_rok r_X11_asked := ⟨vg_inGW (i := 1500) rfl rfl, vg_inGW (i := 85) rfl rfl, ⟨by decide, by decide⟩, plainFor_of_name (by decide), ⟨vg_inGW (i := 1498) rfl rfl, vg_inGW (i := 1499) rfl rfl⟩⟩
