/-! more of numbers -/
theorem vg_mulL {x y v : Int32} {c : Int} (e : v = x * y) (hc : x.toInt = c) (h1 : -2147483648 ≤ c * y.toInt) (h2 : c * y.toInt ≤ 2147483647) : v.toInt = c * y.toInt := by
  subst hc
  exact vg_mul e h1 h2
theorem vg_mulR {x y v : Int32} {c : Int} (e : v = x * y) (hc : y.toInt = c) (h1 : -2147483648 ≤ x.toInt * c) (h2 : x.toInt * c ≤ 2147483647) : v.toInt = x.toInt * c := by
  subst hc
  exact vg_mul e h1 h2
/-- how many elements a loop has -/
def vg_eo (k o n : Int32) : Int32 := if k.toInt = 2 then (n - Int32.ofInt 1) * ((Int32.ofInt 1 <<< (o &&& (31 : Int32))) - Int32.ofInt 1) else n - Int32.ofInt 1
abbrev vg_af (a : Int32) : Int32 := Int32.ofInt 1 <<< (a &&& (31 : Int32))
