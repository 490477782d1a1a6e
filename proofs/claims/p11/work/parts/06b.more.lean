/-! more of numbers -/
theorem vg_mulL {x y v : Int32} {c : Int} (e : v = x * y) (hc : x.toInt = c) (h1 : -2147483648 ≤ c * y.toInt) (h2 : c * y.toInt ≤ 2147483647) : v.toInt = c * y.toInt := by
  subst hc
  exact vg_mul e h1 h2
theorem vg_mulR {x y v : Int32} {c : Int} (e : v = x * y) (hc : y.toInt = c) (h1 : -2147483648 ≤ x.toInt * c) (h2 : x.toInt * c ≤ 2147483647) : v.toInt = x.toInt * c := by
  subst hc
  exact vg_mul e h1 h2
