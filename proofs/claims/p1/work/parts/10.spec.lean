/-! the reckoning of days, as numbers -/
def dy_lp (y : Int) : Int := if y % 4 = 0 then 1 else 0
theorem dy_lp1 {y : Int} (h : y % 4 = 0) : dy_lp y = 1 := if_pos h
theorem dy_lp0 {y : Int} (h : ¬ y % 4 = 0) : dy_lp y = 0 := if_neg h
theorem dy_lp_in (y : Int) : 0 ≤ dy_lp y ∧ dy_lp y ≤ 1 := by
  unfold dy_lp; split <;> omega
def dy_wd (y d : Int) : Int := (6 + (365 * (y - 1) + (y - 1) / 4) + d) % 7
theorem dy_wd_in (y d : Int) : 0 ≤ dy_wd y d ∧ dy_wd y d ≤ 6 := by
  unfold dy_wd; omega
