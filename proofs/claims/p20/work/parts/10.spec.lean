/-! the reckoning of days, as numbers -/
def dy_lp (y : Int) : Int := if y % 4 = 0 then 1 else 0
theorem dy_lp1 {y : Int} (h : y % 4 = 0) : dy_lp y = 1 := if_pos h
theorem dy_lp0 {y : Int} (h : ¬ y % 4 = 0) : dy_lp y = 0 := if_neg h
theorem dy_lp_in (y : Int) : 0 ≤ dy_lp y ∧ dy_lp y ≤ 1 := by
  unfold dy_lp; split <;> omega
def dy_wd (y d : Int) : Int := (6 + (365 * (y - 1) + (y - 1) / 4) + d) % 7
theorem dy_wd_in (y d : Int) : 0 ≤ dy_wd y d ∧ dy_wd y d ≤ 6 := by
  unfold dy_wd; omega
/-- the first day of a month in a year of 365 days -/
def dy_st (k : Int) : Int := if k ≤ 1 then 0 else if k = 2 then 31 else if k = 3 then 59 else if k = 4 then 90 else if k = 5 then 120 else if k = 6 then 151 else if k = 7 then 181 else if k = 8 then 212 else if k = 9 then 243 else if k = 10 then 273 else if k = 11 then 304 else if k = 12 then 334 else 365
/-- a month's days -/
def dy_md (y k : Int) : Int := if k = 2 then 28 + dy_lp y else if k = 4 ∨ k = 6 ∨ k = 9 ∨ k = 11 then 30 else 31
theorem dy_st_tab {k : Int} (h1 : 1 ≤ k) (h2 : k ≤ 12) : sv_mst (k - 1).toNat = .int (Int32.ofInt (dy_st k)) := by
  obtain ⟨j, hj, rfl⟩ : ∃ j : Nat, j < 12 ∧ k = j + 1 := ⟨(k - 1).toNat, by omega, by omega⟩
  rw [show ((j : Int) + 1 - 1).toNat = j by omega]
  have key : ∀ j : Nat, j < 12 → sv_mst j = .int (Int32.ofInt (dy_st ((j : Int) + 1))) := by decide +kernel
  exact key j hj
theorem dy_st_in (k : Int) : 0 ≤ dy_st k ∧ dy_st k ≤ 365 := by
  unfold dy_st; omega
/-- the first day of a month; of a thirteenth: the year's length -/
def dy_ms (y k : Int) : Int := dy_st k + (if 2 < k then dy_lp y else 0)
theorem dy_ms_in (y k : Int) : 0 ≤ dy_ms y k ∧ dy_ms y k ≤ 366 := by
  unfold dy_ms
  have h1 := dy_st_in k
  have h2 := dy_lp_in y
  split <;> omega
theorem dy_md_in (y k : Int) : 28 ≤ dy_md y k ∧ dy_md y k ≤ 31 := by
  unfold dy_md
  have h2 := dy_lp_in y
  split <;> (try split) <;> omega
theorem dy_ms1 (y : Int) : dy_ms y 1 = 0 := rfl
theorem dy_ms3 (y : Int) : dy_ms y 3 = 59 + dy_lp y := rfl
theorem dy_ms13 (y : Int) : dy_ms y 13 = 365 + dy_lp y := rfl
theorem dy_ms_s {y k : Int} (h1 : 1 ≤ k) (h2 : k ≤ 12) : dy_ms y (k + 1) = dy_ms y k + dy_md y k := by
  unfold dy_ms dy_md dy_st
  have h3 := dy_lp_in y
  omega
theorem dy_ms_mono {y : Int} : ∀ (n : Nat) {a b : Int}, 1 ≤ a → a ≤ b → b ≤ 13 → b - a ≤ n → dy_ms y a ≤ dy_ms y b := by
  intro n
  induction n with
  | zero => intro a b h1 h2 h3 h4; have : a = b := by omega
            subst this; exact Int.le_refl _
  | succ n ih =>
    intro a b h1 h2 h3 h4
    by_cases h : a = b
    · subst h; exact Int.le_refl _
    · have := ih (a := a) (b := b - 1) h1 (by omega) (by omega) (by omega)
      have e := dy_ms_s (y := y) (k := b - 1) (by omega) (by omega)
      rw [show b - 1 + 1 = b by omega] at e
      have := dy_md_in y (b - 1)
      omega
/-- the month of a day is one -/
theorem dy_mo_uniq {y d a b : Int} (h1 : 1 ≤ a ∧ a ≤ 12) (h2 : 1 ≤ b ∧ b ≤ 12) (h3 : dy_ms y a ≤ d) (h4 : d < dy_ms y (a + 1)) (h5 : dy_ms y b ≤ d) (h6 : d < dy_ms y (b + 1)) : a = b := by
  rcases Int.lt_trichotomy a b with h | h | h
  · have := dy_ms_mono (y := y) 20 (a := a + 1) (b := b) (by omega) (by omega) (by omega) (by omega)
    omega
  · exact h
  · have := dy_ms_mono (y := y) 20 (a := b + 1) (b := a) (by omega) (by omega) (by omega) (by omega)
    omega
def dy_ea (y : Int) : Int := dy_ms y 3 + 20 + (19 * (y % 19) + 15) % 30 + 7 - dy_wd y (dy_ms y 3 + 20 + (19 * (y % 19) + 15) % 30)
theorem dy_ea_in (y : Int) : 80 ≤ dy_ea y ∧ dy_ea y ≤ 120 := by
  unfold dy_ea
  have h1 := dy_wd_in y (dy_ms y 3 + 20 + (19 * (y % 19) + 15) % 30)
  rw [dy_ms3] at h1 ⊢
  have h2 := dy_lp_in y
  omega
theorem dy_wd_sh (y a j : Int) : dy_wd y (a + j) = (dy_wd y a + j) % 7 := by
  unfold dy_wd; omega
