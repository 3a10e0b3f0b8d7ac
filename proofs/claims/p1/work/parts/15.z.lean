theorem sv_by (x : Int32) : -128 ≤ x.toInt8.toInt32.toInt ∧ x.toInt8.toInt32.toInt ≤ 127 := by
  rw [Int8.toInt_toInt32]
  have h1 := Int8.le_toInt x.toInt8
  have h2 := Int8.toInt_lt x.toInt8
  omega
/-! the answers of the first call on a fresh object -/
def fx_20 : Int := 20
def fx_end (n : Int) : Int := if n = 0 then 0 else -1
def fx_fault (w : Int) : Int := if w = 0 then 0 else -1
theorem sv_boF {r : List sv_T} (h : sv_bo False r) : r = [sv_i 0] := by
  rcases h with ⟨h, -⟩ | ⟨-, h⟩
  · exact h.elim
  · exact h
theorem sv_and0 (x : Int) : (Int32.ofInt (Int32.ofInt 0 >>> (Int32.ofInt x &&& 31)).toInt &&& Int32.ofInt 1).toInt = 0 := by
  have h : Int32.ofInt 0 >>> (Int32.ofInt x &&& 31) = 0 := by
    rw [← Int32.toBitVec_inj]
    simp
  rw [h]; decide
def fx_cmp (x y : Int) : Int := if x < y then -1 else if x = y then 0 else 1
theorem fx_cmp_in (x y : Int) : -1 ≤ fx_cmp x y ∧ fx_cmp x y ≤ 1 := by unfold fx_cmp; omega
def fx_easter (y : Int) : Int := if 1 ≤ y ∧ y ≤ 2000 then dy_ea y else -2
def dy_mo (y d : Int) : Int := if d < dy_ms y 2 then 1 else if d < dy_ms y 3 then 2 else if d < dy_ms y 4 then 3 else if d < dy_ms y 5 then 4 else if d < dy_ms y 6 then 5 else if d < dy_ms y 7 then 6 else if d < dy_ms y 8 then 7 else if d < dy_ms y 9 then 8 else if d < dy_ms y 10 then 9 else if d < dy_ms y 11 then 10 else if d < dy_ms y 12 then 11 else 12
theorem dy_mo_ok {y d : Int} (h0 : 0 ≤ d) (h1 : d < 365 + dy_lp y) : (1 ≤ dy_mo y d ∧ dy_mo y d ≤ 12) ∧ dy_ms y (dy_mo y d) ≤ d ∧ d < dy_ms y (dy_mo y d + 1) := by
  have e1 := dy_ms1 y
  have e13 := dy_ms13 y
  unfold dy_mo
  repeat' split
  all_goals refine ⟨by omega, by omega, ?_⟩
  all_goals first | assumption | (show d < dy_ms y 13; omega)
theorem dy_mo_of {y d M : Int} (h0 : 0 ≤ d) (h1 : d < 365 + dy_lp y) (h2 : 1 ≤ M ∧ M ≤ 12) (h3 : dy_ms y M ≤ d) (h4 : M = 12 ∨ d < dy_ms y (M + 1)) : M = dy_mo y d := by
  obtain ⟨a, b, c⟩ := dy_mo_ok h0 h1
  refine dy_mo_uniq h2 a h3 ?_ b c
  rcases h4 with rfl | h4
  · show d < dy_ms y 13
    rw [dy_ms13]; exact h1
  · exact h4
def fx_date (y d w : Int) : Int := if (1 ≤ y ∧ y ≤ 2000) ∧ 0 ≤ d ∧ d < 365 + dy_lp y then (if w = 0 then dy_mo y d else if w = 1 then d - dy_ms y (dy_mo y d) + 1 else if w = 2 then dy_wd y d else -1) else -1
def fx_br (b : Int) : Int := if 0 ≤ b ∧ b ≤ 9 then 0 else -2
def fx_quarrel (a b on : Int) : Int := if (0 ≤ a ∧ a ≤ 9) ∧ (0 ≤ b ∧ b ≤ 9) ∧ a ≠ b then on else -2
def fx_street (a b m : Int) : Int := if (0 ≤ a ∧ a ≤ 19) ∧ (0 ≤ b ∧ b ≤ 19) ∧ a ≠ b ∧ 0 ≤ m ∧ m ≤ 60 then 0 else -2
def fx_begin (k c m t : Int) : Int := if (0 ≤ k ∧ k ≤ 11) ∧ (0 ≤ c ∧ c ≤ 19) ∧ (0 ≤ m ∧ m ≤ 1440) ∧ 0 ≤ t ∧ t ≤ 30 then 1 else -2
def fx_count (w : Int) : Int := if (0 ≤ w ∧ w ≤ 3) ∨ (10 ≤ w ∧ w ≤ 13) then 0 else -1
