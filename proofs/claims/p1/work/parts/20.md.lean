/-! the reference's offices of a year, with an empty calendar -/
def md_of (σ : Nat → Nat → Int) (a k : Nat) (y : Int) : Prop := ∀ h : Nat, σ a k = (h : Int) + 1 → ∀ i : Int, 0 ≤ i → i < 365 + dy_lp y → σ h i.toNat = fx_of y i
theorem md_step {σ : Nat → Nat → Int} {q : Nat} {X v : Int} {f : Int → Int} (hO : ∀ i : Int, 0 ≤ i → i < X → σ q i.toNat = f i) (hv : v = f X) (hX : 0 ≤ X) : ∀ i : Int, 0 ≤ i → i < X + 1 → sv_up σ q X.toNat v q i.toNat = f i := by
  intro i h1 h2
  by_cases e : i = X
  · subst e; rw [sv_up_s]; exact hv
  · rw [sv_up_k (by omega)]; exact hO i h1 (by omega)
theorem dy_last {y d M : Int} (h1 : 1 ≤ M ∧ M ≤ 12) (h2 : dy_ms y (M + 1) ≤ d) (h3 : d < 365 + dy_lp y) : M + 1 ≤ 12 := by
  by_cases q : M = 12
  · subst q
    have e : dy_ms y (12 + 1) = 365 + dy_lp y := dy_ms13 y
    omega
  · omega
