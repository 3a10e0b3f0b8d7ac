/-! a place that is settled for a year, with an empty calendar -/
def pl_st (σ : Nat → Nat → Int) (q : Nat) (y : Int) : Prop := σ q 10 = y ∧ σ q 8 = dy_ea y ∧ ∀ h : Nat, σ q 1 = (h : Int) + 1 → ∀ i : Nat, i < 366 → σ h i = -1
def pl_X (ty : Nat → Nat) (σ σ' : Nat → Nat → Int) : Prop := ∀ h, ty h = 25 → (∀ i : Nat, i < 366 → σ h i = -1) → ∀ i : Nat, i < 366 → σ' h i = -1
def pl_Y (ty : Nat → Nat) (σ σ' : Nat → Nat → Int) (a : Nat) : Prop := ∀ b, b ≠ a → ty b = 4 → ∀ k, σ' b k = σ b k
theorem pl_X.rf {ty : Nat → Nat} {σ : Nat → Nat → Int} : pl_X ty σ σ := fun _ _ h => h
theorem pl_Y.rf {ty : Nat → Nat} {σ : Nat → Nat → Int} {a : Nat} : pl_Y ty σ σ a := fun _ _ _ _ => rfl
theorem pl_X.up {ty : Nat → Nat} {σ0 σ : Nat → Nat → Int} {a k : Nat} {z : Int} (h : pl_X ty σ0 σ) (ka : ty a = 4) : pl_X ty σ0 (sv_up σ a k z) := fun b kb e i hi => by
  rw [sv_up_a (sv_ne kb ka (by decide))]; exact h b kb e i hi
theorem pl_Y.up {ty : Nat → Nat} {σ0 σ : Nat → Nat → Int} {a k : Nat} {z : Int} (h : pl_Y ty σ0 σ a) : pl_Y ty σ0 (sv_up σ a k z) a := fun b hb kb j => by
  rw [sv_up_a hb]; exact h b hb kb j
theorem pl_X.fill {ty : Nat → Nat} {σ0 σ σ' : Nat → Nat → Int} {q : Nat} (h : pl_X ty σ0 σ) (hO : ∀ a, a ≠ q → ∀ k, σ' a k = σ a k) (hE : ∀ i : Nat, i < 366 → σ' q i = -1) : pl_X ty σ0 σ' := fun b kb e i hi => by
  by_cases hb : b = q
  · rw [hb]; exact hE i hi
  · rw [hO b hb]; exact h b kb e i hi
theorem pl_Y.fill {ty : Nat → Nat} {σ0 σ σ' : Nat → Nat → Int} {a q : Nat} (h : pl_Y ty σ0 σ a) (hO : ∀ a, a ≠ q → ∀ k, σ' a k = σ a k) (kq : ty q = 25) : pl_Y ty σ0 σ' a := fun b hb kb j => by
  rw [hO b (sv_ne kb kq (by decide))]; exact h b hb kb j
theorem sv_fill_inv {sp : sv_Sp} {ty : Nat → Nat} {σ σ' : Nat → Nat → Int} {q K : Nat} (hI : sv_inv sp ty σ) (hO : ∀ a, a ≠ q → ∀ k, σ' a k = σ a k) (kq : ty q = K) (hs : ∀ k, sp K k = none) : sv_inv sp ty σ' := fun b j => by
  by_cases hb : b = q
  · rw [hb, kq, hs]; trivial
  · rw [hO b hb]; exact hI b j
theorem sv_fill_off {L : List Nat} {ty : Nat → Nat} {σ0 σ σ' : Nat → Nat → Int} {q K : Nat} (hF : sv_off L ty σ0 σ) (hO : ∀ a, a ≠ q → ∀ k, σ' a k = σ a k) (kq : ty q = K) (hs : K ∈ L) : sv_off L ty σ0 σ' := fun b j hb => by
  rw [hO b (fun e => hb (by rw [e, kq]; exact hs))]; exact hF b j hb
theorem pl_keep {ty : Nat → Nat} {σ1 σ2 : Nat → Nat → Int} {a b : Nat} {y : Int} (h1 : pl_st σ1 a y) (ka : ty a = 4) (hI : sv_inv sp_1 ty σ1) (h2 : pl_st σ2 b y) (hX : pl_X ty σ1 σ2) (hY : pl_Y ty σ1 σ2 b) : pl_st σ2 a y := by
  by_cases e : a = b
  · rw [e]; exact h2
  · refine ⟨by rw [hY a e ka]; exact h1.1, by rw [hY a e ka]; exact h1.2.1, fun h hh i hi => ?_⟩
    rw [hY a e ka] at hh
    obtain ⟨q, eq, kq⟩ := hI.ref (k := 1) ka rfl
    have : h = q := by omega
    subst this
    exact hX h kq (h1.2.2 h hh) i hi
def pl_0 (ty : Nat → Nat) (σ : Nat → Nat → Int) (a : Nat) : Prop := σ a 10 = 0 ∨ pl_st σ a (σ a 10)
def fx_of (y d : Int) : Int := if dy_wd y d = 0 then -11 else -10
theorem fx_of_in (y d : Int) : fx_of y d = -11 ∨ fx_of y d = -10 := by unfold fx_of; omega
def fx_isd (y d : Int) : Prop := (1 ≤ y ∧ y ≤ 2000) ∧ 0 ≤ d ∧ d < 365 + dy_lp y
def fx_office (p y d : Int) : Int := if (0 ≤ p ∧ p ≤ 3) ∧ (1 ≤ y ∧ y ≤ 2000) ∧ 0 ≤ d ∧ d < 365 + dy_lp y then fx_of y d else -2
def fx_fast (p y d : Int) : Int := if (0 ≤ p ∧ p ≤ 3) ∧ (1 ≤ y ∧ y ≤ 2000) ∧ 0 ≤ d ∧ d < 365 + dy_lp y then 0 else -2
def fx_wax (p y f t : Int) : Int := if (0 ≤ p ∧ p ≤ 3) ∧ (1 ≤ y ∧ y ≤ 2000) ∧ (0 ≤ f ∧ f < 365 + dy_lp y) ∧ (0 ≤ t ∧ t < 365 + dy_lp y) ∧ f ≤ t then 0 else -2
def fx_next (p y d r : Int) : Int := if (0 ≤ p ∧ p ≤ 3) ∧ (1 ≤ y ∧ y ≤ 2000) ∧ (0 ≤ d ∧ d < 365 + dy_lp y) ∧ 1 ≤ r ∧ r ≤ 8 then -1 else -2
def fx_unlike (p q y : Int) : Int := if (0 ≤ p ∧ p ≤ 3) ∧ (0 ≤ q ∧ q ≤ 3) ∧ 1 ≤ y ∧ y ≤ 2000 then 0 else -2
def fx_rota (p f t r b : Int) : Int := if (0 ≤ p ∧ p ≤ 3) ∧ (1 ≤ f ∧ f ≤ 2000) ∧ (f ≤ t ∧ t ≤ 2000) ∧ t - f ≤ 19 ∧ (1 ≤ r ∧ r ≤ 8) ∧ 1 ≤ b ∧ b ≤ 1023 then 0 else -2
def fx_cal (p : Int) : Int := if 0 ≤ p ∧ p ≤ 3 then 0 else -2
def fx_min (x y : Int) : Int := if x ≤ y then x else y
