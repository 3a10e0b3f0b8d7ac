/-! what stays of a store, and what its cells are within -/
def sv_off (L : List Nat) (ty : Nat → Nat) (σ σ' : Nat → Nat → Int) : Prop := ∀ a k, ty a ∉ L → σ' a k = σ a k
theorem sv_off.rf {L : List Nat} {ty : Nat → Nat} {σ : Nat → Nat → Int} : sv_off L ty σ σ := fun _ _ _ => rfl
theorem sv_off.up {L : List Nat} {ty : Nat → Nat} {σ0 σ : Nat → Nat → Int} (h : sv_off L ty σ0 σ) {a k : Nat} {z : Int} (hk : ty a ∈ L) : sv_off L ty σ0 (sv_up σ a k z) := fun b j hb => by
  have e : b ≠ a := fun e => hb (by rw [e]; exact hk)
  rw [sv_up_a e]
  exact h b j hb
theorem sv_off.tr {L L2 : List Nat} {ty : Nat → Nat} {σ0 σ σ' : Nat → Nat → Int} (h : sv_off L ty σ0 σ) (h2 : sv_off L2 ty σ σ') (hs : ∀ x ∈ L2, x ∈ L) : sv_off L ty σ0 σ' := fun b j hb => (h2 b j (fun q => hb (hs _ q))).trans (h b j hb)
theorem sv_off.at {L : List Nat} {ty : Nat → Nat} {σ σ' : Nat → Nat → Int} (h : sv_off L ty σ σ') {a k K : Nat} (ha : ty a = K) (hK : K ∉ L) : σ' a k = σ a k := h a k (by rw [ha]; exact hK)
abbrev sv_Sp : Type := Nat → Nat → Option ((Int × Int) ⊕ (Nat × Bool))
def sv_sat (ty : Nat → Nat) : Option ((Int × Int) ⊕ (Nat × Bool)) → Int → Prop
  | none, _ => True
  | some (.inl (lo, hi)), z => lo ≤ z ∧ z ≤ hi
  | some (.inr (K, nl)), z => (nl = true ∧ z = 0) ∨ ∃ q : Nat, z = (q : Int) + 1 ∧ ty q = K
def sv_inv (sp : sv_Sp) (ty : Nat → Nat) (σ : Nat → Nat → Int) : Prop := ∀ a k, sv_sat ty (sp (ty a) k) (σ a k)
theorem sv_inv.ref {sp : sv_Sp} {ty : Nat → Nat} {σ : Nat → Nat → Int} (h : sv_inv sp ty σ) {a k Ka K : Nat} (ha : ty a = Ka) (hs : sp Ka k = some (.inr (K, false))) : ∃ q : Nat, σ a k = (q : Int) + 1 ∧ ty q = K := by
  have h1 := h a k
  rw [ha, hs] at h1
  rcases h1 with ⟨h2, -⟩ | h2
  · cases h2
  · exact h2
theorem sv_inv.num {sp : sv_Sp} {ty : Nat → Nat} {σ : Nat → Nat → Int} (h : sv_inv sp ty σ) {a k Ka : Nat} {lo hi : Int} (ha : ty a = Ka) (hs : sp Ka k = some (.inl (lo, hi))) : lo ≤ σ a k ∧ σ a k ≤ hi := by
  have h1 := h a k
  rw [ha, hs] at h1
  exact h1
theorem sv_inv.up {sp : sv_Sp} {ty : Nat → Nat} {σ : Nat → Nat → Int} (h : sv_inv sp ty σ) {a k : Nat} {z : Int} (hz : sv_sat ty (sp (ty a) k) z) : sv_inv sp ty (sv_up σ a k z) := by
  intro b j
  by_cases e : b = a ∧ j = k
  · rw [e.1, e.2, sv_up_s]; exact hz
  · rw [show sv_up σ a k z b j = σ b j from if_neg e]; exact h b j
theorem sv_ne {ty : Nat → Nat} {a b Ka Kb : Nat} (ha : ty a = Ka) (hb : ty b = Kb) (h : Ka ≠ Kb) : a ≠ b := fun e => h (by rw [← ha, ← hb, e])
/-- the numbers of a field or an element, by the type -/
theorem sv_ok.num {ty : Nat → Nat} {σ : Nat → Nat → Int} (h : sv_ok ty σ) {a k ci : Nat} {r : vw_C} (hk : sv_kT (ty a) = some (.inl ci)) (hr : vwCl[ci]? = some r) (hn : k < r.2.2) : sv_rg (sv_ft ci k) (σ a k) := by
  have h1 := h a
  rw [hk] at h1
  exact h1 r hr k hn
theorem sv_ok.el {ty : Nat → Nat} {σ : Nat → Nat → Int} (h : sv_ok ty σ) {a k n : Nat} {t : FieldType} (hk : sv_kT (ty a) = some (.inr (t, n))) (hn : k < n) : sv_rg t (σ a k) := by
  have h1 := h a
  rw [hk] at h1
  exact h1 k hn
/-- the world of empty calendars: where references lead, and what is still as it was made -/
def sp_1 : sv_Sp
  | 1, 0 => some (.inr (2, false)) | 1, 1 => some (.inr (3, false)) | 1, 2 => some (.inr (21, false)) | 1, 3 => some (.inr (5, false)) | 1, 4 => some (.inr (6, false)) | 1, 5 => some (.inr (7, false))
  | 2, 0 => some (.inr (20, false))
  | 3, 2 => some (.inr (2, true)) | 3, 3 => some (.inr (7, true)) | 3, 4 => some (.inr (8, true))
  | 4, 0 => some (.inr (24, false)) | 4, 1 => some (.inr (25, false)) | 4, 2 => some (.inr (7, false)) | 4, 3 => some (.inr (26, false)) | 4, 4 => some (.inr (27, false)) | 4, 5 => some (.inr (28, false)) | 4, 6 => some (.inr (29, false))
  | 5, 0 => some (.inr (30, false)) | 5, 3 => some (.inr (31, false)) | 5, 4 => some (.inr (32, false)) | 5, 5 => some (.inr (33, false)) | 5, 6 => some (.inr (34, false)) | 5, 7 => some (.inr (35, false)) | 5, 8 => some (.inr (36, false))
  | 6, 0 => some (.inr (37, false)) | 6, 2 => some (.inr (38, false)) | 6, 3 => some (.inr (39, false))
  | 7, 0 => some (.inr (22, false)) | 7, 1 => some (.inr (23, false)) | 7, 2 => some (.inl (0, 0)) | 7, 5 => some (.inl (-1, -1))
  | 9, 2 => some (.inr (40, false)) | 9, 3 => some (.inr (41, false))
  | 10, 15 => some (.inr (11, false)) | 10, 17 => none | 10, 18 => none | 10, 19 => none | 10, 20 => none | 10, 21 => none | 10, 22 => none | 10, 23 => none | 10, 24 => none | 10, 25 => none | 10, 26 => none | 10, 40 => none
  | 10, k => if k < 47 then some (.inr (60 + k, false)) else none
  | 21, k => if k < 4 then some (.inr (4, false)) else none
  | 22, k => if k < 60 then some (.inr (8, false)) else none
  | 37, k => if k < 12 then some (.inr (9, false)) else none
  | 60, _ => some (.inl (0, 0))
  | _, _ => none
/-- the numbers of a fresh object -/
def sp_0 : sv_Sp
  | 2, 1 => some (.inl (0, 0)) | 3, 0 => some (.inl (0, 0)) | 3, 1 => some (.inl (-1, -1)) | 4, 10 => some (.inl (0, 0)) | 5, 1 => some (.inl (0, 0)) | 5, 2 => some (.inl (0, 0)) | 6, 1 => some (.inl (0, 0)) | 9, 0 => some (.inl (0, 0))
  | 10, 17 => some (.inl (0, 0)) | 10, 23 => some (.inl (0, 0)) | 10, 24 => some (.inl (-1, -1)) | 10, 40 => some (.inl (0, 0))
  | 30, _ => some (.inl (0, 0)) | 31, _ => some (.inl (0, 0)) | 38, _ => some (.inl (0, 0)) | 60, _ => some (.inl (0, 0)) | 63, _ => some (.inl (0, 0)) | 93, _ => some (.inl (0, 0)) | 98, _ => some (.inl (0, 0)) | 101, _ => some (.inl (0, 0)) | 102, _ => some (.inl (0, 0))
  | _, _ => none
