/-! the kinds of cells, and what a store says of a heap -/
def sv_isNest : Cond → Bool
  | .fieldLinkNest .. => true
  | .methodLinkNest .. => true
  | _ => false
def sv_nest : List Cond := lw_tbl.filter (fun w => sv_isNest w)
def lw_good : List Cond := lw_tbl.filter (fun w => goodWord w)
theorem sv_mem {w : Cond} (i : Nat) (h : lw_tbl[i]? = some w) (hg : goodWord w = true) : w ∈ lw_good := List.mem_filter.mpr ⟨List.mem_of_getElem? h, hg⟩
theorem sv_memN {w : Cond} (i : Nat) (h : lw_tbl[i]? = some w) (hg : sv_isNest w = true) : w ∈ sv_nest := List.mem_filter.mpr ⟨List.mem_of_getElem? h, hg⟩
theorem sv_goodIn {w : Cond} (h : w ∈ lw_good) : GoodIn lw_good (w :: lw_good) := by
  intro x hx
  have hx' : x ∈ lw_good := by
    rcases List.mem_cons.mp hx with e | e
    · rw [e]; exact h
    · exact e
  exact ⟨hx', good_of_word (List.mem_filter.mp hx').2⟩
def sv_ft (ci k : Nat) : FieldType := match ci with
  | 0 => tyX0 k | 1 => tyX1 k | 2 => tyX3 k | 3 => tyX4 k | 4 => tyX5 k | 5 => tyX6 k | 6 => tyX7 k | 7 => tyX8 k | 8 => tyX9 k | 9 => tyX10 k | _ => tyX11 k
/-- a kind: an object of a class (by its place in vwCl), or an array of a type and a length -/
def sv_kT : Nat → Option (Nat ⊕ (FieldType × Nat))
  | 1 => some (.inl 8) | 2 => some (.inl 6) | 3 => some (.inl 5) | 4 => some (.inl 3) | 5 => some (.inl 0) | 6 => some (.inl 7) | 7 => some (.inl 1) | 8 => some (.inl 2) | 9 => some (.inl 4) | 10 => some (.inl 10) | 11 => some (.inl 9)
  | 20 => some (.inr (.byte, 4000)) | 21 => some (.inr (.object "SaintsRoad$Place", 4)) | 22 => some (.inr (.object "SaintsRoad$Feast", 60)) | 23 => some (.inr (.int, 9))
  | 24 => some (.inr (.int, 60)) | 25 => some (.inr (.int, 366)) | 26 => some (.inr (.int, 60)) | 27 => some (.inr (.int, 60)) | 28 => some (.inr (.int, 60)) | 29 => some (.inr (.int, 60))
  | 30 => some (.inr (.int, 10)) | 31 => some (.inr (.int, 10)) | 32 => some (.inr (.int, 10)) | 33 => some (.inr (.int, 600)) | 34 => some (.inr (.int, 600)) | 35 => some (.inr (.int, 600)) | 36 => some (.inr (.int, 600))
  | 37 => some (.inr (.object "SaintsRoad$Procession", 12)) | 38 => some (.inr (.int, 400)) | 39 => some (.inr (.int, 1442)) | 40 => some (.inr (.int, 12)) | 41 => some (.inr (.int, 12))
  | 60 => some (.inr (.int, 5)) | 61 => some (.inr (.int, 5)) | 62 => some (.inr (.int, 5)) | 63 => some (.inr (.int, 5)) | 64 => some (.inr (.int, 45))
  | 65 => some (.inr (.int, 300)) | 66 => some (.inr (.int, 300)) | 67 => some (.inr (.int, 300)) | 68 => some (.inr (.int, 300)) | 69 => some (.inr (.int, 300)) | 70 => some (.inr (.int, 300)) | 71 => some (.inr (.int, 300))
  | 72 => some (.inr (.boolean, 300)) | 73 => some (.inr (.boolean, 300)) | 74 => some (.inr (.byte, 3600)) | 76 => some (.inr (.byte, 4000)) | 87 => some (.inr (.boolean, 9))
  | 88 => some (.inr (.int, 60)) | 89 => some (.inr (.int, 60)) | 90 => some (.inr (.int, 60)) | 91 => some (.inr (.int, 366)) | 92 => some (.inr (.int, 366)) | 93 => some (.inr (.boolean, 100))
  | 94 => some (.inr (.int, 600)) | 95 => some (.inr (.int, 600)) | 96 => some (.inr (.int, 600)) | 97 => some (.inr (.int, 600)) | 98 => some (.inr (.int, 10)) | 99 => some (.inr (.int, 10))
  | 101 => some (.inr (.int, 400)) | 102 => some (.inr (.int, 12)) | 103 => some (.inr (.int, 12)) | 104 => some (.inr (.int, 12)) | 105 => some (.inr (.int, 144)) | 106 => some (.inr (.int, 144))
  | _ => none
/-- a number in a field or an array of a type: the value -/
def sv_dv : FieldType → Int → Value
  | .object _, z => sv_rf z
  | .array _, z => sv_rf z
  | .long, z => .long (Int64.ofInt z)
  | _, z => .int (Int32.ofInt z)
def sv_of : FieldType → Int → sv_T
  | .object _, z => sv_a z
  | .array _, z => sv_a z
  | .long, z => sv_l z
  | _, z => sv_i z
theorem sv_of_den (t : FieldType) (z : Int) : sv_den (sv_of t z) = sv_dv t z := by cases t <;> rfl
def sv_rg : FieldType → Int → Prop
  | .object _, z => 0 ≤ z
  | .array _, z => 0 ≤ z
  | .long, z => -9223372036854775808 ≤ z ∧ z < 9223372036854775808
  | .boolean, z => 0 ≤ z ∧ z ≤ 1
  | .byte, z => -128 ≤ z ∧ z ≤ 127
  | _, z => sv_in z
/-- what the numbers of a store are within -/
def sv_ok (ty : Nat → Nat) (σ : Nat → Nat → Int) : Prop := ∀ a : Nat, match sv_kT (ty a) with
  | none => True
  | some (.inl ci) => ∀ (r : vw_C), vwCl[ci]? = some r → ∀ k, k < r.2.2 → sv_rg (sv_ft ci k) (σ a k)
  | some (.inr (t, n)) => ∀ i, i < n → sv_rg t (σ a i)
abbrev sv_G : Type := va_G × (FieldType → ClassId) × Nat × Nat × (Nat → Nat) × (Nat → Nat)
def sv_cell (g : sv_G) (a : Nat) (K : Option (Nat ⊕ (FieldType × Nat))) (f : Nat → Int) (H : Heap) : Prop := match K with
  | none => True
  | some (.inl ci) => ∃ r : vw_C, vwCl[ci]? = some r ∧ t_OB a (g.1.1 ci) r.2.2 (g.1.2 ci) H (fun k => sv_dv (sv_ft ci k) (f k))
  | some (.inr (t, n)) => H[a]? = some (arrV (g.2.1 t) n (fun i => sv_dv t (f i)))
def sv_H (g : sv_G) (ty : Nat → Nat) (σ : Nat → Nat → Int) (H : Heap) : Prop := ∀ a : Nat, sv_cell g a (sv_kT (ty a)) (σ a) H
theorem sv_cell.kept {g : sv_G} {a : Nat} {K : Option (Nat ⊕ (FieldType × Nat))} {f : Nat → Int} {H H1 : Heap} (h : sv_cell g a K f H) (hq : H1[a]? = H[a]?) : sv_cell g a K f H1 := by
  match K, h with
  | none, _ => exact trivial
  | some (.inl ci), ⟨r, h1, h2⟩ => exact ⟨r, h1, h2.kept hq⟩
  | some (.inr (t, n)), h => exact hq.trans h
def sv_up (σ : Nat → Nat → Int) (a k : Nat) (z : Int) : Nat → Nat → Int := fun a' k' => if a' = a ∧ k' = k then z else σ a' k'
theorem sv_up_s (σ : Nat → Nat → Int) (a k : Nat) (z : Int) : sv_up σ a k z a k = z := if_pos ⟨rfl, rfl⟩
theorem sv_up_a {σ : Nat → Nat → Int} {a k a' k' : Nat} {z : Int} (h : a' ≠ a) : sv_up σ a k z a' k' = σ a' k' := if_neg (fun q => h q.1)
theorem sv_up_k {σ : Nat → Nat → Int} {a k a' k' : Nat} {z : Int} (h : k' ≠ k) : sv_up σ a k z a' k' = σ a' k' := if_neg (fun q => h q.2)
theorem sv_up_row {σ : Nat → Nat → Int} {a k a' : Nat} {z : Int} (h : a' ≠ a) : sv_up σ a k z a' = σ a' := funext fun _ => sv_up_a h
theorem sv_ok_up {ty : Nat → Nat} {σ : Nat → Nat → Int} (h : sv_ok ty σ) {a k : Nat} {z : Int} (hz : match sv_kT (ty a) with | none => True | some (.inl ci) => sv_rg (sv_ft ci k) z | some (.inr (t, _)) => sv_rg t z) : sv_ok ty (sv_up σ a k z) := by
  intro b
  have hb := h b
  by_cases e : b = a
  · subst e
    revert hb hz
    cases hk : sv_kT (ty b) with
    | none => exact fun _ _ => trivial
    | some q =>
      match q with
      | .inl ci =>
        intro hb hz r hr j hj
        by_cases e2 : j = k
        · subst e2; rw [sv_up_s]; exact hz
        · rw [sv_up_k e2]; exact hb r hr j hj
      | .inr (t, n) =>
        intro hb hz j hj
        by_cases e2 : j = k
        · subst e2; rw [sv_up_s]; exact hz
        · rw [sv_up_k e2]; exact hb j hj
  · rw [sv_up_row e]
    exact hb
set_option maxRecDepth 100000 in
theorem sv_ws_in : ∀ w ∈ wsX00 ++ wsX10 ++ wsX30 ++ wsX40 ++ wsX50 ++ wsX60 ++ wsX70 ++ wsX80 ++ wsX90 ++ wsX100 ++ wsX110, w ∈ lw_good := by decide +kernel
/-- each class: its words, its fields' names, its fields' types -/
theorem sv_cls {ci : Nat} {r : vw_C} (h : vwCl[ci]? = some r) : (∀ w ∈ u_ws r.1 r.2.1 r.2.2, w ∈ lw_good) ∧ (∀ a, a < r.2.2 → ∀ b, b < r.2.2 → a ≠ b → (r.2.1 a).2.1 ≠ (r.2.1 b).2.1) ∧ ∀ k, k < r.2.2 → parseFieldDescriptor (r.2.1 k).2.2.1 = some (sv_ft ci k) := by
  match ci, h with
  | 0, h => cases h; exact ⟨fun w hw => sv_ws_in w (by simp only [List.mem_append]; exact Or.inl (Or.inl (Or.inl (Or.inl (Or.inl (Or.inl (Or.inl (Or.inl (Or.inl (Or.inl hw)))))))))), nmX0, tyX0_ok⟩
  | 1, h => cases h; exact ⟨fun w hw => sv_ws_in w (by simp only [List.mem_append]; exact Or.inl (Or.inl (Or.inl (Or.inl (Or.inl (Or.inl (Or.inl (Or.inl (Or.inl (Or.inr hw)))))))))), nmX1, tyX1_ok⟩
  | 2, h => cases h; exact ⟨fun w hw => sv_ws_in w (by simp only [List.mem_append]; exact Or.inl (Or.inl (Or.inl (Or.inl (Or.inl (Or.inl (Or.inl (Or.inl (Or.inr hw))))))))), nmX3, tyX3_ok⟩
  | 3, h => cases h; exact ⟨fun w hw => sv_ws_in w (by simp only [List.mem_append]; exact Or.inl (Or.inl (Or.inl (Or.inl (Or.inl (Or.inl (Or.inl (Or.inr hw)))))))), nmX4, tyX4_ok⟩
  | 4, h => cases h; exact ⟨fun w hw => sv_ws_in w (by simp only [List.mem_append]; exact Or.inl (Or.inl (Or.inl (Or.inl (Or.inl (Or.inl (Or.inr hw))))))), nmX5, tyX5_ok⟩
  | 5, h => cases h; exact ⟨fun w hw => sv_ws_in w (by simp only [List.mem_append]; exact Or.inl (Or.inl (Or.inl (Or.inl (Or.inl (Or.inr hw)))))), nmX6, tyX6_ok⟩
  | 6, h => cases h; exact ⟨fun w hw => sv_ws_in w (by simp only [List.mem_append]; exact Or.inl (Or.inl (Or.inl (Or.inl (Or.inr hw))))), nmX7, tyX7_ok⟩
  | 7, h => cases h; exact ⟨fun w hw => sv_ws_in w (by simp only [List.mem_append]; exact Or.inl (Or.inl (Or.inl (Or.inr hw)))), nmX8, tyX8_ok⟩
  | 8, h => cases h; exact ⟨fun w hw => sv_ws_in w (by simp only [List.mem_append]; exact Or.inl (Or.inl (Or.inr hw))), nmX9, tyX9_ok⟩
  | 9, h => cases h; exact ⟨fun w hw => sv_ws_in w (by simp only [List.mem_append]; exact Or.inl (Or.inr hw)), nmX10, tyX10_ok⟩
  | 10, h => cases h; exact ⟨fun w hw => sv_ws_in w (by simp only [List.mem_append]; exact Or.inr hw), nmX11, tyX11_ok⟩
  | n + 11, h => simp [vwCl] at h
