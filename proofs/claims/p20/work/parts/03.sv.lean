/-! numbers, references and longs as integers: what stands on the stack and in the locals -/
abbrev sv_T : Type := Int ⊕ (Int ⊕ Int)
abbrev sv_i (n : Int) : sv_T := .inl n
abbrev sv_a (z : Int) : sv_T := .inr (.inl z)
abbrev sv_l (n : Int) : sv_T := .inr (.inr n)
abbrev sv_r (q : Nat) : sv_T := .inr (.inl ((q : Int) + 1))
/-- a reference as a number: 0 is null, a + 1 the address a -/
def sv_rf : Int → Value
  | .ofNat 0 => .null
  | .ofNat (n + 1) => .ref n
  | .negSucc _ => .null
def sv_den : sv_T → Value
  | .inl n => .int (Int32.ofInt n)
  | .inr (.inl z) => sv_rf z
  | .inr (.inr n) => .long (Int64.ofInt n)
theorem sv_den_r (q : Nat) : sv_den (sv_r q) = .ref q := rfl
theorem sv_den_i (n : Int) : sv_den (sv_i n) = .int (Int32.ofInt n) := rfl
theorem sv_den_l (n : Int) : sv_den (sv_l n) = .long (Int64.ofInt n) := rfl
theorem sv_den_a (n : Int) : sv_den (sv_a n) = sv_rf n := rfl
theorem sv_rf_or (z : Int) : sv_rf z = .null ∨ ∃ a, sv_rf z = .ref a := by
  match z with
  | .ofNat 0 => exact Or.inl rfl
  | .ofNat (n + 1) => exact Or.inr ⟨n, rfl⟩
  | .negSucc _ => exact Or.inl rfl
def sv_two : sv_T → Bool
  | .inr (.inr _) => true
  | _ => false
theorem sv_rf_cat (z : Int) : (sv_rf z).category = 1 := by
  rcases sv_rf_or z with h | ⟨a, h⟩ <;> rw [h] <;> rfl
theorem sv_cat1 {v : sv_T} (h : sv_two v = false) : (sv_den v).category = 1 := by
  match v with
  | .inl n => rfl
  | .inr (.inl z) => exact sv_rf_cat z
  | .inr (.inr n) => cases h
theorem sv_cat2 {v : sv_T} (h : sv_two v = true) : (sv_den v).category = 2 := by
  match v with
  | .inl n => cases h
  | .inr (.inl z) => cases h
  | .inr (.inr n) => rfl
abbrev sv_in (n : Int) : Prop := -2147483648 ≤ n ∧ n < 2147483648
theorem sv_oi {n : Int} (h : sv_in n) : (Int32.ofInt n).toInt = n := by
  rw [Int32.toInt_ofInt, show Int32.size = 4294967296 from rfl]
  exact Int.bmod_eq_of_le (by have := h.1; omega) (by have := h.2; omega)
theorem sv_io (x : Int32) : Int32.ofInt x.toInt = x := Int32.ofInt_toInt x
theorem sv_ioin (x : Int32) : sv_in x.toInt := ⟨Int32.le_toInt x, Int32.toInt_lt x⟩
theorem sv_add (a b : Int) : Int32.ofInt a + Int32.ofInt b = Int32.ofInt (a + b) := (Int32.ofInt_add a b).symm
theorem sv_sub (a b : Int) : Int32.ofInt a - Int32.ofInt b = Int32.ofInt (a - b) := (Int32.ofInt_sub a b).symm
theorem sv_mul (a b : Int) : Int32.ofInt a * Int32.ofInt b = Int32.ofInt (a * b) := (Int32.ofInt_mul a b).symm
theorem sv_neg (a : Int) : -Int32.ofInt a = Int32.ofInt (-a) := (Int32.ofInt_neg a).symm
theorem sv_ladd (a b : Int) : Int64.ofInt a + Int64.ofInt b = Int64.ofInt (a + b) := (Int64.ofInt_add a b).symm
theorem sv_lsub (a b : Int) : Int64.ofInt a - Int64.ofInt b = Int64.ofInt (a - b) := (Int64.ofInt_sub a b).symm
theorem sv_lt {a b : Int} (ha : sv_in a) (hb : sv_in b) : Int32.ofInt a < Int32.ofInt b ↔ a < b := by
  rw [Int32.lt_iff_toInt_lt, sv_oi ha, sv_oi hb]
theorem sv_le {a b : Int} (ha : sv_in a) (hb : sv_in b) : Int32.ofInt a ≤ Int32.ofInt b ↔ a ≤ b := by
  rw [Int32.le_iff_toInt_le, sv_oi ha, sv_oi hb]
theorem sv_eq {a b : Int} (ha : sv_in a) (hb : sv_in b) : Int32.ofInt a = Int32.ofInt b ↔ a = b := by
  rw [← Int32.toInt_inj, sv_oi ha, sv_oi hb]
/-! the locals -/
abbrev sv_L : Type := List (Nat × sv_T)
def sv_lm (lv : sv_L) : List (Nat × Value) := lv.map (fun q => (q.1, sv_den q.2))
def sv_get (lv : sv_L) (i : Nat) : Option sv_T := match lv with
  | [] => none
  | q :: r => if q.1 = i then some q.2 else sv_get r i
theorem sv_get_mem {lv : sv_L} {i : Nat} {v : sv_T} (h : sv_get lv i = some v) : (i, v) ∈ lv := by
  induction lv with
  | nil => cases h
  | cons q r ih =>
    unfold sv_get at h
    split at h
    · next e => cases h; subst e; exact List.mem_cons_self
    · exact List.mem_cons_of_mem _ (ih h)
theorem sv_get_at {ls : Array Slot} {nL : Nat} {lv : sv_L} (hl : lv_has ls nL (sv_lm lv)) {i : Nat} {v : sv_T} (h : sv_get lv i = some v) : ls[i]? = some (.val (sv_den v)) :=
  hl.2.2 (i, sv_den v) (List.mem_map.mpr ⟨(i, v), sv_get_mem h, rfl⟩)
def sv_ins (i : Nat) (v : sv_T) : sv_L → sv_L
  | [] => [(i, v)]
  | q :: r => if q.1 < i then q :: sv_ins i v r else (i, v) :: q :: r
theorem sv_ins_mem {i : Nat} {v : sv_T} {lv : sv_L} {q : Nat × sv_T} (h : q ∈ sv_ins i v lv) : q = (i, v) ∨ q ∈ lv := by
  induction lv with
  | nil => exact Or.inl (List.mem_singleton.mp h)
  | cons p r ih =>
    unfold sv_ins at h
    split at h
    · rcases List.mem_cons.mp h with h | h
      · exact Or.inr (h ▸ List.mem_cons_self)
      · rcases ih h with h | h
        · exact Or.inl h
        · exact Or.inr (List.mem_cons_of_mem _ h)
    · rcases List.mem_cons.mp h with h | h
      · exact Or.inl h
      · exact Or.inr h
def sv_put (lv : sv_L) (i : Nat) (v : sv_T) : sv_L := sv_ins i v (lv.filter (fun q => !(q.1 == i) && !(q.1 + 1 == i && sv_two q.2)))
def sv_put2 (lv : sv_L) (i : Nat) (v : sv_T) : sv_L := sv_ins i v (lv.filter (fun q => !(q.1 == i) && (!(q.1 == i + 1) && !(q.1 + 1 == i && sv_two q.2))))
theorem sv_two_cat (v : sv_T) : ((sv_den v).category == 2) = sv_two v := by
  cases h : sv_two v with
  | true => rw [sv_cat2 h]; rfl
  | false => rw [sv_cat1 h]; rfl
theorem sv_put_ok {ls : Array Slot} {nL i : Nat} {lv : sv_L} {v : sv_T} (hl : lv_has ls nL ((i, sv_den v) :: (sv_lm lv).filter (fun q => !(q.1 == i) && !(q.1 + 1 == i && q.2.category == 2)))) : lv_has ls nL (sv_lm (sv_put lv i v)) := by
  refine ⟨hl.1, hl.2.1, fun q hq => hl.2.2 q ?_⟩
  obtain ⟨z, hz, rfl⟩ := List.mem_map.mp hq
  rcases sv_ins_mem hz with h | h
  · subst h; exact List.mem_cons_self
  · obtain ⟨h1, h2⟩ := List.mem_filter.mp h
    refine List.mem_cons_of_mem _ (List.mem_filter.mpr ⟨List.mem_map.mpr ⟨z, h1, rfl⟩, ?_⟩)
    simp only [sv_two_cat]
    exact h2
theorem sv_put2_ok {ls : Array Slot} {nL i : Nat} {lv : sv_L} {v : sv_T} (hl : lv_has ls nL ((i, sv_den v) :: (sv_lm lv).filter (fun q => !(q.1 == i) && (!(q.1 == i + 1) && !(q.1 + 1 == i && q.2.category == 2))))) : lv_has ls nL (sv_lm (sv_put2 lv i v)) := by
  refine ⟨hl.1, hl.2.1, fun q hq => hl.2.2 q ?_⟩
  obtain ⟨z, hz, rfl⟩ := List.mem_map.mp hq
  rcases sv_ins_mem hz with h | h
  · subst h; exact List.mem_cons_self
  · obtain ⟨h1, h2⟩ := List.mem_filter.mp h
    refine List.mem_cons_of_mem _ (List.mem_filter.mpr ⟨List.mem_map.mpr ⟨z, h1, rfl⟩, ?_⟩)
    simp only [sv_two_cat]
    exact h2
