theorem sv_b8 {n : Int} (h : -128 ≤ n ∧ n ≤ 127) : (Int8.ofInt n).toInt32 = Int32.ofInt n := by
  rw [← Int32.toInt_inj, sv_oi ⟨by omega, by omega⟩, Int8.toInt_toInt32, Int8.toInt_ofInt, show Int8.size = 256 from rfl]
  exact Int.bmod_eq_of_le (by omega) (by omega)
theorem sv_b16 {n : Int} (h : -32768 ≤ n ∧ n ≤ 32767) : (Int16.ofInt n).toInt32 = Int32.ofInt n := by
  rw [← Int32.toInt_inj, sv_oi ⟨by omega, by omega⟩, Int16.toInt_toInt32, Int16.toInt_ofInt, show Int16.size = 65536 from rfl]
  exact Int.bmod_eq_of_le (by omega) (by omega)
theorem sv_lc : ∀ n : Fin 2, Int64.ofNat (n : Nat) = Int64.ofInt ((n : Nat) : Int) := by decide
/-! the judgement: from here, with these locals and this stack, over every heap of which Hp says what it says, the machine comes to Q -/
section SVV
variable {p : Program} {l : Launch} {e : Env} {R : Room} {s : State} {m : MethodId} {args : Array Value} {below : List Frame} {meth : Method} {c : Code} {cells slots : Nat} {Q : State → Prop}
variable {cc : ByteArray} {pc nL : Nat} {Hp : Heap → Prop} {A : Nat → Prop} {lv lv' : sv_L} {st st' rest : List sv_T}
def sv_V (p : Program) (l : Launch) (e : Env) (R : Room) (s : State) (m : MethodId) (args : Array Value) (below : List Frame) (meth : Method) (c : Code) (nL : Nat) (A : Nat → Prop) (cells slots : Nat) (Q : State → Prop) (Hp : Heap → Prop) (pc : Nat) (lv : sv_L) (st : List sv_T) : Prop :=
  ∀ (H : Heap) (locs : List Loc) (ls : Array Slot), Hp H → va_S A s.heap H locs → lv_has ls nL (sv_lm lv) → W p l e R s m args below meth c H locs cells slots Q (F0 m pc ls (st.map sv_den))
def sv_ex (i : Instr) (len nL : Nat) (lv : sv_L) (st : List sv_T) : Option (sv_L × List sv_T) := match i, len, st with
  | .iconst n, 1, st => some (lv, sv_i n :: st)
  | .bipush n, 2, st => if -128 ≤ n ∧ n ≤ 127 then some (lv, sv_i n :: st) else none
  | .sipush n, 3, st => if -32768 ≤ n ∧ n ≤ 32767 then some (lv, sv_i n :: st) else none
  | .lconst n, 1, st => some (lv, sv_l (n.val : Int) :: st)
  | .aconst_null, 1, st => some (lv, sv_a 0 :: st)
  | .iload_n k, 1, st => match sv_get lv k.val with | some (.inl x) => some (lv, .inl x :: st) | _ => none
  | .iload k, 2, st => match sv_get lv k with | some (.inl x) => some (lv, .inl x :: st) | _ => none
  | .lload_n k, 1, st => match sv_get lv k.val with | some (.inr (.inr x)) => some (lv, .inr (.inr x) :: st) | _ => none
  | .lload k, 2, st => match sv_get lv k with | some (.inr (.inr x)) => some (lv, .inr (.inr x) :: st) | _ => none
  | .aload_n k, 1, st => match sv_get lv k.val with | some (.inr (.inl x)) => some (lv, .inr (.inl x) :: st) | _ => none
  | .aload k, 2, st => match sv_get lv k with | some (.inr (.inl x)) => some (lv, .inr (.inl x) :: st) | _ => none
  | .istore_n k, 1, .inl x :: st => if k.val < nL then some (sv_put lv k.val (.inl x), st) else none
  | .istore k, 2, .inl x :: st => if k < nL then some (sv_put lv k (.inl x), st) else none
  | .lstore_n k, 1, .inr (.inr x) :: st => if k.val + 1 < nL then some (sv_put2 lv k.val (.inr (.inr x)), st) else none
  | .lstore k, 2, .inr (.inr x) :: st => if k + 1 < nL then some (sv_put2 lv k (.inr (.inr x)), st) else none
  | .astore_n k, 1, .inr (.inl x) :: st => if k.val < nL then some (sv_put lv k.val (.inr (.inl x)), st) else none
  | .astore k, 2, .inr (.inl x) :: st => if k < nL then some (sv_put lv k (.inr (.inl x)), st) else none
  | .iinc k n, 3, st => match sv_get lv k with | some (.inl x) => if k < nL then some (sv_put lv k (.inl (x + n)), st) else none | _ => none
  | .iadd, 1, .inl y :: .inl x :: st => some (lv, sv_i (x + y) :: st)
  | .isub, 1, .inl y :: .inl x :: st => some (lv, sv_i (x - y) :: st)
  | .imul, 1, .inl y :: .inl x :: st => some (lv, sv_i (x * y) :: st)
  | .ineg, 1, .inl x :: st => some (lv, sv_i (-x) :: st)
  | .ladd, 1, .inr (.inr y) :: .inr (.inr x) :: st => some (lv, sv_l (x + y) :: st)
  | .lsub, 1, .inr (.inr y) :: .inr (.inr x) :: st => some (lv, sv_l (x - y) :: st)
  | .iand, 1, .inl y :: .inl x :: st => some (lv, sv_i (Int32.ofInt x &&& Int32.ofInt y).toInt :: st)
  | .ior, 1, .inl y :: .inl x :: st => some (lv, sv_i (Int32.ofInt x ||| Int32.ofInt y).toInt :: st)
  | .ixor, 1, .inl y :: .inl x :: st => some (lv, sv_i (Int32.ofInt x ^^^ Int32.ofInt y).toInt :: st)
  | .ishl, 1, .inl y :: .inl x :: st => some (lv, sv_i (Int32.ofInt x <<< (Int32.ofInt y &&& 31)).toInt :: st)
  | .ishr, 1, .inl y :: .inl x :: st => some (lv, sv_i (Int32.ofInt x >>> (Int32.ofInt y &&& 31)).toInt :: st)
  | .i2b, 1, .inl x :: st => some (lv, sv_i (Int32.ofInt x).toInt8.toInt32.toInt :: st)
  | .dup, 1, v :: st => if sv_two v = false then some (lv, v :: v :: st) else none
  | .pop, 1, v :: st => if sv_two v = false then some (lv, st) else none
  | .dup_x1, 1, v :: w :: st => if sv_two v = false ∧ sv_two w = false then some (lv, v :: w :: v :: st) else none
  | .dup_x2, 1, v :: w :: z :: st => if sv_two v = false ∧ sv_two w = false ∧ sv_two z = false then some (lv, v :: w :: z :: v :: st) else none
  | .dup2, 1, v :: w :: st => if sv_two v = false ∧ sv_two w = false then some (lv, v :: w :: v :: w :: st) else none
  | _, _, _ => none
theorem sv_ex_ok (hx : p.tables.exec = Jvm.exec) (hb : c.code = cc) {i : Instr} {len : Nat} (hd : decode cc pc = .ok (i, len)) (he : sv_ex i len nL lv st = some (lv', st')) (k : sv_V p l e R s m args below meth c nL A cells slots Q Hp (pc + len) lv' st') : sv_V p l e R s m args below meth c nL A cells slots Q Hp pc lv st := by
  intro H locs ls hH hS hl
  unfold sv_ex at he
  split at he
  · cases he; exact lv_iconst hx hb hd rfl (k H locs ls hH hS hl)
  · split at he
    · next h => cases he; exact lv_bipush hx hb hd (sv_b8 h) (k H locs ls hH hS hl)
    · cases he
  · split at he
    · next h => cases he; exact lv_sipush hx hb hd (sv_b16 h) (k H locs ls hH hS hl)
    · cases he
  · cases he; exact lv_lconst hx hb hd (sv_lc _) (k H locs ls hH hS hl)
  · cases he; exact lv_null hx hb hd (k H locs ls hH hS hl)
  · split at he
    · next h => cases he; exact lv_iload_n hx hb hd rfl (sv_get_at hl h) (k H locs ls hH hS hl)
    · cases he
  · split at he
    · next h => cases he; exact lv_iload hx hb hd (sv_get_at hl h) (k H locs ls hH hS hl)
    · cases he
  · split at he
    · next h => cases he; exact lv_lload_n hx hb hd rfl (sv_get_at hl h) (k H locs ls hH hS hl)
    · cases he
  · split at he
    · next h => cases he; exact lv_lload hx hb hd (sv_get_at hl h) (k H locs ls hH hS hl)
    · cases he
  · split at he
    · next x h =>
      cases he
      have hk := k H locs ls hH hS hl
      have ha := sv_get_at hl h
      simp only [List.map_cons, sv_den] at hk ha
      rcases sv_rf_or x with e | ⟨a, e⟩ <;> rw [e] at hk ha
      · exact lv_aload_nN hx hb hd rfl ha hk
      · exact lv_aload_n hx hb hd rfl ha hk
    · cases he
  · split at he
    · next x h =>
      cases he
      have hk := k H locs ls hH hS hl
      have ha := sv_get_at hl h
      simp only [List.map_cons, sv_den] at hk ha
      rcases sv_rf_or x with e | ⟨a, e⟩ <;> rw [e] at hk ha
      · exact lv_aloadN hx hb hd ha hk
      · exact lv_aload hx hb hd ha hk
    · cases he
  · split at he
    · next h => cases he; exact lv_istore_n hx hb hd rfl hl h rfl (fun ls' hl' => k H locs ls' hH hS (sv_put_ok (v := .inl _) hl'))
    · cases he
  · split at he
    · next h => cases he; exact lv_istore hx hb hd hl h rfl (fun ls' hl' => k H locs ls' hH hS (sv_put_ok (v := .inl _) hl'))
    · cases he
  · split at he
    · next h => cases he; exact lv_lstore_n hx hb hd rfl hl h rfl (fun ls' hl' => k H locs ls' hH hS (sv_put2_ok (v := .inr (.inr _)) hl'))
    · cases he
  · split at he
    · next h => cases he; exact lv_lstore hx hb hd hl h rfl (fun ls' hl' => k H locs ls' hH hS (sv_put2_ok (v := .inr (.inr _)) hl'))
    · cases he
  · split at he
    · next x _ h =>
      cases he
      have hk := fun ls' hl' => k H locs ls' hH hS (sv_put_ok (v := .inr (.inl x)) hl')
      show W p l e R s m args below meth c H locs cells slots Q (F0 m pc ls (sv_rf x :: _))
      simp only [sv_den] at hk
      rcases sv_rf_or x with e | ⟨a, e⟩ <;> rw [e] at hk ⊢
      · exact lv_astore_nN hx hb hd rfl hl h rfl hk
      · exact lv_astore_n hx hb hd rfl hl h rfl hk
    · cases he
  · split at he
    · next x _ h =>
      cases he
      have hk := fun ls' hl' => k H locs ls' hH hS (sv_put_ok (v := .inr (.inl x)) hl')
      show W p l e R s m args below meth c H locs cells slots Q (F0 m pc ls (sv_rf x :: _))
      simp only [sv_den] at hk
      rcases sv_rf_or x with e | ⟨a, e⟩ <;> rw [e] at hk ⊢
      · exact lv_astoreN hx hb hd hl h rfl hk
      · exact lv_astore hx hb hd hl h rfl hk
    · cases he
  · split at he
    · next x h =>
      split at he
      · next h2 =>
        cases he
        obtain ⟨j, hj⟩ := List.getElem?_of_mem (List.mem_map.mpr ⟨_, sv_get_mem h, rfl⟩ : _ ∈ sv_lm lv)
        exact lv_iinc hx hb hd hl (k := j) hj (sv_add _ _) h2 rfl (fun ls' hl' => k H locs ls' hH hS (sv_put_ok (v := .inl _) hl'))
      · cases he
    · cases he
  · cases he; exact lv_iadd hx hb hd (by rw [sv_add]; exact k H locs ls hH hS hl)
  · cases he; exact lv_isub hx hb hd (by rw [sv_sub]; exact k H locs ls hH hS hl)
  · cases he; exact lv_imul hx hb hd (by rw [sv_mul]; exact k H locs ls hH hS hl)
  · cases he; exact lv_ineg hx hb hd (by rw [sv_neg]; exact k H locs ls hH hS hl)
  · cases he; exact lv_ladd hx hb hd (by rw [sv_ladd]; exact k H locs ls hH hS hl)
  · cases he; exact lv_lsub hx hb hd (by rw [sv_lsub]; exact k H locs ls hH hS hl)
  · cases he; refine lv_iand hx hb hd ?_; have hk := k H locs ls hH hS hl; simp only [List.map_cons, sv_den, sv_io] at hk; exact hk
  · cases he; refine lv_ior hx hb hd ?_; have hk := k H locs ls hH hS hl; simp only [List.map_cons, sv_den, sv_io] at hk; exact hk
  · cases he; refine lv_ixor hx hb hd ?_; have hk := k H locs ls hH hS hl; simp only [List.map_cons, sv_den, sv_io] at hk; exact hk
  · cases he; refine lv_ishl hx hb hd ?_; have hk := k H locs ls hH hS hl; simp only [List.map_cons, sv_den, sv_io] at hk; exact hk
  · cases he; refine lv_ishr hx hb hd ?_; have hk := k H locs ls hH hS hl; simp only [List.map_cons, sv_den, sv_io] at hk; exact hk
  · cases he; refine lv_i2b hx hb hd rfl ?_; have hk := k H locs ls hH hS hl; simp only [List.map_cons, sv_den, sv_io] at hk; exact hk
  · split at he
    · next h => cases he; exact lv_dup hx hb hd (sv_cat1 h) (k H locs ls hH hS hl)
    · cases he
  · split at he
    · next h => cases he; exact lv_pop hx hb hd (sv_cat1 h) (k H locs ls hH hS hl)
    · cases he
  · split at he
    · next h => cases he; exact lv_dup_x1 hx hb hd (sv_cat1 h.1) (sv_cat1 h.2) (k H locs ls hH hS hl)
    · cases he
  · split at he
    · next h => cases he; exact lv_dup_x2 hx hb hd (sv_cat1 h.1) (sv_cat1 h.2.1) (sv_cat1 h.2.2) (k H locs ls hH hS hl)
    · cases he
  · split at he
    · next h => cases he; exact lv_dup2_11 hx hb hd (sv_cat1 h.1) (sv_cat1 h.2) (k H locs ls hH hS hl)
    · cases he
  · cases he
end SVV
