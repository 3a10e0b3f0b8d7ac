/-! branches whose way is known, longs, answers that are true or false -/
def sv_bo (P : Prop) (r : List sv_T) : Prop := (P ∧ r = [sv_i 1]) ∨ (¬ P ∧ r = [sv_i 0])
def sv_sg (z x y : Int) : Prop := (-1 ≤ z ∧ z ≤ 1) ∧ (z < 0 ↔ x < y) ∧ (z = 0 ↔ x = y) ∧ (0 < z ↔ y < x)
abbrev sv_in64 (n : Int) : Prop := -9223372036854775808 ≤ n ∧ n < 9223372036854775808
theorem sv_ol {n : Int} (h : sv_in64 n) : (Int64.ofInt n).toInt = n := by
  rw [Int64.toInt_ofInt, show Int64.size = 18446744073709551616 from rfl]
  exact Int.bmod_eq_of_le (by have := h.1; omega) (by have := h.2; omega)
section SVB
variable {p : Program} {l : Launch} {e : Env} {R : Room} {s : State} {m : MethodId} {args : Array Value} {below : List Frame} {meth : Method} {c : Code} {cells slots : Nat} {Q : State → Prop}
variable {cc : ByteArray} {pc nL : Nat} {Hp : Heap → Prop} {A : Nat → Prop} {lv lv' : sv_L} {st st' rest : List sv_T} {g : sv_G} {own : String}
theorem sv_icmp_t (hx : p.tables.exec = Jvm.exec) (hb : c.code = cc) {cnd : ClassFile.Cond} {off : Int} {tgt : Nat} {x y : Int} (hd : decode cc pc = .ok (.if_icmp cnd off, 3)) (ht : (pc : Int) + off = (tgt : Int)) (h1 : sv_in x) (h2 : sv_in y) (h : sv_cmp cnd x y)
    (kt : sv_V p l e R s m args below meth c nL A cells slots Q Hp tgt lv rest) : sv_V p l e R s m args below meth c nL A cells slots Q Hp pc lv (.inl y :: .inl x :: rest) := sv_icmp hx hb hd ht h1 h2 (fun _ => kt) (fun q => absurd h q)
theorem sv_icmp_f (hx : p.tables.exec = Jvm.exec) (hb : c.code = cc) {cnd : ClassFile.Cond} {off : Int} {tgt : Nat} {x y : Int} (hd : decode cc pc = .ok (.if_icmp cnd off, 3)) (ht : (pc : Int) + off = (tgt : Int)) (h1 : sv_in x) (h2 : sv_in y) (h : ¬ sv_cmp cnd x y)
    (kf : sv_V p l e R s m args below meth c nL A cells slots Q Hp (pc + 3) lv rest) : sv_V p l e R s m args below meth c nL A cells slots Q Hp pc lv (.inl y :: .inl x :: rest) := sv_icmp hx hb hd ht h1 h2 (fun q => absurd q h) (fun _ => kf)
theorem sv_if_t (hx : p.tables.exec = Jvm.exec) (hb : c.code = cc) {cnd : ClassFile.Cond} {off : Int} {tgt : Nat} {x : Int} (hd : decode cc pc = .ok (.ifCond cnd off, 3)) (ht : (pc : Int) + off = (tgt : Int)) (h1 : sv_in x) (h : sv_cmp cnd x 0)
    (kt : sv_V p l e R s m args below meth c nL A cells slots Q Hp tgt lv rest) : sv_V p l e R s m args below meth c nL A cells slots Q Hp pc lv (.inl x :: rest) := sv_if hx hb hd ht h1 (fun _ => kt) (fun q => absurd h q)
theorem sv_if_f (hx : p.tables.exec = Jvm.exec) (hb : c.code = cc) {cnd : ClassFile.Cond} {off : Int} {tgt : Nat} {x : Int} (hd : decode cc pc = .ok (.ifCond cnd off, 3)) (ht : (pc : Int) + off = (tgt : Int)) (h1 : sv_in x) (h : ¬ sv_cmp cnd x 0)
    (kf : sv_V p l e R s m args below meth c nL A cells slots Q Hp (pc + 3) lv rest) : sv_V p l e R s m args below meth c nL A cells slots Q Hp pc lv (.inl x :: rest) := sv_if hx hb hd ht h1 (fun q => absurd q h) (fun _ => kf)
theorem sv_i2l (hx : p.tables.exec = Jvm.exec) (hb : c.code = cc) {x : Int} (hd : decode cc pc = .ok (.i2l, 1)) (h1 : sv_in x) (k : sv_V p l e R s m args below meth c nL A cells slots Q Hp (pc + 1) lv (sv_l x :: rest)) : sv_V p l e R s m args below meth c nL A cells slots Q Hp pc lv (.inl x :: rest) := by
  intro H locs ls hH hS hl
  refine lv_i2l hx hb hd (v := Int64.ofInt x) ?_ (k H locs ls hH hS hl)
  rw [← Int64.toInt_inj, Int32.toInt_toInt64, sv_oi h1, sv_ol ⟨by have := h1.1; omega, by have := h1.2; omega⟩]
theorem sv_lcmp (hx : p.tables.exec = Jvm.exec) (hb : c.code = cc) {x y : Int} (hd : decode cc pc = .ok (.lcmp, 1)) (h1 : sv_in64 x) (h2 : sv_in64 y) (k : ∀ z : Int, sv_sg z x y → sv_V p l e R s m args below meth c nL A cells slots Q Hp (pc + 1) lv (sv_i z :: rest)) : sv_V p l e R s m args below meth c nL A cells slots Q Hp pc lv (.inr (.inr y) :: .inr (.inr x) :: rest) := by
  intro H locs ls hH hS hl
  have l1 : Int64.ofInt x < Int64.ofInt y ↔ x < y := by rw [Int64.lt_iff_toInt_lt, sv_ol h1, sv_ol h2]
  have l2 : Int64.ofInt x = Int64.ofInt y ↔ x = y := by rw [← Int64.toInt_inj, sv_ol h1, sv_ol h2]
  have l3 : Int64.ofInt y < Int64.ofInt x ↔ y < x := by rw [Int64.lt_iff_toInt_lt, sv_ol h1, sv_ol h2]
  refine W.lcmp hx hb hd ?_
  rcases Int.lt_trichotomy x y with h | h | h
  · have e1 : lg_cmp (Int64.ofInt x) (Int64.ofInt y) = Int32.ofInt (-1) := by
      have a1 : ¬ Int64.ofInt y < Int64.ofInt x := fun q => by have := l3.mp q; omega
      have a2 : ¬ Int64.ofInt x = Int64.ofInt y := fun q => by have := l2.mp q; omega
      simp only [lg_cmp, if_neg a1, if_neg a2]; rfl
    rw [e1]
    exact k (-1) ⟨⟨by omega, by omega⟩, ⟨fun _ => h, fun _ => by omega⟩, ⟨fun q => by omega, fun q => by omega⟩, ⟨fun q => by omega, fun q => by omega⟩⟩ H locs ls hH hS hl
  · have e1 : lg_cmp (Int64.ofInt x) (Int64.ofInt y) = Int32.ofInt 0 := by
      have a1 : ¬ Int64.ofInt y < Int64.ofInt x := fun q => by have := l3.mp q; omega
      simp only [lg_cmp, if_neg a1, if_pos (l2.mpr h)]; rfl
    rw [e1]
    exact k 0 ⟨⟨by omega, by omega⟩, ⟨fun q => by omega, fun q => by omega⟩, ⟨fun _ => h, fun _ => by omega⟩, ⟨fun q => by omega, fun q => by omega⟩⟩ H locs ls hH hS hl
  · have e1 : lg_cmp (Int64.ofInt x) (Int64.ofInt y) = Int32.ofInt 1 := by
      simp only [lg_cmp, if_pos (l3.mpr h)]; rfl
    rw [e1]
    exact k 1 ⟨⟨by omega, by omega⟩, ⟨fun q => by omega, fun q => by omega⟩, ⟨fun q => by omega, fun q => by omega⟩, ⟨fun _ => h, fun _ => by omega⟩⟩ H locs ls hH hS hl
/-- division of numbers that aren't below 0 -/
theorem sv_idivP (hx : p.tables.exec = Jvm.exec) (hb : c.code = cc) {x y : Int} (hd : decode cc pc = .ok (.idiv, 1)) (h1 : 0 ≤ x ∧ x < 2147483648) (h2 : 0 < y ∧ y < 2147483648)
    (k : sv_V p l e R s m args below meth c nL A cells slots Q Hp (pc + 1) lv (sv_i (x / y) :: rest)) : sv_V p l e R s m args below meth c nL A cells slots Q Hp pc lv (.inl y :: .inl x :: rest) :=
  sv_idiv hx hb hd ⟨by omega, by omega⟩ h2.1 h2.2 (by rw [Int.tdiv_eq_ediv_of_nonneg h1.1]; exact k)
theorem sv_iremP (hx : p.tables.exec = Jvm.exec) (hb : c.code = cc) {x y : Int} (hd : decode cc pc = .ok (.irem, 1)) (h1 : 0 ≤ x ∧ x < 2147483648) (h2 : 0 < y ∧ y < 2147483648)
    (k : sv_V p l e R s m args below meth c nL A cells slots Q Hp (pc + 1) lv (sv_i (x % y) :: rest)) : sv_V p l e R s m args below meth c nL A cells slots Q Hp pc lv (.inl y :: .inl x :: rest) :=
  sv_irem hx hb hd ⟨by omega, by omega⟩ h2.1 h2.2 (by rw [Int.tmod_eq_emod_of_nonneg h1.1]; exact k)
theorem sv_ldc2 (C : sv_C g A own cc nL p s m args meth c) {index : Nat} {z : Int} {v : Int64} (hd : decode cc pc = .ok (.ldc2_w index, 3)) (hw : Cond.constantLong own index v ∈ lw_good) (hv : Int64.ofInt z = v) (k : sv_V p l e R s m args below meth c nL A cells slots Q Hp (pc + 3) lv (sv_l z :: st)) : sv_V p l e R s m args below meth c nL A cells slots Q Hp pc lv st := by
  intro H locs ls hH hS hl
  subst hv
  exact lv_ldc2 C.1 C.2.1 C.2.2.2.1 (C.2.2.2.2.1 _ hw) hd (k H locs ls hH hS hl)
theorem sv_ldc (C : sv_C g A own cc nL p s m args meth c) {index : Nat} {z : Int} {v : Int32} (hd : decode cc pc = .ok (.ldc index, 2)) (hw : Cond.constant own index v ∈ lw_good) (hv : Int32.ofInt z = v) (k : sv_V p l e R s m args below meth c nL A cells slots Q Hp (pc + 2) lv (sv_i z :: st)) : sv_V p l e R s m args below meth c nL A cells slots Q Hp pc lv st := by
  intro H locs ls hH hS hl
  subst hv
  exact lv_ldc C.1 C.2.1 C.2.2.2.1 (C.2.2.2.2.1 _ hw) hd (k H locs ls hH hS hl)
theorem sv_ldc_w (C : sv_C g A own cc nL p s m args meth c) {index : Nat} {z : Int} {v : Int32} (hd : decode cc pc = .ok (.ldc_w index, 3)) (hw : Cond.constant own index v ∈ lw_good) (hv : Int32.ofInt z = v) (k : sv_V p l e R s m args below meth c nL A cells slots Q Hp (pc + 3) lv (sv_i z :: st)) : sv_V p l e R s m args below meth c nL A cells slots Q Hp pc lv st := by
  intro H locs ls hH hS hl
  subst hv
  exact lv_ldcw C.1 C.2.1 C.2.2.2.1 (C.2.2.2.2.1 _ hw) hd (k H locs ls hH hS hl)
end SVB
/-- fewer locals, by their places -/
theorem sv_pick {p : Program} {l : Launch} {e : Env} {R : Room} {s : State} {m : MethodId} {args : Array Value} {below : List Frame} {meth : Method} {c : Code} {cells slots : Nat} {Q : State → Prop} {pc nL : Nat} {Hp : Heap → Prop} {A : Nat → Prop} {lv lv2 : sv_L} {st : List sv_T} (is : List Nat) (h : is.filterMap (fun i => lv[i]?) = lv2)
    (k : sv_V p l e R s m args below meth c nL A cells slots Q Hp pc lv2 st) : sv_V p l e R s m args below meth c nL A cells slots Q Hp pc lv st :=
  sv_drop (fun q hq => by rw [← h] at hq; obtain ⟨i, -, hi⟩ := List.mem_filterMap.mp hq; exact List.mem_of_getElem? hi) k
