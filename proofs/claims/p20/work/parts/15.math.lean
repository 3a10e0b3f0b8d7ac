theorem mw_in : Cond.initialized "java/lang/Math" ∈ lw_good := sv_mem 91 (by decide +kernel) rfl
theorem mw_min_co : Cond.code Lib.Math.min.name Lib.Math.min.code 2 (some .int) ∈ lw_good := sv_mem 806 (by decide +kernel) rfl
theorem mw_min_st : Cond.static Lib.Math.min.name ∈ lw_good := sv_mem 805 (by decide +kernel) rfl
theorem mw_max_co : Cond.code Lib.Math.max.name Lib.Math.max.code 2 (some .int) ∈ lw_good := sv_mem 798 (by decide +kernel) rfl
theorem mw_max_st : Cond.static Lib.Math.max.name ∈ lw_good := sv_mem 797 (by decide +kernel) rfl
section SVM
variable {p : Program} {l : Launch} {e : Env} {R : Room} {s : State} {m : MethodId} {args : Array Value} {below : List Frame} {meth : Method} {c : Code} {cells slots : Nat} {Q : State → Prop}
variable {cc : ByteArray} {pc nL : Nat} {Hp : Heap → Prop} {A : Nat → Prop} {lv : sv_L} {rest : List sv_T} {g : sv_G} {own : String}
theorem sv_min (C : sv_C g A own cc nL p s m args meth c) {index : Nat} {x y : Int} (hd : decode cc pc = .ok (.invokestatic index, 3)) (hl : Cond.methodLink own index Lib.Math.min.name ∈ lw_good) (h1 : sv_in x) (h2 : sv_in y) (hf : 1 ≤ R.frames) (hlo : (rest.map fun v => (sv_den v).category).sum + 13 ≤ R.locals) (hcs : cells ≤ R.cells ∧ slots ≤ R.slots)
    (kk : sv_V p l e R s m args below meth c nL A cells slots Q Hp (pc + 3) lv (sv_i (if y < x then y else x) :: rest)) : sv_V p l e R s m args below meth c nL A cells slots Q Hp pc lv (.inl y :: .inl x :: rest) := by
  intro H locs ls hH hS hll
  refine va_mmin C.1 C.2.1 (C.2.2.1.trans hll.1.symm) C.2.2.2.1 (C.2.2.2.2.1 _ hl) (C.2.2.2.2.1 _ mw_min_st) (C.2.2.2.2.1 _ mw_in) (C.2.2.2.2.1 _ mw_min_co) hf (by rw [List.map_map]; exact hlo) hcs.1 hcs.2 hd ?_
  have e1 : (if Int32.ofInt y < Int32.ofInt x then Int32.ofInt y else Int32.ofInt x) = Int32.ofInt (if y < x then y else x) := by
    by_cases q : y < x
    · rw [if_pos q, if_pos ((sv_lt h2 h1).mpr q)]
    · rw [if_neg q, if_neg (fun z => q ((sv_lt h2 h1).mp z))]
  rw [e1]
  exact kk H locs ls hH hS hll
theorem sv_max (C : sv_C g A own cc nL p s m args meth c) {index : Nat} {x y : Int} (hd : decode cc pc = .ok (.invokestatic index, 3)) (hl : Cond.methodLink own index Lib.Math.max.name ∈ lw_good) (h1 : sv_in x) (h2 : sv_in y) (hf : 1 ≤ R.frames) (hlo : (rest.map fun v => (sv_den v).category).sum + 13 ≤ R.locals) (hcs : cells ≤ R.cells ∧ slots ≤ R.slots)
    (kk : sv_V p l e R s m args below meth c nL A cells slots Q Hp (pc + 3) lv (sv_i (if x < y then y else x) :: rest)) : sv_V p l e R s m args below meth c nL A cells slots Q Hp pc lv (.inl y :: .inl x :: rest) := by
  intro H locs ls hH hS hll
  refine va_mmax C.1 C.2.1 (C.2.2.1.trans hll.1.symm) C.2.2.2.1 (C.2.2.2.2.1 _ hl) (C.2.2.2.2.1 _ mw_max_st) (C.2.2.2.2.1 _ mw_in) (C.2.2.2.2.1 _ mw_max_co) hf (by rw [List.map_map]; exact hlo) hcs.1 hcs.2 hd ?_
  have e1 : (if Int32.ofInt x < Int32.ofInt y then Int32.ofInt y else Int32.ofInt x) = Int32.ofInt (if x < y then y else x) := by
    by_cases q : x < y
    · rw [if_pos q, if_pos ((sv_lt h1 h2).mpr q)]
    · rw [if_neg q, if_neg (fun z => q ((sv_lt h1 h2).mp z))]
  rw [e1]
  exact kk H locs ls hH hS hll
end SVM
