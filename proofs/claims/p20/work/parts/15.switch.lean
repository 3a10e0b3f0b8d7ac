section SVW
variable {p : Program} {l : Launch} {e : Env} {R : Room} {s : State} {m : MethodId} {args : Array Value} {below : List Frame} {meth : Method} {c : Code} {cells slots : Nat} {Q : State → Prop}
variable {cc : ByteArray} {pc nL : Nat} {Hp : Heap → Prop} {A : Nat → Prop} {lv : sv_L} {rest : List sv_T}
theorem sv_tsI (hx : p.tables.exec = Jvm.exec) (hb : c.code = cc) {dflt lo hi : Int} {offs : Array Int} {len : Nat} {x off : Int} {tgt : Nat} (hd : decode cc pc = .ok (.tableswitch dflt lo hi offs, len)) (k : Int) (hk : x = k) (h : (-2147483648 ≤ k ∧ k < 2147483648) ∧ lo ≤ k ∧ k ≤ hi) (ho : offs[(k - lo).toNat]? = some off) (ht : (pc : Int) + off = (tgt : Int))
    (kk : sv_V p l e R s m args below meth c nL A cells slots Q Hp tgt lv rest) : sv_V p l e R s m args below meth c nL A cells slots Q Hp pc lv (.inl x :: rest) := by
  subst hk
  intro H locs ls hH hS hl
  refine lv_tableIn hx hb hd (by rw [sv_oi h.1]; omega) (by rw [sv_oi h.1]; omega) (by rw [sv_oi h.1]; exact ho) ht (kk H locs ls hH hS hl)
theorem sv_tsO (hx : p.tables.exec = Jvm.exec) (hb : c.code = cc) {dflt lo hi : Int} {offs : Array Int} {len : Nat} {x : Int} {tgt : Nat} (hd : decode cc pc = .ok (.tableswitch dflt lo hi offs, len)) (h1 : sv_in x) (h : x < lo ∨ hi < x) (ht : (pc : Int) + dflt = (tgt : Int))
    (kk : sv_V p l e R s m args below meth c nL A cells slots Q Hp tgt lv rest) : sv_V p l e R s m args below meth c nL A cells slots Q Hp pc lv (.inl x :: rest) :=
  fun H locs ls hH hS hl => lv_tableOut hx hb hd (by rw [sv_oi h1]; exact h) ht (kk H locs ls hH hS hl)
theorem sv_los {l : List (Int × Int)} {d x : Int} (h : ∀ q ∈ l, x ≠ q.1) : Op.lookupswitch.offset l d x = d := by
  induction l with
  | nil => rfl
  | cons q r ih =>
    obtain ⟨a, o⟩ := q
    rw [Op.lookupswitch.offset_cons, if_neg (fun e => h (a, o) List.mem_cons_self e.symm)]
    exact ih fun q hq => h q (List.mem_cons_of_mem _ hq)
theorem sv_lsI (hx : p.tables.exec = Jvm.exec) (hb : c.code = cc) {dflt : Int} {ps : Array (Int × Int)} {len : Nat} {x off : Int} {tgt : Nat} (hd : decode cc pc = .ok (.lookupswitch dflt ps, len)) (hp : (ps.toList.zip (ps.toList.drop 1)).all (fun (a, next) => a.1 < next.1) = true) (k : Int) (hk : x = k) (h : sv_in k) (ho : Op.lookupswitch.offset ps.toList dflt k = off) (ht : (pc : Int) + off = (tgt : Int))
    (kk : sv_V p l e R s m args below meth c nL A cells slots Q Hp tgt lv rest) : sv_V p l e R s m args below meth c nL A cells slots Q Hp pc lv (.inl x :: rest) := by
  subst hk
  exact fun H locs ls hH hS hl => lv_lookup hx hb hd hp (by rw [sv_oi h]; exact ho) ht (kk H locs ls hH hS hl)
theorem sv_lsO (hx : p.tables.exec = Jvm.exec) (hb : c.code = cc) {dflt : Int} {ps : Array (Int × Int)} {len : Nat} {x : Int} {tgt : Nat} (hd : decode cc pc = .ok (.lookupswitch dflt ps, len)) (hp : (ps.toList.zip (ps.toList.drop 1)).all (fun (a, next) => a.1 < next.1) = true) (h : sv_in x) (hn : ∀ q ∈ ps.toList, x ≠ q.1) (ht : (pc : Int) + dflt = (tgt : Int))
    (kk : sv_V p l e R s m args below meth c nL A cells slots Q Hp tgt lv rest) : sv_V p l e R s m args below meth c nL A cells slots Q Hp pc lv (.inl x :: rest) :=
  fun H locs ls hH hS hl => lv_lookup hx hb hd hp (by rw [sv_oi h]; exact sv_los hn) ht (kk H locs ls hH hS hl)
end SVW
