/-! contracts over the store, entry, calls, ends -/
def sv_ret : List sv_T → Option Value
  | [] => none
  | v :: _ => some (sv_den v)
def sv_P (g : sv_G) (A : Nat → Prop) (ty : Nat → Nat) (σ : Nat → Nat → Int) (av : List sv_T) : Array Value → State → Prop := va_Pc (av.map sv_den) (fun U => sv_H g ty σ U.heap ∧ sv_K g A U)
def sv_Q (g : sv_G) (A : Nat → Prop) (ty : Nat → Nat) (po : List sv_T → (Nat → Nat → Int) → Prop) : Array Value → State → Outcome → State → Prop := fun _ st oc t =>
  ∃ (r : List sv_T) (σ' : Nat → Nat → Int), oc = .returned (sv_ret r) ∧ r.length ≤ 1 ∧ po r σ' ∧ sv_ok ty σ' ∧ sv_H g ty σ' t.heap ∧ va_F A st t
/-- a method's contract: with these arguments over this store it returns, and then po holds of the answer and the store; no cell is made -/
def sv_M (l : Launch) (y : MethodName) (cc : ByteArray) (n : Nat) (ret : Option FieldType) (rm : Room) (g : sv_G) (A : Nat → Prop) (ty : Nat → Nat) (σ : Nat → Nat → Int) (av : List sv_T) (po : List sv_T → (Nat → Nat → Int) → Prop) : Prop :=
  Met l y (Cond.code y cc n ret :: lw_good) rm (sv_P g A ty σ av) (sv_Q g A ty po) 0 0 A
def sv_E (p : Program) (l : Launch) (e : Env) (R : Room) (s : State) (m : MethodId) (args : Array Value) (below : List Frame) (meth : Method) (c : Code) (nL : Nat) (g : sv_G) (A : Nat → Prop) (ty : Nat → Nat) (po : List sv_T → (Nat → Nat → Int) → Prop) (σ : Nat → Nat → Int) (pc : Nat) (lv : sv_L) (st : List sv_T) : Prop :=
  sv_V p l e R s m args below meth c nL A 0 0 (MQ below (sv_Q g A ty po) args s 0 0 A) (sv_H g ty σ) pc lv st
def sv_av : Nat → List sv_T → sv_L
  | _, [] => []
  | i, v :: r => (i, v) :: sv_av (if sv_two v then i + 2 else i + 1) r
theorem sv_av_eq (i : Nat) (av : List sv_T) : lv_args i (av.map sv_den) = sv_lm (sv_av i av) := by
  induction av generalizing i with
  | nil => rfl
  | cons v r ih =>
    simp only [List.map_cons, lv_args, sv_av, sv_lm]
    rw [ih]
    cases h : sv_two v with
    | true => simp [sv_cat2 h, sv_lm]
    | false => simp [sv_cat1 h, sv_lm]
theorem sv_enter {l : Launch} {y : MethodName} {cc : ByteArray} {n : Nat} {ret : Option FieldType} {fr lo : Nat} {g : sv_G} {A : Nat → Prop} {ty : Nat → Nat} {σ : Nat → Nat → Int} {av : List sv_T} {po : List sv_T → (Nat → Nat → Int) → Prop} (hy : plainName y.cls = true) (hn : (lg_sl (av.map sv_den)).length ≤ n)
    (body : ∀ p e s m args below meth c, sv_C g A y.cls cc n p s m args meth c → meth.sig.returnType = ret → sv_E p l e { frames := fr, cells := 0, slots := 0, locals := lo } s m args below meth c n g A ty po σ 0 (sv_av 0 av) []) : sv_M l y cc n ret { frames := fr, cells := 0, slots := 0, locals := lo } g A ty σ av po := by
  refine Met.ofW (cc := cc) (maxL := n) (ret := ret) hy rfl ?_
  intro p e s m args below meth c s₁ B hml hv
  obtain ⟨rfl, hH, hK⟩ := hv
  have hts := atoms_spec (ws := Cond.code y cc n ret :: lw_good) B.pre
  have hown : s.vm.findClass y.cls = some m.cls := findClass_of_methodNamed B.named
  have hl := lv_entry (av.map sv_den) (n := n) hn
  rw [lg_entry_eq]
  rw [sv_av_eq] at hl
  exact body p e s m _ below meth c ⟨B.exec, B.bytes, hml, hown, fun w hw => hts w (List.mem_cons_of_mem _ hw), hK, B.notSynchronized⟩ B.returns s.heap [] _ hH va_S.rf hl
section SVC
variable {p : Program} {l : Launch} {e : Env} {R : Room} {s : State} {m : MethodId} {args : Array Value} {below : List Frame} {meth : Method} {c : Code} {cells slots : Nat} {Q : State → Prop}
variable {cc : ByteArray} {pc nL : Nat} {A : Nat → Prop} {lv lv' : sv_L} {st st' rest : List sv_T} {g : sv_G} {own : String} {ty : Nat → Nat} {σ : Nat → Nat → Int} {po : List sv_T → (Nat → Nat → Int) → Prop}
theorem sv_qq {H : Heap} {locs : List Loc} {r : List sv_T} (hok : sv_ok ty σ) (hr : r.length ≤ 1) (hpo : po r σ) (hH : sv_H g ty σ H) (hS : va_S A s.heap H locs) (t : State) (ht : t.heap = H) : sv_Q g A ty po args s (.returned (sv_ret r)) t :=
  ⟨r, σ, rfl, hr, hpo, hok, by rw [ht]; exact hH, hS.F ht⟩
theorem sv_iret (C : sv_C g A own cc nL p s m args meth c) (hr : meth.sig.returnType = some .int) {x : Int} (hd : decode cc pc = .ok (.ireturn, 1)) (hok : sv_ok ty σ) (hpo : po [sv_i x] σ) : sv_E p l e R s m args below meth c nL g A ty po σ pc lv [sv_i x] :=
  fun H locs ls hH hS hl => W.iret C.1 C.2.1 hr (fun t ht _ => sv_qq (r := [sv_i x]) hok (Nat.le_refl 1) hpo hH hS t ht) hS.2.2 hd C.2.2.2.2.2.2
theorem sv_zret (C : sv_C g A own cc nL p s m args meth c) (hr : meth.sig.returnType = some .boolean) {x : Int} (hx : x = 0 ∨ x = 1) (hd : decode cc pc = .ok (.ireturn, 1)) (hok : sv_ok ty σ) (hpo : po [sv_i x] σ) : sv_E p l e R s m args below meth c nL g A ty po σ pc lv [sv_i x] :=
  fun H locs ls hH hS hl => W.zret C.1 C.2.1 hr (by rcases hx with rfl | rfl <;> decide) (fun t ht _ => sv_qq (r := [sv_i x]) hok (Nat.le_refl 1) hpo hH hS t ht) hS.2.2 hd C.2.2.2.2.2.2
theorem sv_vret (C : sv_C g A own cc nL p s m args meth c) (hr : meth.sig.returnType = none) (hd : decode cc pc = .ok (.return_, 1)) (hok : sv_ok ty σ) (hpo : po [] σ) : sv_E p l e R s m args below meth c nL g A ty po σ pc lv [] :=
  fun H locs ls hH hS hl => W.vret C.1 C.2.1 hr (fun t ht _ => sv_qq (r := []) hok (Nat.zero_le 1) hpo hH hS t ht) hS.2.2 hd C.2.2.2.2.2.2
theorem sv_aret (C : sv_C g A own cc nL p s m args meth c) {rt : FieldType} (hr : meth.sig.returnType = some rt) (hrt : (∃ n, rt = .object n) ∨ ∃ t, rt = .array t) {z : Int} (hd : decode cc pc = .ok (.areturn, 1)) (hok : sv_ok ty σ) (hpo : po [sv_a z] σ) : sv_E p l e R s m args below meth c nL g A ty po σ pc lv [sv_a z] :=
  fun H locs ls hH hS hl => W.aret C.1 C.2.1 hr hrt (sv_rf_or z) (fun t ht _ => sv_qq (r := [sv_a z]) hok (Nat.le_refl 1) hpo hH hS t ht) hS.2.2 hd C.2.2.2.2.2.2
theorem sv_Pblind {av : List sv_T} : FrameBlind (sv_P g A ty σ av) := fun a U gf mk q => ⟨q.1, q.2.1, q.2.2.calling⟩
theorem sv_Pat {H : Heap} {locs : List Loc} {av : List sv_T} (hK : sv_K g A s) (hH : sv_H g ty σ H) (hS : va_S A s.heap H locs) (U : State) (hU : U.heap = H) (hW : s.WarmedH U.vm) : sv_P g A ty σ av (av.map sv_den).toArray U :=
  ⟨rfl, by rw [hU]; exact hH, hK.warm hW (fun a h1 h2 => by rw [hU]; exact hS.2.1 a h1 h2)⟩
theorem sv_cont {mc0 : Nat} {lv : sv_L} {pc0 : Nat} {H : Heap} {locs : List Loc} {ls : Array Slot} {av : Array Value} {po' : List sv_T → (Nat → Nat → Int) → Prop} {st0 : List Value} (hr : va_Run p l e R s m args below meth c H locs cells slots 0 0 (F0 m pc ls st0) (rest.map sv_den) (sv_Q g A ty po' av) A) (hS : va_S A s.heap H locs) (hl : lv_has ls nL (sv_lm lv))
    (kk : ∀ (r : List sv_T) (σ' : Nat → Nat → Int), po' r σ' → sv_ok ty σ' → sv_V p l e R s m args below meth c nL A cells slots Q (sv_H g ty σ') (pc + 3) lv (r ++ rest)) : W p l e R s m args below meth c H locs cells slots Q (F0 m pc ls st0) := by
  intro T hT X
  obtain ⟨v, st₀, t, T', L, h0, X', hL, e1, e2, ⟨r, σ', hv, hlen, hp, hok, hH', hz, hk⟩, stp⟩ := hr T hT X
  rw [h0] at hz hk
  have hv' : v = sv_ret r := Outcome.returned.inj hv
  have hS' : va_S A s.heap T'.heap (locs ++ L) := ⟨Nat.le_trans hS.1 (by rw [e1]; exact hz), fun q h1 h2 => by rw [e1, hk q (Nat.lt_of_lt_of_le h1 hS.1) h2]; exact hS.2.1 q h1 h2, fun q hq => by
    rcases List.mem_append.mp hq with h | h
    · exact hS.2.2 q h
    · exact hL q h⟩
  obtain ⟨t2, a1, b1⟩ := kk r σ' hp hok T'.heap (locs ++ L) ls (by rw [e1]; exact hH') hS' hl T' rfl X'
  refine ⟨t2, stp t2 ?_, b1⟩
  have hst : v.toList ++ rest.map sv_den = (r ++ rest).map sv_den := by
    rw [hv', List.map_append]
    match r, hlen with
    | [], _ => rfl
    | [x], _ => rfl
  show Steps p.tables e below (T'.setTop (F0 m (pc + 3) ls (v.toList ++ rest.map sv_den))) t2
  rw [hst]
  exact a1
/-- the words of a call: the code, the class's start, the name's form -/
abbrev sv_cb (R : Room) (y : MethodName) (bytes : ByteArray) (n : Nat) (ret : Option FieldType) (fr lo k : Nat) : Prop := Cond.code y bytes n ret ∈ lw_good ∧ Cond.initialized y.cls ∈ lw_good ∧ (y.cls ≠ "java/lang/invoke/MethodHandle" ∧ y.cls ≠ "java/lang/invoke/VarHandle" ∧ (parseMethodDescriptor y.desc).map (fun d => d.parameters.length) = some k) ∧ fr + 1 ≤ R.frames ∧ 8 + (n + 11) + lo ≤ R.locals
theorem sv_cB (C : sv_C g A own cc nL p s m args meth c) {y : MethodName} {bytes : ByteArray} {n : Nat} {ret : Option FieldType} {fr lo k index : Nat} (hb : sv_cb R y bytes n ret fr lo k) (hl : Cond.methodLink own index y ∈ lw_good) : CallB R s args own index y bytes n ret (Cond.code y bytes n ret :: lw_good) { frames := fr, cells := 0, slots := 0, locals := lo } 0 0 k :=
  callB_of k C.2.2.2.2.1 (sv_goodIn hb.1) rfl rfl rfl (C.2.2.2.2.1 _ hb.2.1) (C.2.2.2.2.1 _ hl) hb.2.2.1 ⟨hb.2.2.2.1, hb.2.2.2.2⟩
theorem sv_cN (C : sv_C g A own cc nL p s m args meth c) {y : MethodName} {bytes : ByteArray} {n : Nat} {ret : Option FieldType} {fr lo k index : Nat} {host : String} (hb : sv_cb R y bytes n ret fr lo k) (hl : Cond.methodLinkNest own index y host ∈ sv_nest) : va_CN R s args own index y host bytes n ret (Cond.code y bytes n ret :: lw_good) { frames := fr, cells := 0, slots := 0, locals := lo } 0 0 k :=
  va_cnB k C.2.2.2.2.1 (sv_goodIn hb.1) rfl rfl rfl (C.2.2.2.2.2.1.2.1 _ hl) (C.2.2.2.2.1 _ hb.2.1) hb.2.2.1 ⟨hb.2.2.2.1, hb.2.2.2.2⟩
theorem sv_rcv (C : sv_C g A own cc nL p s m args meth c) {a ci : Nat} {r : vw_C} {H : Heap} (hH : sv_H g ty σ H) (hk : sv_kT (ty a) = some (.inl ci)) (hr : vwCl[ci]? = some r) : ∃ cellB : Cell, H[a]? = some cellB ∧ cellB.vm.isStatics = false ∧ s.vm.findClass r.1 = some cellB.cls := by
  have h1 := hH a
  rw [hk] at h1
  obtain ⟨r', hr', cell, q1, q2, q3, q4⟩ := h1
  cases hr.symm.trans hr'
  obtain ⟨hS', hfc, kC, hkC, hkind⟩ := C.2.2.2.2.2.1.1.1 ci _ hr
  exact ⟨cell, q1, by rw [q3]; rfl, by rw [q2]; exact hfc⟩
theorem sv_room {ls : Array Slot} {st0 : List Value} (h : (rest.map fun v => (sv_den v).category).sum ≤ 8) : 2 * (F0 m pc ls st0).monitorRoom + ((rest.map sv_den).map fun v => v.category).sum ≤ 8 :=
  lv_room (by rw [List.map_map]; exact h)
/-- a call of an instance method of the receiver's own class -/
theorem sv_cv (C : sv_C g A own cc nL p s m args meth c) {y : MethodName} {bytes : ByteArray} {n : Nat} {ret : Option FieldType} {fr lo k index a ci : Nat} {r : vw_C} {as : List sv_T} {po' : List sv_T → (Nat → Nat → Int) → Prop} (hd : decode cc pc = .ok (.invokevirtual index, 3)) (hM : sv_M l y bytes n ret { frames := fr, cells := 0, slots := 0, locals := lo } g A ty σ (sv_r a :: as) po') (hb : sv_cb R y bytes n ret fr lo k) (hl : Cond.methodLink own index y ∈ lw_good) (hi : Cond.instanceMethod y ∈ lw_good) (hs : Cond.selects r.1 y y ∈ lw_good) (hk : sv_kT (ty a) = some (.inl ci)) (hr : vwCl[ci]? = some r) (hn : as.length = k) (hst : st = as.reverse ++ sv_r a :: rest) (hrm : (rest.map fun v => (sv_den v).category).sum ≤ 8) (hcs : cells ≤ R.cells ∧ slots ≤ R.slots)
    (kk : ∀ (r : List sv_T) (σ' : Nat → Nat → Int), po' r σ' → sv_ok ty σ' → sv_V p l e R s m args below meth c nL A cells slots Q (sv_H g ty σ') (pc + 3) lv (r ++ rest)) : sv_V p l e R s m args below meth c nL A cells slots Q (sv_H g ty σ) pc lv st := by
  intro H locs ls hH hS hll
  subst hst
  refine sv_cont (mc0 := 0) (pc0 := 0) (va_runV (b := a) (As := as.map sv_den) ⟨C.1, C.2.1, C.2.2.1, C.2.2.2.1, C.2.2.2.2.1⟩ hM ⟨sv_cB C hb hl, C.2.2.2.2.1 _ hi, C.2.2.2.2.1 _ hs⟩ ⟨sv_Pblind, sv_rcv C hH hk hr, fun U hU hW => sv_Pat (av := sv_r a :: as) C.2.2.2.2.2.1 hH hS U hU hW⟩ rfl (by rw [List.length_map]; exact hn) hll.1 (by simp [sv_den_r]) (sv_room hrm) hd hcs) hS hll kk
theorem sv_cs (C : sv_C g A own cc nL p s m args meth c) {y : MethodName} {bytes : ByteArray} {n : Nat} {ret : Option FieldType} {fr lo k index : Nat} {as : List sv_T} {po' : List sv_T → (Nat → Nat → Int) → Prop} (hd : decode cc pc = .ok (.invokestatic index, 3)) (hM : sv_M l y bytes n ret { frames := fr, cells := 0, slots := 0, locals := lo } g A ty σ as po') (hb : sv_cb R y bytes n ret fr lo k) (hl : Cond.methodLink own index y ∈ lw_good) (hi : Cond.static y ∈ lw_good) (hn : as.length = k) (hst : st = as.reverse ++ rest) (hrm : (rest.map fun v => (sv_den v).category).sum ≤ 8) (hcs : cells ≤ R.cells ∧ slots ≤ R.slots)
    (kk : ∀ (r : List sv_T) (σ' : Nat → Nat → Int), po' r σ' → sv_ok ty σ' → sv_V p l e R s m args below meth c nL A cells slots Q (sv_H g ty σ') (pc + 3) lv (r ++ rest)) : sv_V p l e R s m args below meth c nL A cells slots Q (sv_H g ty σ) pc lv st := by
  intro H locs ls hH hS hll
  subst hst
  refine sv_cont (mc0 := 0) (pc0 := 0) (va_runS (As := as.map sv_den) ⟨C.1, C.2.1, C.2.2.1, C.2.2.2.1, C.2.2.2.2.1⟩ hM ⟨sv_cB C hb hl, C.2.2.2.2.1 _ hi⟩ ⟨sv_Pblind, fun U hU hW => sv_Pat C.2.2.2.2.2.1 hH hS U hU hW⟩ rfl (by rw [List.length_map]; exact hn) hll.1 (by simp) (sv_room hrm) hd hcs) hS hll kk
theorem sv_csN (C : sv_C g A own cc nL p s m args meth c) {y : MethodName} {bytes : ByteArray} {n : Nat} {ret : Option FieldType} {fr lo k index : Nat} {host : String} {as : List sv_T} {po' : List sv_T → (Nat → Nat → Int) → Prop} (hd : decode cc pc = .ok (.invokestatic index, 3)) (hM : sv_M l y bytes n ret { frames := fr, cells := 0, slots := 0, locals := lo } g A ty σ as po') (hb : sv_cb R y bytes n ret fr lo k) (hl : Cond.methodLinkNest own index y host ∈ sv_nest) (hi : Cond.static y ∈ lw_good) (hn : as.length = k) (hst : st = as.reverse ++ rest) (hrm : (rest.map fun v => (sv_den v).category).sum ≤ 8) (hcs : cells ≤ R.cells ∧ slots ≤ R.slots)
    (kk : ∀ (r : List sv_T) (σ' : Nat → Nat → Int), po' r σ' → sv_ok ty σ' → sv_V p l e R s m args below meth c nL A cells slots Q (sv_H g ty σ') (pc + 3) lv (r ++ rest)) : sv_V p l e R s m args below meth c nL A cells slots Q (sv_H g ty σ) pc lv st := by
  intro H locs ls hH hS hll
  subst hst
  refine sv_cont (mc0 := 0) (pc0 := 0) (va_runSN (As := as.map sv_den) ⟨C.1, C.2.1, C.2.2.1, C.2.2.2.1, C.2.2.2.2.1⟩ hM ⟨sv_cN C hb hl, C.2.2.2.2.1 _ hi, trivial⟩ ⟨sv_Pblind, fun U hU hW => sv_Pat C.2.2.2.2.2.1 hH hS U hU hW⟩ rfl (by rw [List.length_map]; exact hn) hll.1 (by simp) (sv_room hrm) hd hcs) hS hll kk
/-- the two tables of months -/
theorem sv_tab {i : Int} {f : Nat → Value} {t : Nat} {z : Int} (C : sv_C g A own cc nL p s m args meth c) (hT : va_T .int t 12 f A s s.heap) (hd : decode cc pc = .ok (.iaload, 1)) (h0 : 0 ≤ i) (h1 : i < 12) (hv : f i.toNat = .int (Int32.ofInt z)) {Hp : Heap → Prop}
    (kk : sv_V p l e R s m args below meth c nL A cells slots Q Hp (pc + 1) lv (sv_i z :: rest)) : sv_V p l e R s m args below meth c nL A cells slots Q Hp pc lv (.inl i :: sv_r t :: rest) := by
  intro H locs ls hH hS hl
  obtain ⟨e1, e2⟩ := sv_idx (n := 12) h0 h1 (by decide)
  exact va_ti C.1 C.2.1 hT hS e1 (v := .int (Int32.ofInt z)) (by rw [e2]; exact hv) hd (kk H locs ls hH hS hl)
theorem sv_gs1 (C : sv_C g A own cc nL p s m args meth c) {index : Nat} (hd : decode cc pc = .ok (.getstatic index, 3)) (hw : Cond.fieldLink own index "SaintsRoad$Days" "MONTH_AT_MOST" "[I" ∈ lw_good) {Hp : Heap → Prop}
    (kk : sv_V p l e R s m args below meth c nL A cells slots Q Hp (pc + 3) lv (sv_r g.2.2.1 :: st)) : sv_V p l e R s m args below meth c nL A cells slots Q Hp pc lv st :=
  fun H locs ls hH hS hl => va_gets C.1 C.2.1 C.2.2.2.2.2.1.2.2.1.1 hS C.2.2.2.1 (C.2.2.2.2.1 _ hw) (fun _ h => h) hd (kk H locs ls hH hS hl)
theorem sv_gs2 (C : sv_C g A own cc nL p s m args meth c) {index : Nat} (hd : decode cc pc = .ok (.getstatic index, 3)) (hw : Cond.fieldLink own index "SaintsRoad$Days" "MONTH_START" "[I" ∈ lw_good) {Hp : Heap → Prop}
    (kk : sv_V p l e R s m args below meth c nL A cells slots Q Hp (pc + 3) lv (sv_r g.2.2.2.1 :: st)) : sv_V p l e R s m args below meth c nL A cells slots Q Hp pc lv st :=
  fun H locs ls hH hS hl => va_gets C.1 C.2.1 C.2.2.2.2.2.1.2.2.2.1 hS C.2.2.2.1 (C.2.2.2.2.1 _ hw) (fun _ h => h) hd (kk H locs ls hH hS hl)
end SVC
