/-! THE CLAIM OUT OF ONE WALK OF THE LAW'S BODY. Your part is whole_start (and what it stands on); all else here is the same for every law, but numbers. -/
def R_law : String := "SaintsRoadLaw"
def lw_P (b : Addr) (xs : List Int32) (args : Array Value) (s : State) : Prop := args = #[.ref b] ∧ s.IntsAt b xs ∧ xs.length ≤ 3072 ∧ (Jvm.Cond.and given_1 narrow_1).before args s = true
def lw_Q (_ : Array Value) (s : State) (o : Outcome) (t : State) : Prop := o = .returned (some (.int 1)) ∧ Framed s o t [] 601024 7293033
def lw_Z (below : List Frame) (a : Array Value) (s : State) : State → Prop := fun t => ∃ o, t.status = .running ∧ Ended t below o ∧ lw_Q a s o t
/-- the law's own end, with 1 on the stack, nothing written that was there before, its room as the claim has it -/
theorem lw_ret {p : Program} {l : Launch} {e : Env} {s : State} {m : MethodId} {below : List Frame} {meth : Method} {c : Code} {b : Nat} (hx : p.tables.exec = Jvm.exec) (hb : c.code = code) (hr : meth.sig.returnType = ret) (hlocks : meth.locks = false) {pc : Nat} {H : Heap} {ls : Array Slot} (hdg : decode code pc = .ok (.ireturn, 1)) : W p l e room_1 s m #[Value.ref b] below meth c H [] 601024 7293033 (lw_Z below #[Value.ref b] s) (F0 m pc ls [.int 1]) := by
  intro T hT X
  obtain ⟨fs, hret, hrun, hended, hW, hframe⟩ := X.leave (v := some (.int 1)) (hlocks := hlocks) (fun h => by rw [hr] at h; cases h)
  have hmeth' : T.vm.method? m = some meth := X.method'
  refine ⟨T.setFrames fs, ?_, .returned (some (.int 1)), hrun, hended, rfl, ⟨_, rfl⟩, hW, hframe⟩
  jvm_step X.here [X.here.top, hx, hb, hdg, hmeth', hr, ret, narrow_b1]
  (try refine ⟨rfl, ?_⟩); (try refine ⟨rfl, ?_⟩)
  first | (intro acts; rw [hret _ acts rfl rfl rfl]) | rw [hret _ _ rfl rfl rfl]
  exact Steps.refl _
/-- what holds at the law's entry: the machine, the code, the tables' words (any of lw_tbl by 'hts w (by decide +kernel)'), the script of L ints xs at the cell b, what the Statement gives of the start (any of its parts by flat_of_before) -/
def lw_At (p : Program) (s : State) (m : MethodId) (meth : Method) (c : Code) (b L : Nat) (xs : Nat → Int32) : Prop :=
  p.tables.exec = Jvm.exec ∧ c.code = code ∧ meth.sig.returnType = ret ∧ c.maxLocals = 4 ∧ s.vm.findClass R_law = some m.cls ∧ (∀ w ∈ lw_tbl, w.before #[Value.ref b] s = true) ∧ va_X b L xs s s.heap ∧ b < s.heap.size ∧ meth.locks = false ∧ (Jvm.Cond.and given_1 narrow_1).before #[Value.ref b] s = true
/-! the law's rows -/
section SVCW
variable {p : Program} {l : Launch} {e : Env} {R : Room} {s : State} {m : MethodId} {args : Array Value} {below : List Frame} {meth : Method} {c : Code} {T : State} {locs : List Loc} {cells slots : Nat} {Q : State → Prop}
theorem sv_callVW (X : Stand p l e R s m args below meth c T locs cells slots) (hexec : p.tables.exec = Jvm.exec) {own C : String} {index : Nat} {y : MethodName} {bytes : ByteArray} {maxL : Nat} {ret : Option FieldType} {hh : List (Nat × Nat × Nat × Nat)}
    (hown : s.vm.findClass own = some m.cls) (hlink : (Cond.methodLink own index y).before args s = true) (hinst : (Cond.instanceMethod y).before args s = true) (hsel : (Cond.selects C y y).before args s = true)
    (hcode : (Cond.codeWith y bytes maxL ret hh).before args s = true) (hy : y.cls ≠ "java/lang/invoke/MethodHandle" ∧ y.cls ≠ "java/lang/invoke/VarHandle")
    {W : Nat} {Pre : Pt → Array Value → Prop} {Post : Pt → Array Value → Option Value → Pt → Prop} (hK : Back l R p e below s args y 3 W Pre Post)
    {b : Addr} {cellB : Cell} (hcell : T.heap[b]? = some cellB) (hobj : cellB.vm.isStatics = false) (hcls : s.vm.findClass C = some cellB.cls)
    {g : JFrame} (hg : g.method = m) (hsize : g.locals.size = c.maxLocals) {argsL rest : List Value} (hlen : ∀ sig, parseMethodDescriptor y.desc = some sig → argsL.length = sig.parameters.length)
    (hstack : g.stack = argsL.reverse ++ .ref b :: rest) (hW : 2 * g.monitorRoom + (rest.map fun v => v.category).sum ≤ W) (hdg : decode c.code g.pc = .ok (.invokevirtual index, 3))
    (hpre : ∀ vm₁, s.WarmedH vm₁ → Pre ⟨T.setVm vm₁, locs, cells, slots⟩ (Value.ref b :: argsL).toArray) :
    ∃ (v : Option Value) (vm₁ : Vm) (B : Pt), s.WarmedH vm₁ ∧ Stand p l e R s m args below meth c B.U B.locs B.cells B.slots ∧ Post ⟨T.setVm vm₁, locs, cells, slots⟩ (Value.ref b :: argsL).toArray v B ∧
      ∀ target, Steps p.tables e below (B.U.setTop { g with pc := g.pc + 3, stack := v.toList ++ rest }) target → Steps p.tables e below (T.setTop g) target := by
  obtain ⟨mk, methM, hnamed, hmethM, hstM, habM⟩ := Cond.instanceMethod_spec hinst
  obtain ⟨m9, methM', cM, hn9, hmethM', -, -, -, -, -, -, hsigM⟩ := Cond.codeWith_spec hcode
  cases hnamed.symm.trans hn9
  cases hmethM.symm.trans hmethM'
  obtain ⟨c2, r2, m2, q1, q2, q3, q4, kP, hkP, hkPi⟩ := Cond.selects_spec hsel
  cases hcls.symm.trans q1
  cases (State.methodFound?_of_named hnamed hy).symm.trans q2
  cases hnamed.symm.trans q3
  have hselP : selectMethod e.platform s.vm cellB.cls mk = .method mk := by rw [Launch.admits_selectMethod X.admits]; exact q4
  obtain ⟨vm₁, X₁, hstep₁⟩ := X.invokevirtual hexec hown hlink hnamed hmethM hstM hkP hkPi hy (a := b) (cell := cellB) hcell
    (fun z h => by rw [h] at hobj; cases hobj) hselP hmethM habM hkP hkPi (g := g) hg (argsL := argsL) (rest := rest) (hlen _ hsigM) hstack hdg
  obtain ⟨v, B, X', hpost, hsteps⟩ := hK m meth c ⟨T.setVm vm₁, locs, cells, slots⟩ { g with stack := rest } (.invokevirtual index) mk (Value.ref b :: argsL).toArray X₁ hg hsize hdg hW (X₁.named hnamed) (hpre vm₁ X₁.warmed)
  exact ⟨v, vm₁, B, X₁.warmed, X', hpost, fun target h => hstep₁ _ fun acts => by rw [doInvoke_state]; exact hsteps.trans h⟩
variable {cc : ByteArray} {pc nL : Nat} {A : Nat → Prop} {lv lv' : sv_L} {st st' rest : List sv_T} {g : sv_G} {own : String} {ty : Nat → Nat} {σ : Nat → Nat → Int}
theorem sv_cvW (C : sv_C g A own cc nL p s m args meth c) {y : MethodName} {bytes : ByteArray} {n : Nat} {ret : Option FieldType} {hh : List (Nat × Nat × Nat × Nat)} {fr lo k index a ci : Nat} {r : vw_C} {as : List sv_T} {po' : List sv_T → (Nat → Nat → Int) → Prop} (hd : decode cc pc = .ok (.invokevirtual index, 3)) (hM : sv_MW l y bytes n ret hh { frames := fr, cells := 0, slots := 0, locals := lo } g A ty σ (sv_r a :: as) po')
    (hco : Cond.codeWith y bytes n ret hh ∈ lw_good) (hini : Cond.initialized y.cls ∈ lw_good) (hnm : y.cls ≠ "java/lang/invoke/MethodHandle" ∧ y.cls ≠ "java/lang/invoke/VarHandle" ∧ (parseMethodDescriptor y.desc).map (fun d => d.parameters.length) = some k) (hfr : fr + 1 ≤ R.frames) (hlo : 8 + (n + 11) + lo ≤ R.locals)
    (hl : Cond.methodLink own index y ∈ lw_good) (hi : Cond.instanceMethod y ∈ lw_good) (hs : Cond.selects r.1 y y ∈ lw_good) (hk : sv_kT (ty a) = some (.inl ci)) (hr : vwCl[ci]? = some r) (hn : as.length = k) (hst : st = as.reverse ++ sv_r a :: rest) (hrm : (rest.map fun v => (sv_den v).category).sum ≤ 8) (hcs : cells ≤ R.cells ∧ slots ≤ R.slots)
    (kk : ∀ (r : List sv_T) (σ' : Nat → Nat → Int), po' r σ' → sv_ok ty σ' → sv_V p l e R s m args below meth c nL A cells slots Q (sv_H g ty σ') (pc + 3) lv (r ++ rest)) : sv_V p l e R s m args below meth c nL A cells slots Q (sv_H g ty σ) pc lv st := by
  intro H locs ls hH hS hll
  subst hst
  have hts := C.2.2.2.2.1
  refine sv_cont (mc0 := 0) (pc0 := 0) (po' := po') (av := (Value.ref a :: as.map sv_den).toArray) ?_ hS hll kk
  have hK : Back l R p e below s args y 3 8 (PreOf R 0 0 (sv_P g A ty σ (sv_r a :: as))) (PostOf (sv_Q g A ty po') 0 0 A) :=
    va_backW (hh := hh) (bytes := bytes) (maxL := n) (ret := ret) hM sv_Pblind rfl rfl hfr hlo (pay_in hts (sv_goodIn hco)) List.mem_cons_self (fun a' U hW => word_at hW (Or.inl (by first | rfl | simp [Cond.onTables, Cond.keeps, Cond.steady])) (hts _ hini))
  obtain ⟨cellB, hcB, hoB, hclB⟩ := sv_rcv C hH hk hr
  intro T hT X
  obtain ⟨v, vm₁, ⟨U', l2, c2, s2⟩, hW₁, X', ⟨g', mk, t, L, e1, e2, hq, h1, hL, h2, h3⟩, stp⟩ := sv_callVW X C.1 (C := r.1) (bytes := bytes) (maxL := n) (ret := ret) (hh := hh) C.2.2.2.1 (hts _ hl) (hts _ hi) (hts _ hs) (hts _ hco) ⟨hnm.1, hnm.2.1⟩ hK (by rw [hT]; exact hcB) hoB hclB (g := F0 m pc ls ((as.reverse ++ sv_r a :: rest).map sv_den)) rfl (hll.1.trans C.2.2.1.symm) (argsL := as.map sv_den) (rest := rest.map sv_den)
    (fun sig h => by rw [List.length_map, hn]; have h2 := hnm.2.2; rw [h] at h2; exact (Option.some.inj h2).symm) (by simp [sv_den_r]) (sv_room hrm) (by rw [C.2.1]; exact hd)
    (fun vm₁ hW₁ => ⟨hcs.1, hcs.2, sv_Pat (av := sv_r a :: as) C.2.2.2.2.2.1 hH hS (T.setVm vm₁) hT hW₁⟩)
  dsimp only [Pt.U, Pt.locs, Pt.cells, Pt.slots] at X' e1 e2 h1 h2 h3 stp
  subst h1; subst h2; subst h3
  exact ⟨v, (T.setVm vm₁).calling g' mk (Value.ref a :: as.map sv_den).toArray, t, U', L, hT, X', hL, e1, e2, hq, stp⟩
end SVCW
section LZR
variable {p : Program} {l : Launch} {e : Env} {R : Room} {s : State} {m : MethodId} {args : Array Value} {below : List Frame} {meth : Method} {c : Code} {cells slots : Nat} {Q : State → Prop}
variable {cc : ByteArray} {pc nL : Nat} {Hp : Heap → Prop} {A : Nat → Prop} {lv lv' : sv_L} {st st' rest : List sv_T} {g : sv_G} {own : String} {b L : Nat} {xs : Nat → Int32}
theorem sv_sld (C : sv_C g A own cc nL p s m args meth c) (hX : va_X b L xs s s.heap) (hbl : b < s.heap.size) (hbA : ¬ A b) (hL : L < 1000000) {i : Int} {j : Nat} (hd : decode cc pc = .ok (.iaload, 1)) (hi : i = (j : Int)) (hj : j < L)
    (kk : sv_V p l e R s m args below meth c nL A cells slots Q Hp (pc + 1) lv (sv_i (xs j).toInt :: rest)) : sv_V p l e R s m args below meth c nL A cells slots Q Hp pc lv (.inl i :: sv_r b :: rest) := by
  intro H locs ls hH hS hl
  subst hi
  obtain ⟨e1, e2⟩ := sv_idx (i := (j : Int)) (n := L) (by omega) (by omega) (by omega)
  refine va_sld C.1 C.2.1 hX hbl hbA hS e1 hd ?_
  rw [e2, Int.toNat_natCast, ← sv_io (xs j)]
  exact kk H locs ls hH hS hl
theorem sv_sln (C : sv_C g A own cc nL p s m args meth c) (hX : va_X b L xs s s.heap) (hbl : b < s.heap.size) (hbA : ¬ A b) (hd : decode cc pc = .ok (.arraylength, 1))
    (kk : sv_V p l e R s m args below meth c nL A cells slots Q Hp (pc + 1) lv (sv_i (L : Int) :: rest)) : sv_V p l e R s m args below meth c nL A cells slots Q Hp pc lv (sv_r b :: rest) := by
  intro H locs ls hH hS hl
  exact va_slen C.1 C.2.1 hX hbl hbA hS hd (kk H locs ls hH hS hl)
theorem sv_icS (hx : p.tables.exec = Jvm.exec) (hb : c.code = cc) {off : Int} {tgt : Nat} {z : Int} (hd : decode cc pc = .ok (.if_icmp .eq off, 3)) (ht : (pc : Int) + off = (tgt : Int))
    (kk : sv_V p l e R s m args below meth c nL A cells slots Q Hp tgt lv rest) : sv_V p l e R s m args below meth c nL A cells slots Q Hp pc lv (.inl z :: .inl z :: rest) :=
  fun H locs ls hH hS hl => lv_icmp_eq hx hb hd ht (fun _ => kk H locs ls hH hS hl) (fun h => absurd rfl h)
end LZR
abbrev lz_V (p : Program) (l : Launch) (e : Env) (s : State) (m : MethodId) (below : List Frame) (meth : Method) (c : Code) (b : Nat) (A : Nat → Prop) (cells slots : Nat) (Hp : Heap → Prop) (pc : Nat) (lv : sv_L) (st : List sv_T) : Prop :=
  sv_V p l e room_1 s m #[Value.ref b] below meth c 4 A cells slots (lw_Z below #[Value.ref b] s) Hp pc lv st
/-- what stands at the law's loop -/
def lz_K (p : Program) (s : State) (m : MethodId) (meth : Method) (c : Code) (g : sv_G) (A : Nat → Prop) (b L : Nat) (xs : Nat → Int32) : Prop :=
  sv_C g A R_law code 4 p s m #[Value.ref b] meth c ∧ va_X b L xs s s.heap ∧ b < s.heap.size ∧ ¬ A b ∧ (∀ q, A q → s.heap.size ≤ q) ∧ meth.sig.returnType = ret
def lz_S (A : Nat → Prop) (ty : Nat → Nat) (σ : Nat → Nat → Int) (x mm : Nat) : Prop := sv_ok ty σ ∧ (∀ q, ty q ≠ 0 → A q) ∧ sv_inv sp_1 ty σ ∧ ty x = 1 ∧ ty mm = 10 ∧ lz_R ty σ x mm
theorem lz_init {ty : Nat → Nat} {σ : Nat → Nat → Int} {x mm : Nat} (hx : ty x = 1) (hm : ty mm = 10) (hI : sv_inv sp_1 ty σ) (hZ : sv_inv sp_0 ty σ) : lz_R ty σ x mm := by
  intro tq mq sq e1 e2 e3
  obtain ⟨⟨-, -⟩, ⟨-, k2⟩, -, k3⟩ := lz_kept hx hm hI (sv_ofx.rf (W := []) (L := [])) (by decide) (by decide) e1 e2 e3
  have h2 : ∀ j, σ mq j = 0 := fun j => by have := hZ.num (k := j) k2 rfl; omega
  have h3 : ∀ j, σ sq j = 0 := fun j => by have := hZ.num (k := j) k3 rfl; omega
  refine ⟨fun i hi => by rw [h2]; omega, fun i j hi hj hn => ?_⟩
  rw [h2, h3, h3]
  have this : fq_bit 0 (j : Int) = (((0 >>> j) % 2 : Nat) : Int) := fq_k2 0 (by decide) j hj
  have hz : ∀ j : Nat, j < 10 → (((0 >>> j) % 2 : Nat) : Int) = 0 := by decide +kernel
  rw [this, hz j hj]
  exact ⟨rfl, rfl⟩
theorem lz_out {p : Program} {l : Launch} {e : Env} {s : State} {m : MethodId} {below : List Frame} {meth : Method} {c : Code} {g : sv_G} {A : Nat → Prop} {b L : Nat} {xs : Nat → Int32} {cells slots : Nat} {Hp : Heap → Prop} {lv : sv_L} (T : lz_K p s m meth c g A b L xs) (hc : cells ≤ 601024) (hs : slots ≤ 7293033) : lz_V p l e s m below meth c b A cells slots Hp 1199 lv [] := by
  obtain ⟨C, hX, hbl, hbA, hAs, hr⟩ := T
  refine sv_go C.1 C.2.1 [(.iconst 1, 1)] (pc' := 1200) (by decide +kernel) rfl (lv' := lv) (st' := [sv_i 1]) rfl ?_
  intro H locs ls hH hS hl
  refine W.widen hc hs (va_forget (fun q hq => hAs _ (hS.2.2 q hq)) ?_)
  exact lw_ret C.1 C.2.1 hr C.2.2.2.2.2.2 (by decide +kernel)
