/-! a method with an exception table, on a road where none of it is taken -/
def sv_MW (l : Launch) (y : MethodName) (cc : ByteArray) (n : Nat) (ret : Option FieldType) (hh : List (Nat × Nat × Nat × Nat)) (rm : Room) (g : sv_G) (A : Nat → Prop) (ty : Nat → Nat) (σ : Nat → Nat → Int) (av : List sv_T) (po : List sv_T → (Nat → Nat → Int) → Prop) : Prop :=
  Met l y (Cond.codeWith y cc n ret hh :: lw_good) rm (sv_P g A ty σ av) (sv_Q g A ty po) 0 0 A
theorem sv_enterW {l : Launch} {y : MethodName} {cc : ByteArray} {n : Nat} {ret : Option FieldType} {hh : List (Nat × Nat × Nat × Nat)} {fr lo : Nat} {g : sv_G} {A : Nat → Prop} {ty : Nat → Nat} {σ : Nat → Nat → Int} {av : List sv_T} {po : List sv_T → (Nat → Nat → Int) → Prop} (hy : plainName y.cls = true) (hn : (lg_sl (av.map sv_den)).length ≤ n)
    (body : ∀ p e s m args below meth c, sv_C g A y.cls cc n p s m args meth c → meth.sig.returnType = ret → sv_E p l e { frames := fr, cells := 0, slots := 0, locals := lo } s m args below meth c n g A ty po σ 0 (sv_av 0 av) []) : sv_MW l y cc n ret hh { frames := fr, cells := 0, slots := 0, locals := lo } g A ty σ av po := by
  refine va_MetW (cc := cc) (maxL := n) (ret := ret) (hh := hh) hy rfl ?_
  intro p e s m args below meth c s₁ B hml hv
  obtain ⟨rfl, hH, hK⟩ := hv
  have hts := atoms_spec (ws := Cond.codeWith y cc n ret hh :: lw_good) B.pre
  have hown : s.vm.findClass y.cls = some m.cls := findClass_of_methodNamed B.named
  have hl := lv_entry (av.map sv_den) (n := n) hn
  rw [lg_entry_eq]
  rw [sv_av_eq] at hl
  exact body p e s m _ below meth c ⟨B.exec, B.bytes, hml, hown, fun w hw => hts w (List.mem_cons_of_mem _ hw), hK, B.notSynchronized⟩ B.returns s.heap [] _ hH va_S.rf hl
section SVCW
variable {p : Program} {l : Launch} {e : Env} {R : Room} {s : State} {m : MethodId} {args : Array Value} {below : List Frame} {meth : Method} {c : Code} {T : State} {locs : List Loc} {cells slots : Nat} {Q : State → Prop}
theorem sv_callVW (X : Stand p l e R s m args below meth c T locs cells slots) (hexec : p.tables.exec = Jvm.exec) {own C : String} {index : Nat} {y : MethodName} {bytes : ByteArray} {maxL : Nat} {ret : Option FieldType} {hh : List (Nat × Nat × Nat × Nat)}
    (hown : s.vm.findClass own = some m.cls) (hlink : (Cond.methodLink own index y).before args s = true) (hinst : (Cond.instanceMethod y).before args s = true) (hsel : (Cond.selects C y y).before args s = true)
    (hcode : (Cond.codeWith y bytes maxL ret hh).before args s = true) (hy : y.cls ≠ "java/lang/invoke/MethodHandle" ∧ y.cls ≠ "java/lang/invoke/VarHandle")
    {W : Nat} {Pre : Pt → Array Value → Prop} {Post : Pt → Array Value → Option Value → Pt → Prop} (hK : Back l R p e below s args y 3 W Pre Post)
    {b : Addr} {cellB : Cell} (hcell : T.heap[b]? = some cellB) (hobj : cellB.vm.isStatics = false) (hcls : s.vm.findClass C = some cellB.cls)
    {g : JFrame} (hg : g.method = m) (hsize : g.locals.size = c.maxLocals) {argsL rest : List Value} (hlen : ∀ sig, parseMethodDescriptor y.desc = some sig → argsL.length = sig.parameters.length)
    (hstack : g.stack = argsL.reverse ++ .ref b :: rest) (hW : 2 * g.monitorRoom + (rest.map fun v => v.category).sum ≤ W) (hdg : decode c.code g.pc = .ok (.invokevirtual index, 3))
    (hpre : ∀ vm₁, s.WarmedH vm₁ → Pre ⟨T.setVm vm₁, locs, cells, slots⟩ (Value.ref b :: argsL).toArray) :
    ∃ (v : Option Value) (vm₁ : Vm) (B : Pt), s.WarmedH vm₁ ∧ Stand p l e R s m args below meth c B.U B.locs B.cells B.slots ∧ Post ⟨T.setVm vm₁, locs, cells, slots⟩ (Value.ref b :: argsL).toArray v B ∧
      ∀ target, Steps p.tables e below (B.U.setTop { g with pc := g.pc + 3, stack := v.toList ++ rest }) target → Steps p.tables e below (T.setTop g) target := by
  obtain ⟨mk, methM, hnamed, hmethM, hstM, habM⟩ := Cond.instanceMethod_spec hinst
  obtain ⟨m9, methM', cM, hn9, hmethM', -, -, -, -, -, -, hsigM⟩ := Cond.codeWith_spec hcode
  cases hnamed.symm.trans hn9
  cases hmethM.symm.trans hmethM'
  obtain ⟨c2, r2, m2, q1, q2, q3, q4, kP, hkP, hkPi⟩ := Cond.selects_spec hsel
  cases hcls.symm.trans q1
  cases (State.methodFound?_of_named hnamed hy).symm.trans q2
  cases hnamed.symm.trans q3
  have hselP : selectMethod e.platform s.vm cellB.cls mk = .method mk := by rw [Launch.admits_selectMethod X.admits]; exact q4
  obtain ⟨vm₁, X₁, hstep₁⟩ := X.invokevirtual hexec hown hlink hnamed hmethM hstM hkP hkPi hy (a := b) (cell := cellB) hcell
    (fun z h => by rw [h] at hobj; cases hobj) hselP hmethM habM hkP hkPi (g := g) hg (argsL := argsL) (rest := rest) (hlen _ hsigM) hstack hdg
  obtain ⟨v, B, X', hpost, hsteps⟩ := hK m meth c ⟨T.setVm vm₁, locs, cells, slots⟩ { g with stack := rest } (.invokevirtual index) mk (Value.ref b :: argsL).toArray X₁ hg hsize hdg hW (X₁.named hnamed) (hpre vm₁ X₁.warmed)
  exact ⟨v, vm₁, B, X₁.warmed, X', hpost, fun target h => hstep₁ _ fun acts => by rw [doInvoke_state]; exact hsteps.trans h⟩
variable {cc : ByteArray} {pc nL : Nat} {A : Nat → Prop} {lv lv' : sv_L} {st st' rest : List sv_T} {g : sv_G} {own : String} {ty : Nat → Nat} {σ : Nat → Nat → Int}
theorem sv_cvW (C : sv_C g A own cc nL p s m args meth c) {y : MethodName} {bytes : ByteArray} {n : Nat} {ret : Option FieldType} {hh : List (Nat × Nat × Nat × Nat)} {fr lo k index a ci : Nat} {r : vw_C} {as : List sv_T} {po' : List sv_T → (Nat → Nat → Int) → Prop} (hd : decode cc pc = .ok (.invokevirtual index, 3)) (hM : sv_MW l y bytes n ret hh { frames := fr, cells := 0, slots := 0, locals := lo } g A ty σ (sv_r a :: as) po')
    (hco : Cond.codeWith y bytes n ret hh ∈ lw_good) (hini : Cond.initialized y.cls ∈ lw_good) (hnm : y.cls ≠ "java/lang/invoke/MethodHandle" ∧ y.cls ≠ "java/lang/invoke/VarHandle" ∧ (parseMethodDescriptor y.desc).map (fun d => d.parameters.length) = some k) (hfr : fr + 1 ≤ R.frames) (hlo : 8 + (n + 11) + lo ≤ R.locals)
    (hl : Cond.methodLink own index y ∈ lw_good) (hi : Cond.instanceMethod y ∈ lw_good) (hs : Cond.selects r.1 y y ∈ lw_good) (hk : sv_kT (ty a) = some (.inl ci)) (hr : vwCl[ci]? = some r) (hn : as.length = k) (hst : st = as.reverse ++ sv_r a :: rest) (hrm : (rest.map fun v => (sv_den v).category).sum ≤ 8) (hcs : cells ≤ R.cells ∧ slots ≤ R.slots)
    (kk : ∀ (r : List sv_T) (σ' : Nat → Nat → Int), po' r σ' → sv_ok ty σ' → sv_V p l e R s m args below meth c nL A cells slots Q (sv_H g ty σ') (pc + 3) lv (r ++ rest)) : sv_V p l e R s m args below meth c nL A cells slots Q (sv_H g ty σ) pc lv st := by
  intro H locs ls hH hS hll
  subst hst
  have hts := C.2.2.2.2.1
  refine sv_cont (mc0 := 0) (pc0 := 0) (po' := po') (av := (Value.ref a :: as.map sv_den).toArray) ?_ hS hll kk
  have hK : Back l R p e below s args y 3 8 (PreOf R 0 0 (sv_P g A ty σ (sv_r a :: as))) (PostOf (sv_Q g A ty po') 0 0 A) :=
    va_backW (hh := hh) (bytes := bytes) (maxL := n) (ret := ret) hM sv_Pblind rfl rfl hfr hlo (pay_in hts (sv_goodIn hco)) List.mem_cons_self (fun a' U hW => word_at hW (Or.inl (by first | rfl | simp [Cond.onTables, Cond.keeps, Cond.steady])) (hts _ hini))
  obtain ⟨cellB, hcB, hoB, hclB⟩ := sv_rcv C hH hk hr
  intro T hT X
  obtain ⟨v, vm₁, ⟨U', l2, c2, s2⟩, hW₁, X', ⟨g', mk, t, L, e1, e2, hq, h1, hL, h2, h3⟩, stp⟩ := sv_callVW X C.1 (C := r.1) (bytes := bytes) (maxL := n) (ret := ret) (hh := hh) C.2.2.2.1 (hts _ hl) (hts _ hi) (hts _ hs) (hts _ hco) ⟨hnm.1, hnm.2.1⟩ hK (by rw [hT]; exact hcB) hoB hclB (g := F0 m pc ls ((as.reverse ++ sv_r a :: rest).map sv_den)) rfl (hll.1.trans C.2.2.1.symm) (argsL := as.map sv_den) (rest := rest.map sv_den)
    (fun sig h => by rw [List.length_map, hn]; have h2 := hnm.2.2; rw [h] at h2; exact (Option.some.inj h2).symm) (by simp [sv_den_r]) (sv_room hrm) (by rw [C.2.1]; exact hd)
    (fun vm₁ hW₁ => ⟨hcs.1, hcs.2, sv_Pat (av := sv_r a :: as) C.2.2.2.2.2.1 hH hS (T.setVm vm₁) hT hW₁⟩)
  dsimp only [Pt.U, Pt.locs, Pt.cells, Pt.slots] at X' e1 e2 h1 h2 h3 stp
  subst h1; subst h2; subst h3
  exact ⟨v, (T.setVm vm₁).calling g' mk (Value.ref a :: as.map sv_den).toArray, t, U', L, hT, X', hL, e1, e2, hq, stp⟩
end SVCW
