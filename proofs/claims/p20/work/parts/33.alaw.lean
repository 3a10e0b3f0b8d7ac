/-! THE CLAIM OUT OF ONE WALK OF THE LAW'S BODY. Your part is whole_start (and what it stands on); all else here is the same for every law, but numbers. -/
def R_law : String := "SaintsRoadLaw"
def lw_P (b : Addr) (xs : List Int32) (args : Array Value) (s : State) : Prop := args = #[.ref b] ∧ s.IntsAt b xs ∧ xs.length ≤ 3072 ∧ (Jvm.Cond.and given_1 narrow_1).before args s = true
def lw_Q (_ : Array Value) (s : State) (o : Outcome) (t : State) : Prop := o = .returned (some (.int 1)) ∧ Framed s o t [] 601024 7293033
def lw_Z (below : List Frame) (a : Array Value) (s : State) : State → Prop := fun t => ∃ o, t.status = .running ∧ Ended t below o ∧ lw_Q a s o t
/-- the law's own end, with 1 on the stack, nothing written that was there before, its room as the claim has it -/
theorem lw_ret {p : Program} {l : Launch} {e : Env} {s : State} {m : MethodId} {below : List Frame} {meth : Method} {c : Code} {b : Nat} (hx : p.tables.exec = Jvm.exec) (hb : c.code = code) (hr : meth.sig.returnType = ret) (hlocks : meth.locks = false) {pc : Nat} {H : Heap} {ls : Array Slot} (hdg : decode code pc = .ok (.ireturn, 1)) : W p l e room_1 s m #[Value.ref b] below meth c H [] 601024 7293033 (lw_Z below #[Value.ref b] s) (F0 m pc ls [.int 1]) := by
  intro T hT X
  obtain ⟨fs, hret, hrun, hended, hW, hframe⟩ := X.leave (v := some (.int 1)) (hlocks := hlocks) (fun h => by rw [hr] at h; cases h)
  have hmeth' : T.vm.method? m = some meth := X.method'
  refine ⟨T.setFrames fs, ?_, .returned (some (.int 1)), hrun, hended, rfl, ⟨_, rfl⟩, hW, hframe⟩
  jvm_step X.here [X.here.top, hx, hb, hdg, hmeth', hr, ret, narrow_b1]
  (try refine ⟨rfl, ?_⟩); (try refine ⟨rfl, ?_⟩)
  first | (intro acts; rw [hret _ acts rfl rfl rfl]) | rw [hret _ _ rfl rfl rfl]
  exact Steps.refl _
/-- what holds at the law's entry: the machine, the code, the tables' words (any of lw_tbl by 'hts w (by decide +kernel)'), the script of L ints xs at the cell b, what the Statement gives of the start (any of its parts by flat_of_before) -/
def lw_At (p : Program) (s : State) (m : MethodId) (meth : Method) (c : Code) (b L : Nat) (xs : Nat → Int32) : Prop :=
  p.tables.exec = Jvm.exec ∧ c.code = code ∧ meth.sig.returnType = ret ∧ c.maxLocals = 4 ∧ s.vm.findClass R_law = some m.cls ∧ (∀ w ∈ lw_tbl, w.before #[Value.ref b] s = true) ∧ va_X b L xs s s.heap ∧ b < s.heap.size ∧ meth.locks = false ∧ (Jvm.Cond.and given_1 narrow_1).before #[Value.ref b] s = true
/-! the law's rows -/
section SVCW
variable {p : Program} {l : Launch} {e : Env} {R : Room} {s : State} {m : MethodId} {args : Array Value} {below : List Frame} {meth : Method} {c : Code} {T : State} {locs : List Loc} {cells slots : Nat} {Q : State → Prop}
theorem sv_callVW (X : Stand p l e R s m args below meth c T locs cells slots) (hexec : p.tables.exec = Jvm.exec) {own C : String} {index : Nat} {y : MethodName} {bytes : ByteArray} {maxL : Nat} {ret : Option FieldType} {hh : List (Nat × Nat × Nat × Nat)}
    (hown : s.vm.findClass own = some m.cls) (hlink : (Cond.methodLink own index y).before args s = true) (hinst : (Cond.instanceMethod y).before args s = true) (hsel : (Cond.selects C y y).before args s = true)
    (hcode : (Cond.codeWith y bytes maxL ret hh).before args s = true) (hy : y.cls ≠ "java/lang/invoke/MethodHandle" ∧ y.cls ≠ "java/lang/invoke/VarHandle")
    {W : Nat} {Pre : Pt → Array Value → Prop} {Post : Pt → Array Value → Option Value → Pt → Prop} (hK : Back l R p e below s args y 3 W Pre Post)
    {b : Addr} {cellB : Cell} (hcell : T.heap[b]? = some cellB) (hobj : cellB.vm.isStatics = false) (hcls : s.vm.findClass C = some cellB.cls)
    {g : JFrame} (hg : g.method = m) (hsize : g.locals.size = c.maxLocals) {argsL rest : List Value} (hlen : ∀ sig, parseMethodDescriptor y.desc = some sig → argsL.length = sig.parameters.length)
    (hstack : g.stack = argsL.reverse ++ .ref b :: rest) (hW : 2 * g.monitorRoom + (rest.map fun v => v.category).sum ≤ W) (hdg : decode c.code g.pc = .ok (.invokevirtual index, 3))
    (hpre : ∀ vm₁, s.WarmedH vm₁ → Pre ⟨T.setVm vm₁, locs, cells, slots⟩ (Value.ref b :: argsL).toArray) :
    ∃ (v : Option Value) (vm₁ : Vm) (B : Pt), s.WarmedH vm₁ ∧ Stand p l e R s m args below meth c B.U B.locs B.cells B.slots ∧ Post ⟨T.setVm vm₁, locs, cells, slots⟩ (Value.ref b :: argsL).toArray v B ∧
      ∀ target, Steps p.tables e below (B.U.setTop { g with pc := g.pc + 3, stack := v.toList ++ rest }) target → Steps p.tables e below (T.setTop g) target := by
  obtain ⟨mk, methM, hnamed, hmethM, hstM, habM⟩ := Cond.instanceMethod_spec hinst
  obtain ⟨m9, methM', cM, hn9, hmethM', -, -, -, -, -, -, hsigM⟩ := Cond.codeWith_spec hcode
  cases hnamed.symm.trans hn9
  cases hmethM.symm.trans hmethM'
  obtain ⟨c2, r2, m2, q1, q2, q3, q4, kP, hkP, hkPi⟩ := Cond.selects_spec hsel
  cases hcls.symm.trans q1
  cases (State.methodFound?_of_named hnamed hy).symm.trans q2
  cases hnamed.symm.trans q3
  have hselP : selectMethod e.platform s.vm cellB.cls mk = .method mk := by rw [Launch.admits_selectMethod X.admits]; exact q4
  obtain ⟨vm₁, X₁, hstep₁⟩ := X.invokevirtual hexec hown hlink hnamed hmethM hstM hkP hkPi hy (a := b) (cell := cellB) hcell
    (fun z h => by rw [h] at hobj; cases hobj) hselP hmethM habM hkP hkPi (g := g) hg (argsL := argsL) (rest := rest) (hlen _ hsigM) hstack hdg
  obtain ⟨v, B, X', hpost, hsteps⟩ := hK m meth c ⟨T.setVm vm₁, locs, cells, slots⟩ { g with stack := rest } (.invokevirtual index) mk (Value.ref b :: argsL).toArray X₁ hg hsize hdg hW (X₁.named hnamed) (hpre vm₁ X₁.warmed)
  exact ⟨v, vm₁, B, X₁.warmed, X', hpost, fun target h => hstep₁ _ fun acts => by rw [doInvoke_state]; exact hsteps.trans h⟩
variable {cc : ByteArray} {pc nL : Nat} {A : Nat → Prop} {lv lv' : sv_L} {st st' rest : List sv_T} {g : sv_G} {own : String} {ty : Nat → Nat} {σ : Nat → Nat → Int}
theorem sv_cvW (C : sv_C g A own cc nL p s m args meth c) {y : MethodName} {bytes : ByteArray} {n : Nat} {ret : Option FieldType} {hh : List (Nat × Nat × Nat × Nat)} {fr lo k index a ci : Nat} {r : vw_C} {as : List sv_T} {po' : List sv_T → (Nat → Nat → Int) → Prop} (hd : decode cc pc = .ok (.invokevirtual index, 3)) (hM : sv_MW l y bytes n ret hh { frames := fr, cells := 0, slots := 0, locals := lo } g A ty σ (sv_r a :: as) po')
    (hco : Cond.codeWith y bytes n ret hh ∈ lw_good) (hini : Cond.initialized y.cls ∈ lw_good) (hnm : y.cls ≠ "java/lang/invoke/MethodHandle" ∧ y.cls ≠ "java/lang/invoke/VarHandle" ∧ (parseMethodDescriptor y.desc).map (fun d => d.parameters.length) = some k) (hfr : fr + 1 ≤ R.frames) (hlo : 8 + (n + 11) + lo ≤ R.locals)
    (hl : Cond.methodLink own index y ∈ lw_good) (hi : Cond.instanceMethod y ∈ lw_good) (hs : Cond.selects r.1 y y ∈ lw_good) (hk : sv_kT (ty a) = some (.inl ci)) (hr : vwCl[ci]? = some r) (hn : as.length = k) (hst : st = as.reverse ++ sv_r a :: rest) (hrm : (rest.map fun v => (sv_den v).category).sum ≤ 8) (hcs : cells ≤ R.cells ∧ slots ≤ R.slots)
    (kk : ∀ (r : List sv_T) (σ' : Nat → Nat → Int), po' r σ' → sv_ok ty σ' → sv_V p l e R s m args below meth c nL A cells slots Q (sv_H g ty σ') (pc + 3) lv (r ++ rest)) : sv_V p l e R s m args below meth c nL A cells slots Q (sv_H g ty σ) pc lv st := by
  intro H locs ls hH hS hll
  subst hst
  have hts := C.2.2.2.2.1
  refine sv_cont (mc0 := 0) (pc0 := 0) (po' := po') (av := (Value.ref a :: as.map sv_den).toArray) ?_ hS hll kk
  have hK : Back l R p e below s args y 3 8 (PreOf R 0 0 (sv_P g A ty σ (sv_r a :: as))) (PostOf (sv_Q g A ty po') 0 0 A) :=
    va_backW (hh := hh) (bytes := bytes) (maxL := n) (ret := ret) hM sv_Pblind rfl rfl hfr hlo (pay_in hts (sv_goodIn hco)) List.mem_cons_self (fun a' U hW => word_at hW (Or.inl (by first | rfl | simp [Cond.onTables, Cond.keeps, Cond.steady])) (hts _ hini))
  obtain ⟨cellB, hcB, hoB, hclB⟩ := sv_rcv C hH hk hr
  intro T hT X
  obtain ⟨v, vm₁, ⟨U', l2, c2, s2⟩, hW₁, X', ⟨g', mk, t, L, e1, e2, hq, h1, hL, h2, h3⟩, stp⟩ := sv_callVW X C.1 (C := r.1) (bytes := bytes) (maxL := n) (ret := ret) (hh := hh) C.2.2.2.1 (hts _ hl) (hts _ hi) (hts _ hs) (hts _ hco) ⟨hnm.1, hnm.2.1⟩ hK (by rw [hT]; exact hcB) hoB hclB (g := F0 m pc ls ((as.reverse ++ sv_r a :: rest).map sv_den)) rfl (hll.1.trans C.2.2.1.symm) (argsL := as.map sv_den) (rest := rest.map sv_den)
    (fun sig h => by rw [List.length_map, hn]; have h2 := hnm.2.2; rw [h] at h2; exact (Option.some.inj h2).symm) (by simp [sv_den_r]) (sv_room hrm) (by rw [C.2.1]; exact hd)
    (fun vm₁ hW₁ => ⟨hcs.1, hcs.2, sv_Pat (av := sv_r a :: as) C.2.2.2.2.2.1 hH hS (T.setVm vm₁) hT hW₁⟩)
  dsimp only [Pt.U, Pt.locs, Pt.cells, Pt.slots] at X' e1 e2 h1 h2 h3 stp
  subst h1; subst h2; subst h3
  exact ⟨v, (T.setVm vm₁).calling g' mk (Value.ref a :: as.map sv_den).toArray, t, U', L, hT, X', hL, e1, e2, hq, stp⟩
end SVCW
section LZR
variable {p : Program} {l : Launch} {e : Env} {R : Room} {s : State} {m : MethodId} {args : Array Value} {below : List Frame} {meth : Method} {c : Code} {cells slots : Nat} {Q : State → Prop}
variable {cc : ByteArray} {pc nL : Nat} {Hp : Heap → Prop} {A : Nat → Prop} {lv lv' : sv_L} {st st' rest : List sv_T} {g : sv_G} {own : String} {b L : Nat} {xs : Nat → Int32}
theorem sv_sld (C : sv_C g A own cc nL p s m args meth c) (hX : va_X b L xs s s.heap) (hbl : b < s.heap.size) (hbA : ¬ A b) (hL : L < 1000000) {i : Int} {j : Nat} (hd : decode cc pc = .ok (.iaload, 1)) (hi : i = (j : Int)) (hj : j < L)
    (kk : sv_V p l e R s m args below meth c nL A cells slots Q Hp (pc + 1) lv (sv_i (xs j).toInt :: rest)) : sv_V p l e R s m args below meth c nL A cells slots Q Hp pc lv (.inl i :: sv_r b :: rest) := by
  intro H locs ls hH hS hl
  subst hi
  obtain ⟨e1, e2⟩ := sv_idx (i := (j : Int)) (n := L) (by omega) (by omega) (by omega)
  refine va_sld C.1 C.2.1 hX hbl hbA hS e1 hd ?_
  rw [e2, Int.toNat_natCast, ← sv_io (xs j)]
  exact kk H locs ls hH hS hl
theorem sv_sln (C : sv_C g A own cc nL p s m args meth c) (hX : va_X b L xs s s.heap) (hbl : b < s.heap.size) (hbA : ¬ A b) (hd : decode cc pc = .ok (.arraylength, 1))
    (kk : sv_V p l e R s m args below meth c nL A cells slots Q Hp (pc + 1) lv (sv_i (L : Int) :: rest)) : sv_V p l e R s m args below meth c nL A cells slots Q Hp pc lv (sv_r b :: rest) := by
  intro H locs ls hH hS hl
  exact va_slen C.1 C.2.1 hX hbl hbA hS hd (kk H locs ls hH hS hl)
theorem sv_icS (hx : p.tables.exec = Jvm.exec) (hb : c.code = cc) {off : Int} {tgt : Nat} {z : Int} (hd : decode cc pc = .ok (.if_icmp .eq off, 3)) (ht : (pc : Int) + off = (tgt : Int))
    (kk : sv_V p l e R s m args below meth c nL A cells slots Q Hp tgt lv rest) : sv_V p l e R s m args below meth c nL A cells slots Q Hp pc lv (.inl z :: .inl z :: rest) :=
  fun H locs ls hH hS hl => lv_icmp_eq hx hb hd ht (fun _ => kk H locs ls hH hS hl) (fun h => absurd rfl h)
end LZR
abbrev lz_V (p : Program) (l : Launch) (e : Env) (s : State) (m : MethodId) (below : List Frame) (meth : Method) (c : Code) (b : Nat) (A : Nat → Prop) (cells slots : Nat) (Hp : Heap → Prop) (pc : Nat) (lv : sv_L) (st : List sv_T) : Prop :=
  sv_V p l e room_1 s m #[Value.ref b] below meth c 4 A cells slots (lw_Z below #[Value.ref b] s) Hp pc lv st
/-- what stands at the law's loop -/
def lz_K (p : Program) (s : State) (m : MethodId) (meth : Method) (c : Code) (g : sv_G) (A : Nat → Prop) (b L : Nat) (xs : Nat → Int32) : Prop :=
  sv_C g A R_law code 4 p s m #[Value.ref b] meth c ∧ va_X b L xs s s.heap ∧ b < s.heap.size ∧ ¬ A b ∧ (∀ q, A q → s.heap.size ≤ q) ∧ meth.sig.returnType = ret
/-- where the tables lie -/
def zn (ty : Nat → Nat) (σ : Nat → Nat → Int) (x mm tq bq mq sq s1 s2 s3 s4 s5 : Nat) : Prop := (σ x 4 = (tq : Int) + 1 ∧ ty tq = 6) ∧ (σ tq 0 = (bq : Int) + 1 ∧ ty bq = 37) ∧ (σ tq 2 = (mq : Int) + 1 ∧ ty mq = 38) ∧ (σ mm 41 = (sq : Int) + 1 ∧ ty sq = 101) ∧ (σ mm 42 = (s1 : Int) + 1 ∧ ty s1 = 102) ∧ (σ mm 43 = (s2 : Int) + 1 ∧ ty s2 = 103) ∧ (σ mm 44 = (s3 : Int) + 1 ∧ ty s3 = 104) ∧ (σ mm 45 = (s4 : Int) + 1 ∧ ty s4 = 105) ∧ (σ mm 46 = (s5 : Int) + 1 ∧ ty s5 = 106)
/-- a procession of the class (in σ) and the k-th of the reference (in τ) -/
def zv (σ τ : Nat → Nat → Int) (P c r s1 s2 s3 s4 s5 k : Nat) : Prop := (0 ≤ σ P 0 ∧ σ P 0 ≤ 12) ∧ σ P 0 = τ s1 k ∧ (1 ≤ σ P 0 → (σ P 1 = τ s2 k ∧ σ P 4 = τ s3 k) ∧ ∀ i : Nat, (i : Int) < σ P 0 → σ c i = τ s4 (12 * k + i) ∧ σ r i = τ s5 (12 * k + i) ∧ 0 ≤ σ r i ∧ σ r i ≤ 60 * (i : Int) ∧ ∀ h : Nat, h + 1 = i → σ r h ≤ σ r i)
def zvA (σ : Nat → Nat → Int) (bq s1 s2 s3 s4 s5 : Nat) : Prop := ∀ k : Nat, k < 12 → ∀ P c r : Nat, σ bq k = (P : Int) + 1 → σ P 2 = (c : Int) + 1 → σ P 3 = (r : Int) + 1 → zv σ σ P c r s1 s2 s3 s4 s5 k
/-- what ties class and reference -/
def lz_R (ty : Nat → Nat) (σ : Nat → Nat → Int) (x mm : Nat) : Prop := ∃ tq bq mq sq s1 s2 s3 s4 s5 : Nat, zn ty σ x mm tq bq mq sq s1 s2 s3 s4 s5 ∧ zd_D ty σ bq 12 ∧ (∀ j : Nat, j < 400 → σ mq j = σ sq j) ∧ zvA σ bq s1 s2 s3 s4 s5
def lz_S (A : Nat → Prop) (ty : Nat → Nat) (σ : Nat → Nat → Int) (x mm : Nat) : Prop := sv_ok ty σ ∧ (∀ q, ty q ≠ 0 → A q) ∧ sv_inv sp_1 ty σ ∧ ty x = 1 ∧ ty mm = 10 ∧ lz_R ty σ x mm
theorem zv_cg {σ σ' τ τ' : Nat → Nat → Int} {P c r s1 s2 s3 s4 s5 k : Nat} (e0 : σ' P 0 = σ P 0) (e1 : σ' P 1 = σ P 1) (e4 : σ' P 4 = σ P 4) (ec : ∀ j, σ' c j = σ c j) (er : ∀ j, σ' r j = σ r j) (h1 : τ' s1 k = τ s1 k) (h2 : τ' s2 k = τ s2 k) (h3 : τ' s3 k = τ s3 k) (h4 : ∀ i, i < 12 → τ' s4 (12 * k + i) = τ s4 (12 * k + i)) (h5 : ∀ i, i < 12 → τ' s5 (12 * k + i) = τ s5 (12 * k + i)) (h : zv σ τ P c r s1 s2 s3 s4 s5 k) : zv σ' τ' P c r s1 s2 s3 s4 s5 k := by
  obtain ⟨z1, z2, z3⟩ := h
  refine ⟨by rw [e0]; exact z1, by rw [e0, h1]; exact z2, fun hz => ?_⟩
  rw [e0] at hz
  obtain ⟨⟨y1, y2⟩, y3⟩ := z3 hz
  refine ⟨⟨by rw [e1, h2]; exact y1, by rw [e4, h3]; exact y2⟩, fun i hi => ?_⟩
  rw [e0] at hi
  obtain ⟨q1, q2, q3, q4, q5⟩ := y3 i hi
  exact ⟨by rw [ec, h4 i (by omega)]; exact q1, by rw [er, h5 i (by omega)]; exact q2, by rw [er]; exact q3, by rw [er]; exact q4, fun h hh => by rw [er h, er i]; exact q5 h hh⟩
theorem zn_of {ty : Nat → Nat} {x mm tq bq mq sq s1 s2 s3 s4 s5 : Nat} {σ σ' : Nat → Nat → Int} {W : List (Nat × Nat)} {L : List Nat} (hx : ty x = 1) (hm : ty mm = 10) (hF : sv_ofx W L ty σ σ') (h1 : ∀ K ∈ [1, 6, 10], K ∉ L) (h2 : ∀ q ∈ [(1, 4), (6, 0), (6, 2), (10, 41), (10, 42), (10, 43), (10, 44), (10, 45), (10, 46)], q ∉ W) (h : zn ty σ x mm tq bq mq sq s1 s2 s3 s4 s5) : zn ty σ' x mm tq bq mq sq s1 s2 s3 s4 s5 := by
  obtain ⟨⟨a1, k1⟩, ⟨a2, k2⟩, ⟨a3, k3⟩, ⟨a4, k4⟩, ⟨a5, k5⟩, ⟨a6, k6⟩, ⟨a7, k7⟩, ⟨a8, k8⟩, a9, k9⟩ := h
  have m1 := h1 1 (by decide)
  have m6 := h1 6 (by decide)
  have m10 := h1 10 (by decide)
  exact ⟨⟨by rw [hF.at hx m1 (h2 _ (by decide))]; exact a1, k1⟩, ⟨by rw [hF.at k1 m6 (h2 _ (by decide))]; exact a2, k2⟩, ⟨by rw [hF.at k1 m6 (h2 _ (by decide))]; exact a3, k3⟩, ⟨by rw [hF.at hm m10 (h2 _ (by decide))]; exact a4, k4⟩, ⟨by rw [hF.at hm m10 (h2 _ (by decide))]; exact a5, k5⟩, ⟨by rw [hF.at hm m10 (h2 _ (by decide))]; exact a6, k6⟩, ⟨by rw [hF.at hm m10 (h2 _ (by decide))]; exact a7, k7⟩, ⟨by rw [hF.at hm m10 (h2 _ (by decide))]; exact a8, k8⟩, by rw [hF.at hm m10 (h2 _ (by decide))]; exact a9, k9⟩
theorem lz_up {ty : Nat → Nat} {x mm tq bq mq sq s1 s2 s3 s4 s5 : Nat} {σ σ' : Nat → Nat → Int} {k0 P0 c0 r0 : Nat} (hn' : zn ty σ' x mm tq bq mq sq s1 s2 s3 s4 s5) (hD : zd_D ty σ bq 12) (hst : ∀ j : Nat, j < 400 → σ' mq j = σ' sq j) (hv : zvA σ bq s1 s2 s3 s4 s5) (hb : ∀ j, σ' bq j = σ bq j) (hf : ∀ q, ty q = 9 → σ' q 2 = σ q 2 ∧ σ' q 3 = σ q 3) (hk0 : k0 < 12) (a1 : σ bq k0 = (P0 : Int) + 1) (a2 : σ P0 2 = (c0 : Int) + 1) (a3 : σ P0 3 = (r0 : Int) + 1)
    (hP : ∀ q, ty q = 9 → q ≠ P0 → ∀ j, σ' q j = σ q j) (hc : ∀ q, ty q = 40 → q ≠ c0 → ∀ j, σ' q j = σ q j) (hr : ∀ q, ty q = 41 → q ≠ r0 → ∀ j, σ' q j = σ q j) (h1 : ∀ j, j ≠ k0 → σ' s1 j = σ s1 j) (h2 : ∀ j, j ≠ k0 → σ' s2 j = σ s2 j) (h3 : ∀ j, j ≠ k0 → σ' s3 j = σ s3 j) (h4 : ∀ k i, k ≠ k0 → i < 12 → σ' s4 (12 * k + i) = σ s4 (12 * k + i)) (h5 : ∀ k i, k ≠ k0 → i < 12 → σ' s5 (12 * k + i) = σ s5 (12 * k + i)) (hv0 : zv σ' σ' P0 c0 r0 s1 s2 s3 s4 s5 k0) : lz_R ty σ' x mm := by
  refine ⟨tq, bq, mq, sq, s1, s2, s3, s4, s5, hn', ⟨fun j hj => ?_, fun j k hj hk hjk P Q e1 e2 => ?_⟩, hst, fun k hk P c r e1 e2 e3 => ?_⟩
  · obtain ⟨P, c, r, p1, p2, p3, p4, p5, p6⟩ := hD.1 j hj
    exact ⟨P, c, r, by rw [hb]; exact p1, p2, by rw [(hf P p2).1]; exact p3, p4, by rw [(hf P p2).2]; exact p5, p6⟩
  · rw [hb] at e1 e2
    obtain ⟨P', _, _, p1, p2, -⟩ := hD.1 j hj
    obtain ⟨Q', _, _, q1, q2, -⟩ := hD.1 k hk
    have tP : P' = P := by omega
    have tQ : Q' = Q := by omega
    subst tP; subst tQ
    rw [(hf _ p2).1, (hf _ q2).1, (hf _ p2).2, (hf _ q2).2]
    exact hD.2 j k hj hk hjk _ _ e1 e2
  · rw [hb] at e1
    obtain ⟨P', c', r', p1, p2, p3, p4, p5, p6⟩ := hD.1 k hk
    have tP : P' = P := by omega
    subst tP
    rw [(hf _ p2).1] at e2
    rw [(hf _ p2).2] at e3
    have tc : c' = c := by omega
    have tr : r' = r := by omega
    subst tc; subst tr
    by_cases hk' : k = k0
    · rw [hk'] at p1 ⊢
      have t1 : P0 = P' := by omega
      subst t1
      have t2 : c0 = c' := by omega
      have t3 : r0 = r' := by omega
      subst t2; subst t3
      exact hv0
    · obtain ⟨n1, n2, n3⟩ := hD.2 k k0 hk hk0 hk' P' P0 p1 a1
      have nc : c' ≠ c0 := fun e => n2 (by rw [p3, a2, e])
      have nr : r' ≠ r0 := fun e => n3 (by rw [p5, a3, e])
      have e0 : ∀ j, σ' P' j = σ P' j := hP P' p2 n1
      exact zv_cg (e0 0) (e0 1) (e0 4) (hc c' p4 nc) (hr r' p6 nr) (h1 k hk') (h2 k hk') (h3 k hk') (fun i hi => h4 k i hk' hi) (fun i hi => h5 k i hk' hi) (hv k hk P' c' r' p1 p3 p5)
/-- calls that leave all this alone -/
theorem lz_keep0 {ty : Nat → Nat} {σ σ' : Nat → Nat → Int} {x mm : Nat} {W : List (Nat × Nat)} {L : List Nat} (hx : ty x = 1) (hm : ty mm = 10) (hF : sv_ofx W L ty σ σ') (h1 : ∀ K ∈ [1, 6, 10], K ∉ L) (h2 : ∀ q ∈ [(1, 4), (6, 0), (6, 2), (10, 41), (10, 42), (10, 43), (10, 44), (10, 45), (10, 46)], q ∉ W) (h3 : ∀ K ∈ [9, 37, 38, 40, 41, 101, 102, 104, 105, 106], K ∉ L) (h4 : ∀ K ∈ [9, 37, 38, 40, 41, 101, 102, 104, 105, 106], ∀ q ∈ W, q.1 ≠ K) (h5 : ∀ s2 : Nat, σ mm 43 = (s2 : Int) + 1 → ty s2 = 103 → ∀ j, σ' s2 j = σ s2 j) (h : lz_R ty σ x mm) : lz_R ty σ' x mm := by
  obtain ⟨tq, bq, mq, sq, s1, s2, s3, s4, s5, hn, hD, hst, hv⟩ := h
  have hn' := zn_of hx hm hF h1 h2 hn
  obtain ⟨⟨b1, k1⟩, ⟨b2, k2⟩, ⟨b3, k3⟩, ⟨b4, k4⟩, ⟨b5, k5⟩, ⟨b6, k6⟩, ⟨b7, k7⟩, ⟨b8, k8⟩, b9, k9⟩ := hn
  have E : ∀ K ∈ [9, 37, 38, 40, 41, 101, 102, 104, 105, 106], ∀ q, ty q = K → ∀ j, σ' q j = σ q j := fun K hK q hq j => hF.atA hq (h3 K hK) (h4 K hK)
  have e2 := h5 s2 b6 k6
  obtain ⟨P, c, r, p1, p2, p3, p4, p5, p6⟩ := hD.1 0 (by decide)
  have hP := E 9 (by decide)
  exact lz_up (k0 := 0) hn' hD (fun j hj => by rw [E 38 (by decide) mq k3, E 101 (by decide) sq k4]; exact hst j hj) hv (E 37 (by decide) bq k2) (fun q hq => ⟨hP q hq 2, hP q hq 3⟩) (by decide) p1 p3 p5 (fun q hq _ => hP q hq) (fun q hq _ => E 40 (by decide) q hq) (fun q hq _ => E 41 (by decide) q hq) (fun j _ => E 102 (by decide) s1 k5 j) (fun j _ => e2 j) (fun j _ => E 104 (by decide) s3 k7 j) (fun k i _ _ => E 105 (by decide) s4 k8 _) (fun k i _ _ => E 106 (by decide) s5 k9 _)
    (zv_cg (hP P p2 0) (hP P p2 1) (hP P p2 4) (E 40 (by decide) c p4) (E 41 (by decide) r p6) (E 102 (by decide) s1 k5 0) (e2 0) (E 104 (by decide) s3 k7 0) (fun i _ => E 105 (by decide) s4 k8 _) (fun i _ => E 106 (by decide) s5 k9 _) (hv 0 (by decide) P c r p1 p3 p5))
theorem lz_keep {ty : Nat → Nat} {σ σ' : Nat → Nat → Int} {x mm : Nat} {W : List (Nat × Nat)} {L : List Nat} (hx : ty x = 1) (hm : ty mm = 10) (hF : sv_ofx W L ty σ σ') (h1 : ∀ K ∈ [1, 6, 10], K ∉ L) (h2 : ∀ q ∈ [(1, 4), (6, 0), (6, 2), (10, 41), (10, 42), (10, 43), (10, 44), (10, 45), (10, 46)], q ∉ W) (h3 : ∀ K ∈ [9, 37, 38, 40, 41, 101, 102, 104, 105, 106], K ∉ L) (h4 : ∀ K ∈ [9, 37, 38, 40, 41, 101, 102, 104, 105, 106], ∀ q ∈ W, q.1 ≠ K) (h5 : 103 ∉ L) (h6 : ∀ q ∈ W, q.1 ≠ 103) (h : lz_R ty σ x mm) : lz_R ty σ' x mm := lz_keep0 hx hm hF h1 h2 h3 h4 (fun s2 _ k j => hF.atA k h5 h6) h
/-- streets: both tables change alike -/
theorem lz_str {ty : Nat → Nat} {σ σ1 σ2 : Nat → Nat → Int} {x mm tq bq mq sq s1 s2 s3 s4 s5 : Nat} {W : List (Nat × Nat)} {L : List Nat} (hx : ty x = 1) (hm : ty mm = 10) (hn : zn ty σ x mm tq bq mq sq s1 s2 s3 s4 s5) (hD : zd_D ty σ bq 12) (hst : ∀ j : Nat, j < 400 → σ mq j = σ sq j) (hv : zvA σ bq s1 s2 s3 s4 s5) (hF1 : sv_ofx W L ty σ σ1) (hF2 : sv_ofx [] [101] ty σ1 σ2) (h1 : ∀ K ∈ [1, 6, 10], K ∉ L) (h2 : ∀ q ∈ [(1, 4), (6, 0), (6, 2), (10, 41), (10, 42), (10, 43), (10, 44), (10, 45), (10, 46)], q ∉ W) (h3 : ∀ K ∈ [9, 37, 40, 41, 101, 102, 103, 104, 105, 106], K ∉ L) (h4 : ∀ K ∈ [9, 37, 38, 40, 41, 101, 102, 103, 104, 105, 106], ∀ q ∈ W, q.1 ≠ K) {a b m v1 v2 : Int} (g1 : fs_street σ σ1 mq a b m v1) (g2 : fs_street σ1 σ2 sq a b m v2) : v1 = v2 ∧ lz_R ty σ2 x mm := by
  have hn1 := zn_of hx hm hF1 h1 h2 hn
  have hn' := zn_of hx hm hF2 (by decide) (by decide) hn1
  obtain ⟨⟨b1, k1⟩, ⟨b2, k2⟩, ⟨b3, k3⟩, ⟨b4, k4⟩, ⟨b5, k5⟩, ⟨b6, k6⟩, ⟨b7, k7⟩, ⟨b8, k8⟩, b9, k9⟩ := hn
  have hs : ∀ j, σ1 sq j = σ sq j := fun j => hF1.atA k4 (h3 101 (by decide)) (h4 101 (by decide))
  have hq : ∀ j, σ2 mq j = σ1 mq j := fun j => hF2.atA k3 (by decide) (by decide)
  have key : v1 = v2 ∧ ∀ j : Nat, j < 400 → σ1 mq j = σ2 sq j := by
    by_cases ho : fs_ok a b m
    · obtain ⟨p1, p2⟩ := g1.1 ho
      obtain ⟨p3, p4⟩ := g2.1 ho
      unfold fs_ok at ho
      refine ⟨by rw [p1, p3, hs, hst _ (by omega)], fun j hj => ?_⟩
      rw [p2, p4, hs, hst j hj]
    · obtain ⟨p1, p2⟩ := g1.2 ho
      obtain ⟨p3, p4⟩ := g2.2 ho
      exact ⟨by rw [p1, p3], fun j hj => by rw [p2, p4, hs, hst j hj]⟩
  have E : ∀ K ∈ [9, 37, 40, 41, 102, 103, 104, 105, 106], ∀ q, ty q = K → ∀ j, σ2 q j = σ q j := fun K hK q hq j => by
    have hK1 : K ∈ [9, 37, 40, 41, 101, 102, 103, 104, 105, 106] := by clear hq; revert K; decide
    have hK2 : K ∈ [9, 37, 38, 40, 41, 101, 102, 103, 104, 105, 106] := by clear hq; revert K; decide
    have hK3 : K ∉ [101] := by clear hq; revert K; decide
    rw [hF2.atA hq hK3 (fun q h => absurd h List.not_mem_nil)]
    exact hF1.atA hq (h3 K hK1) (h4 K hK2)
  refine ⟨key.1, ?_⟩
  obtain ⟨P, c, r, p1, p2, p3, p4, p5, p6⟩ := hD.1 0 (by decide)
  have hP := E 9 (by decide)
  exact lz_up (k0 := 0) hn' hD (fun j hj => by rw [hq]; exact key.2 j hj) hv (E 37 (by decide) bq k2) (fun q hq => ⟨hP q hq 2, hP q hq 3⟩) (by decide) p1 p3 p5 (fun q hq _ => hP q hq) (fun q hq _ => E 40 (by decide) q hq) (fun q hq _ => E 41 (by decide) q hq) (fun j _ => E 102 (by decide) s1 k5 j) (fun j _ => E 103 (by decide) s2 k6 j) (fun j _ => E 104 (by decide) s3 k7 j) (fun k i _ _ => E 105 (by decide) s4 k8 _) (fun k i _ _ => E 106 (by decide) s5 k9 _)
    (zv_cg (hP P p2 0) (hP P p2 1) (hP P p2 4) (E 40 (by decide) c p4) (E 41 (by decide) r p6) (E 102 (by decide) s1 k5 0) (E 103 (by decide) s2 k6 0) (E 104 (by decide) s3 k7 0) (fun i _ => E 105 (by decide) s4 k8 _) (fun i _ => E 106 (by decide) s5 k9 _) (hv 0 (by decide) P c r p1 p3 p5))
/-- one procession changes in both -/
theorem lz_two {ty : Nat → Nat} {x mm tq bq mq sq s1 s2 s3 s4 s5 : Nat} {σ σ1 σ2 : Nat → Nat → Int} {k0 P0 c0 r0 : Nat} (hx : ty x = 1) (hm : ty mm = 10) (hn : zn ty σ x mm tq bq mq sq s1 s2 s3 s4 s5) (hD : zd_D ty σ bq 12) (hst : ∀ j : Nat, j < 400 → σ mq j = σ sq j) (hv : zvA σ bq s1 s2 s3 s4 s5) (hF1 : sv_ofx [(9, 0), (9, 1), (9, 4)] [40, 41] ty σ σ1) (hF2 : sv_ofx [] [102, 103, 104, 105, 106] ty σ1 σ2) (hk0 : k0 < 12) (a1 : σ bq k0 = (P0 : Int) + 1) (kP : ty P0 = 9) (a2 : σ P0 2 = (c0 : Int) + 1) (kc : ty c0 = 40) (a3 : σ P0 3 = (r0 : Int) + 1) (kr : ty r0 = 41)
    (hP : ∀ q, ty q = 9 → q ≠ P0 → ∀ j, σ1 q j = σ q j) (hc : ∀ q, ty q = 40 → q ≠ c0 → ∀ j, σ1 q j = σ q j) (hr : ∀ q, ty q = 41 → q ≠ r0 → ∀ j, σ1 q j = σ q j) (h1 : ∀ j, j ≠ k0 → σ2 s1 j = σ1 s1 j) (h2 : ∀ j, j ≠ k0 → σ2 s2 j = σ1 s2 j) (h3 : ∀ j, j ≠ k0 → σ2 s3 j = σ1 s3 j) (h4 : ∀ k i, k ≠ k0 → i < 12 → σ2 s4 (12 * k + i) = σ1 s4 (12 * k + i)) (h5 : ∀ k i, k ≠ k0 → i < 12 → σ2 s5 (12 * k + i) = σ1 s5 (12 * k + i)) (hv0 : zv σ1 σ2 P0 c0 r0 s1 s2 s3 s4 s5 k0) : lz_R ty σ2 x mm := by
  have hn' := zn_of hx hm hF2 (by decide) (by decide) (zn_of hx hm hF1 (by decide) (by decide) hn)
  obtain ⟨⟨b1, k1⟩, ⟨b2, k2⟩, ⟨b3, k3⟩, ⟨b4, k4⟩, ⟨b5, k5⟩, ⟨b6, k6⟩, ⟨b7, k7⟩, ⟨b8, k8⟩, b9, k9⟩ := hn
  have E2 : ∀ K ∈ [9, 37, 38, 40, 41, 101], ∀ q, ty q = K → ∀ j, σ2 q j = σ1 q j := fun K hK q hq j => by
    have hK3 : K ∉ [102, 103, 104, 105, 106] := by clear hq; revert K; decide
    exact hF2.atA hq hK3 (fun q h => absurd h List.not_mem_nil)
  have E1 : ∀ K ∈ [37, 38, 101, 102, 103, 104, 105, 106], ∀ q, ty q = K → ∀ j, σ1 q j = σ q j := fun K hK q hq j => by
    have hK3 : K ∉ [40, 41] := by clear hq; revert K; decide
    have hK4 : ∀ q ∈ [(9, 0), (9, 1), (9, 4)], q.1 ≠ K := by clear hq; revert K; decide
    exact hF1.atA hq hK3 hK4
  have e9 := E2 9 (by decide)
  exact lz_up hn' hD (fun j hj => by rw [E2 38 (by decide) mq k3, E1 38 (by decide) mq k3, E2 101 (by decide) sq k4, E1 101 (by decide) sq k4]; exact hst j hj) hv (fun j => by rw [E2 37 (by decide) bq k2, E1 37 (by decide) bq k2]) (fun q hq => ⟨by rw [e9 q hq]; exact hF1.at hq (by decide) (by decide), by rw [e9 q hq]; exact hF1.at hq (by decide) (by decide)⟩) hk0 a1 a2 a3
    (fun q hq hne j => by rw [e9 q hq]; exact hP q hq hne j) (fun q hq hne j => by rw [E2 40 (by decide) q hq]; exact hc q hq hne j) (fun q hq hne j => by rw [E2 41 (by decide) q hq]; exact hr q hq hne j) (fun j hj => by rw [h1 j hj]; exact E1 102 (by decide) s1 k5 j) (fun j hj => by rw [h2 j hj]; exact E1 103 (by decide) s2 k6 j) (fun j hj => by rw [h3 j hj]; exact E1 104 (by decide) s3 k7 j) (fun k i hk hi => by rw [h4 k i hk hi]; exact E1 105 (by decide) s4 k8 _) (fun k i hk hi => by rw [h5 k i hk hi]; exact E1 106 (by decide) s5 k9 _)
    (zv_cg (e9 P0 kP 0) (e9 P0 kP 1) (e9 P0 kP 4) (E2 40 (by decide) c0 kc) (E2 41 (by decide) r0 kr) rfl rfl rfl (fun _ _ => rfl) (fun _ _ => rfl) hv0)
theorem lz_begin {ty : Nat → Nat} {x mm tq bq mq sq s1 s2 s3 s4 s5 : Nat} {σ σ1 σ2 : Nat → Nat → Int} (hx : ty x = 1) (hm : ty mm = 10) (hn : zn ty σ x mm tq bq mq sq s1 s2 s3 s4 s5) (hD : zd_D ty σ bq 12) (hst : ∀ j : Nat, j < 400 → σ mq j = σ sq j) (hv : zvA σ bq s1 s2 s3 s4 s5) (hF1 : sv_ofx [(9, 0), (9, 1), (9, 4)] [40, 41] ty σ σ1) (hF2 : sv_ofx [] [102, 103, 104, 105, 106] ty σ1 σ2) {k v m t v1 v2 : Int} (g1 : zc_begin σ σ1 bq k v m t v1) (g2 : zm_begin σ1 σ2 s1 s2 s3 s4 s5 k v m t v2) : v1 = v2 ∧ lz_R ty σ2 x mm := by
  by_cases ho : zb_ok k v m t
  · obtain ⟨p1, p2⟩ := g1.2 ho
    obtain ⟨p3, p4⟩ := g2.2 ho
    refine ⟨p1.trans p3.symm, ?_⟩
    unfold zb_ok at ho
    obtain ⟨k0, rfl⟩ : ∃ k0 : Nat, k = (k0 : Int) := ⟨k.toNat, by omega⟩
    rw [show ((k0 : Int)).toNat = k0 by omega] at p2 p4
    rw [show (12 * (k0 : Int)).toNat = 12 * k0 by omega] at p4
    obtain ⟨P, c, r, d1, d2, d3, d4, d5, d6⟩ := hD.1 k0 (by omega)
    have E1 := p2 P c r d1 d3 d5
    have nPc : P ≠ c := sv_ne d2 d4 (by decide)
    have nPr : P ≠ r := sv_ne d2 d6 (by decide)
    have ncr : c ≠ r := sv_ne d4 d6 (by decide)
    obtain ⟨-, -, -, -, ⟨-, k5⟩, ⟨-, k6⟩, ⟨-, k7⟩, ⟨-, k8⟩, -, k9⟩ := id hn
    have n12 : s1 ≠ s2 := sv_ne k5 k6 (by decide)
    have n13 : s1 ≠ s3 := sv_ne k5 k7 (by decide)
    have n14 : s1 ≠ s4 := sv_ne k5 k8 (by decide)
    have n15 : s1 ≠ s5 := sv_ne k5 k9 (by decide)
    have n23 : s2 ≠ s3 := sv_ne k6 k7 (by decide)
    have n24 : s2 ≠ s4 := sv_ne k6 k8 (by decide)
    have n25 : s2 ≠ s5 := sv_ne k6 k9 (by decide)
    have n34 : s3 ≠ s4 := sv_ne k7 k8 (by decide)
    have n35 : s3 ≠ s5 := sv_ne k7 k9 (by decide)
    have n45 : s4 ≠ s5 := sv_ne k8 k9 (by decide)
    refine lz_two hx hm hn hD hst hv hF1 hF2 (by omega) d1 d2 d3 d4 d5 d6 (fun q hq hne j => ?_) (fun q hq hne j => ?_) (fun q hq hne j => ?_) (fun j hj => ?_) (fun j hj => ?_) (fun j hj => ?_) (fun k i hk hi => ?_) (fun k i hk hi => ?_) ⟨?_, ?_, fun _ => ⟨⟨?_, ?_⟩, fun i hi => ?_⟩⟩
    · rw [E1, sv_up_a hne, sv_up_a hne, sv_up_a (sv_ne hq d6 (by decide)), sv_up_a (sv_ne hq d4 (by decide)), sv_up_a hne]
    · rw [E1, sv_up_a (sv_ne hq d2 (by decide)), sv_up_a (sv_ne hq d2 (by decide)), sv_up_a (sv_ne hq d6 (by decide)), sv_up_a hne, sv_up_a (sv_ne hq d2 (by decide))]
    · rw [E1, sv_up_a (sv_ne hq d2 (by decide)), sv_up_a (sv_ne hq d2 (by decide)), sv_up_a hne, sv_up_a (sv_ne hq d4 (by decide)), sv_up_a (sv_ne hq d2 (by decide))]
    · rw [p4, sv_up_a n15, sv_up_a n14, sv_up_a n13, sv_up_a n12, sv_up_k hj]
    · rw [p4, sv_up_a n25, sv_up_a n24, sv_up_a n23, sv_up_k hj, sv_up_a n12.symm]
    · rw [p4, sv_up_a n35, sv_up_a n34, sv_up_k hj, sv_up_a n23.symm, sv_up_a n13.symm]
    · rw [p4, sv_up_a n45, sv_up_k (by omega), sv_up_a n34.symm, sv_up_a n24.symm, sv_up_a n14.symm]
    · rw [p4, sv_up_k (by omega), sv_up_a n45.symm, sv_up_a n35.symm, sv_up_a n25.symm, sv_up_a n15.symm]
    · rw [E1, sv_up_k (by decide), sv_up_k (by decide), sv_up_a nPr, sv_up_a nPc, sv_up_s]; decide
    · rw [E1, sv_up_k (by decide), sv_up_k (by decide), sv_up_a nPr, sv_up_a nPc, sv_up_s, p4, sv_up_a n15, sv_up_a n14, sv_up_a n13, sv_up_a n12, sv_up_s]
    · rw [E1, sv_up_k (by decide), sv_up_s, p4, sv_up_a n25, sv_up_a n24, sv_up_a n23, sv_up_s]
    · rw [E1, sv_up_s, p4, sv_up_a n35, sv_up_a n34, sv_up_s]
    · rw [E1, sv_up_k (by decide), sv_up_k (by decide), sv_up_a nPr, sv_up_a nPc, sv_up_s] at hi
      have i0 : i = 0 := by omega
      subst i0
      have r0 : σ1 r 0 = 0 := by rw [E1, sv_up_a nPr.symm, sv_up_a nPr.symm, sv_up_s]
      refine ⟨?_, ?_, by omega, by omega, fun h hh => absurd hh (by omega)⟩
      · rw [Nat.add_zero, E1, sv_up_a nPc.symm, sv_up_a nPc.symm, sv_up_a ncr, sv_up_s, p4, sv_up_a n45, sv_up_s]
      · rw [Nat.add_zero, r0, p4, sv_up_s]
  · obtain ⟨p1, p2⟩ := g1.1 ho
    obtain ⟨p3, p4⟩ := g2.1 ho
    refine ⟨p1.trans p3.symm, ?_⟩
    rw [p4, p2]
    exact ⟨tq, bq, mq, sq, s1, s2, s3, s4, s5, hn, hD, hst, hv⟩
theorem lz_goes {ty : Nat → Nat} {x mm tq bq mq sq s1 s2 s3 s4 s5 : Nat} {σ σ1 σ2 : Nat → Nat → Int} (hx : ty x = 1) (hm : ty mm = 10) (hI : sv_inv sp_1 ty σ) (hn : zn ty σ x mm tq bq mq sq s1 s2 s3 s4 s5) (hD : zd_D ty σ bq 12) (hst : ∀ j : Nat, j < 400 → σ mq j = σ sq j) (hv : zvA σ bq s1 s2 s3 s4 s5) (hF1 : sv_ofx [(9, 0), (9, 1), (9, 4)] [40, 41] ty σ σ1) (hF2 : sv_ofx [] [102, 103, 104, 105, 106] ty σ1 σ2) {k v v1 v2 : Int} (g1 : zc_goes σ σ1 bq mq k v v1) (g2 : zm_goes σ1 σ2 sq s1 s4 s5 k v v2) : v1 = v2 ∧ lz_R ty σ2 x mm := by
  by_cases ho : 0 ≤ k ∧ k ≤ 11
  rotate_left
  · obtain ⟨p1, p2⟩ := g1.1 ho
    obtain ⟨p3, p4⟩ := g2.1 ho
    refine ⟨p1.trans p3.symm, ?_⟩
    rw [p4, p2]
    exact ⟨tq, bq, mq, sq, s1, s2, s3, s4, s5, hn, hD, hst, hv⟩
  obtain ⟨k0, rfl⟩ : ∃ k0 : Nat, k = (k0 : Int) := ⟨k.toNat, by omega⟩
  obtain ⟨P, c, r, d1, d2, d3, d4, d5, d6⟩ := hD.1 k0 (by omega)
  have tk : ((k0 : Int)).toNat = k0 := by omega
  obtain ⟨y1, y2, y3⟩ := hv k0 (by omega) P c r d1 d3 d5
  obtain ⟨-, -, ⟨-, k3⟩, ⟨-, k4⟩, ⟨-, k5⟩, ⟨-, k6⟩, ⟨-, k7⟩, ⟨-, k8⟩, -, k9⟩ := id hn
  have e5 : ∀ j, σ1 s1 j = σ s1 j := fun j => hF1.atA k5 (by decide) (by decide)
  have e8 : ∀ j, σ1 s4 j = σ s4 j := fun j => hF1.atA k8 (by decide) (by decide)
  have e9 : ∀ j, σ1 s5 j = σ s5 j := fun j => hF1.atA k9 (by decide) (by decide)
  have e4 : ∀ j, σ1 sq j = σ sq j := fun j => hF1.atA k4 (by decide) (by decide)
  obtain ⟨z, hz⟩ : ∃ z : Int, σ P 0 = z := ⟨_, rfl⟩
  obtain ⟨m, hmm⟩ : ∃ m : Int, σ mq (20 * σ c (z - 1).toNat + v).toNat = m := ⟨_, rfl⟩
  have f1 := g1.2 P c r z m ho (by rw [tk]; exact d1) d3 d5 hz hmm
  rw [hz] at y1 y2 y3
  by_cases hb : z < 1 ∨ ¬ (0 ≤ v ∧ v ≤ 19)
  · obtain ⟨p1, p2⟩ := f1.1 hb
    obtain ⟨p3, p4⟩ := (g2.2 z _ ho (by rw [tk, e5]; exact y2.symm) rfl).1 hb
    refine ⟨p1.trans p3.symm, ?_⟩
    rw [p4, p2]
    exact ⟨tq, bq, mq, sq, s1, s2, s3, s4, s5, hn, hD, hst, hv⟩
  have hb1 : 1 ≤ z := by omega
  have hb2 : 0 ≤ v ∧ v ≤ 19 := by omega
  obtain ⟨⟨u1, u2⟩, u3⟩ := y3 hb1
  obtain ⟨w1, w2, w3, w4, w5⟩ := u3 (z - 1).toNat (by omega)
  have hcr := hI.num (k := (z - 1).toNat) d4 rfl
  have hmr := hI.num (k := (20 * σ c (z - 1).toNat + v).toNat) k3 rfl
  have ti : (12 * (k0 : Int) + z - 1).toNat = 12 * k0 + (z - 1).toNat := by omega
  have tj : (12 * (k0 : Int) + z).toNat = 12 * k0 + z.toNat := by omega
  have hm2 : σ1 sq (20 * σ1 s4 (12 * (k0 : Int) + z - 1).toNat + v).toNat = m := by
    rw [e4, e8, ti, ← w1, ← hst _ (by omega)]
    exact hmm
  have f2 := g2.2 z m ho (by rw [tk, e5]; exact y2.symm) hm2
  rw [tk, ti, tj, e9, ← w2] at f2
  by_cases h0 : m = 0
  · obtain ⟨p1, p2⟩ := f1.2.1 hb1 hb2 h0
    obtain ⟨p3, p4⟩ := f2.2.1 hb1 hb2 h0
    refine ⟨p1.trans p3.symm, ?_⟩
    rw [p4, p2]
    exact ⟨tq, bq, mq, sq, s1, s2, s3, s4, s5, hn, hD, hst, hv⟩
  by_cases h12 : 12 ≤ z
  · obtain ⟨p1, p2⟩ := f1.2.2.1 h12 hb2 h0
    obtain ⟨p3, p4⟩ := f2.2.2.1 h12 hb2 h0
    refine ⟨p1.trans p3.symm, ?_⟩
    rw [p4, p2]
    exact ⟨tq, bq, mq, sq, s1, s2, s3, s4, s5, hn, hD, hst, hv⟩
  obtain ⟨p1, E1⟩ := f1.2.2.2 hb1 (by omega) hb2 h0
  obtain ⟨p3, p4⟩ := f2.2.2.2 hb1 (by omega) hb2 h0
  refine ⟨p1.trans p3.symm, ?_⟩
  have hzw : zw (σ r (z - 1).toNat + m) = σ r (z - 1).toNat + m := zw_id ⟨by omega, by omega⟩
  rw [hzw] at E1 p4
  have nPc : P ≠ c := sv_ne d2 d4 (by decide)
  have nPr : P ≠ r := sv_ne d2 d6 (by decide)
  have ncr : c ≠ r := sv_ne d4 d6 (by decide)
  have n14 : s1 ≠ s4 := sv_ne k5 k8 (by decide)
  have n15 : s1 ≠ s5 := sv_ne k5 k9 (by decide)
  have n45 : s4 ≠ s5 := sv_ne k8 k9 (by decide)
  have E10 : σ1 P 0 = z + 1 := by rw [E1]; exact sv_up_s _ _ _ _
  have E1o : ∀ j, j ≠ 0 → σ1 P j = σ P j := fun j hj => by rw [E1, sv_up_k hj, sv_up_a nPr, sv_up_a nPc]
  refine lz_two hx hm hn hD hst hv hF1 hF2 (by omega) d1 d2 d3 d4 d5 d6 (fun q hq hne j => ?_) (fun q hq hne j => ?_) (fun q hq hne j => ?_) (fun j hj => ?_) (fun j hj => ?_) (fun j hj => ?_) (fun k i hk hi => ?_) (fun k i hk hi => ?_) ⟨?_, ?_, fun _ => ⟨⟨?_, ?_⟩, fun i hi => ?_⟩⟩
  · rw [E1, sv_up_a hne, sv_up_a (sv_ne hq d6 (by decide)), sv_up_a (sv_ne hq d4 (by decide))]
  · rw [E1, sv_up_a (sv_ne hq d2 (by decide)), sv_up_a (sv_ne hq d6 (by decide)), sv_up_a hne]
  · rw [E1, sv_up_a (sv_ne hq d2 (by decide)), sv_up_a hne, sv_up_a (sv_ne hq d4 (by decide))]
  · rw [p4, sv_up_k hj, sv_up_a n15, sv_up_a n14]
  · rw [p4, sv_up_a (sv_ne k6 k5 (by decide)), sv_up_a (sv_ne k6 k9 (by decide)), sv_up_a (sv_ne k6 k8 (by decide))]
  · rw [p4, sv_up_a (sv_ne k7 k5 (by decide)), sv_up_a (sv_ne k7 k9 (by decide)), sv_up_a (sv_ne k7 k8 (by decide))]
  · rw [p4, sv_up_a n14.symm, sv_up_a n45, sv_up_k (by omega)]
  · rw [p4, sv_up_a n15.symm, sv_up_k (by omega), sv_up_a n45.symm]
  · rw [E10]; omega
  · rw [E10, p4]; exact (sv_up_s _ _ _ _).symm
  · rw [E1o 1 (by decide), u1, p4, sv_up_a (sv_ne k6 k5 (by decide)), sv_up_a (sv_ne k6 k9 (by decide)), sv_up_a (sv_ne k6 k8 (by decide))]
    exact (hF1.atA k6 (by decide) (by decide)).symm
  · rw [E1o 4 (by decide), u2, p4, sv_up_a (sv_ne k7 k5 (by decide)), sv_up_a (sv_ne k7 k9 (by decide)), sv_up_a (sv_ne k7 k8 (by decide))]
    exact (hF1.atA k7 (by decide) (by decide)).symm
  · rw [E10] at hi
    have rr' : ∀ h, h ≠ z.toNat → σ1 r h = σ r h := fun h hh => by rw [E1, sv_up_a nPr.symm, sv_up_k hh, sv_up_a ncr.symm]
    by_cases ei : i = z.toNat
    · subst ei
      have r0 : σ1 r z.toNat = σ r (z - 1).toNat + m := by rw [E1, sv_up_a nPr.symm, sv_up_s]
      refine ⟨?_, ?_, by omega, by omega, fun h hh => ?_⟩
      · rw [E1, sv_up_a nPc.symm, sv_up_a ncr, sv_up_s, p4, sv_up_a n14.symm, sv_up_a n45, sv_up_s]
      · rw [r0, p4, sv_up_a n15.symm, sv_up_s]
      · have th : h = (z - 1).toNat := by omega
        rw [rr' h (by omega), r0, th]
        omega
    · have rc : σ1 c i = σ c i := by rw [E1, sv_up_a nPc.symm, sv_up_a ncr, sv_up_k ei]
      have x4 : σ2 s4 (12 * k0 + i) = σ s4 (12 * k0 + i) := by rw [p4, sv_up_a n14.symm, sv_up_a n45, sv_up_k (by omega), e8]
      have x5 : σ2 s5 (12 * k0 + i) = σ s5 (12 * k0 + i) := by rw [p4, sv_up_a n15.symm, sv_up_k (by omega), sv_up_a n45.symm, e9]
      obtain ⟨q1, q2, q3, q4, q5⟩ := u3 i (by omega)
      exact ⟨by rw [rc, x4]; exact q1, by rw [rr' i ei, x5]; exact q2, by rw [rr' i ei]; exact q3, by rw [rr' i ei]; exact q4, fun h hh => by rw [rr' h (by omega), rr' i ei]; exact q5 h hh⟩
theorem lz_late {ty : Nat → Nat} {x mm tq bq mq sq s1 s2 s3 s4 s5 : Nat} {σ σ1 σ2 : Nat → Nat → Int} (hx : ty x = 1) (hm : ty mm = 10) (hn : zn ty σ x mm tq bq mq sq s1 s2 s3 s4 s5) (hD : zd_D ty σ bq 12) (hst : ∀ j : Nat, j < 400 → σ mq j = σ sq j) (hv : zvA σ bq s1 s2 s3 s4 s5) (hF1 : sv_ofx [(9, 0), (9, 1), (9, 4)] [40, 41] ty σ σ1) (hF2 : sv_ofx [] [102, 103, 104, 105, 106] ty σ1 σ2) {k w v1 v2 : Int} (g1 : zc_late σ σ1 bq k w v1) (g2 : zm_late σ1 σ2 s1 s2 k w v2) : v1 = v2 ∧ lz_R ty σ2 x mm := by
  by_cases ho : 0 ≤ k ∧ k ≤ 11
  rotate_left
  · obtain ⟨p1, p2⟩ := g1.1 ho
    obtain ⟨p3, p4⟩ := g2.1 ho
    refine ⟨p1.trans p3.symm, ?_⟩
    rw [p4, p2]
    exact ⟨tq, bq, mq, sq, s1, s2, s3, s4, s5, hn, hD, hst, hv⟩
  obtain ⟨k0, rfl⟩ : ∃ k0 : Nat, k = (k0 : Int) := ⟨k.toNat, by omega⟩
  obtain ⟨P, c, r, d1, d2, d3, d4, d5, d6⟩ := hD.1 k0 (by omega)
  have tk : ((k0 : Int)).toNat = k0 := by omega
  obtain ⟨y1, y2, y3⟩ := hv k0 (by omega) P c r d1 d3 d5
  obtain ⟨-, -, ⟨-, k3⟩, ⟨-, k4⟩, ⟨-, k5⟩, ⟨-, k6⟩, ⟨-, k7⟩, ⟨-, k8⟩, -, k9⟩ := id hn
  have e5 : ∀ j, σ1 s1 j = σ s1 j := fun j => hF1.atA k5 (by decide) (by decide)
  have e6 : ∀ j, σ1 s2 j = σ s2 j := fun j => hF1.atA k6 (by decide) (by decide)
  have f1 := g1.2 P _ _ ho (by rw [tk]; exact d1) rfl rfl
  have f2 := g2.2 _ _ ho rfl rfl
  rw [tk, e5, e6, ← y2] at f2
  by_cases h1 : σ P 0 < 1
  · obtain ⟨p1, p2⟩ := f1.1 (Or.inl h1)
    obtain ⟨p3, p4⟩ := f2.1 (Or.inl h1)
    refine ⟨p1.trans p3.symm, ?_⟩
    rw [p4, p2]
    exact ⟨tq, bq, mq, sq, s1, s2, s3, s4, s5, hn, hD, hst, hv⟩
  obtain ⟨⟨u1, u2⟩, u3⟩ := y3 (by omega)
  rw [← u1] at f2
  by_cases hb : ¬ (1 ≤ w ∧ w ≤ 300) ∨ 1440 < σ P 1 + w
  · obtain ⟨p1, p2⟩ := f1.1 (Or.inr hb)
    obtain ⟨p3, p4⟩ := f2.1 (Or.inr hb)
    refine ⟨p1.trans p3.symm, ?_⟩
    rw [p4, p2]
    exact ⟨tq, bq, mq, sq, s1, s2, s3, s4, s5, hn, hD, hst, hv⟩
  obtain ⟨p1, E1⟩ := f1.2 (by omega) (by omega) (by omega)
  obtain ⟨p3, p4⟩ := f2.2 (by omega) (by omega) (by omega)
  refine ⟨p1.trans p3.symm, ?_⟩
  refine lz_two hx hm hn hD hst hv hF1 hF2 (by omega) d1 d2 d3 d4 d5 d6 (fun q hq hne j => ?_) (fun q hq hne j => ?_) (fun q hq hne j => ?_) (fun j hj => ?_) (fun j hj => ?_) (fun j hj => ?_) (fun k i hk hi => ?_) (fun k i hk hi => ?_) ⟨?_, ?_, fun _ => ⟨⟨?_, ?_⟩, fun i hi => ?_⟩⟩
  · rw [E1, sv_up_a hne]
  · rw [E1, sv_up_a (sv_ne hq d2 (by decide))]
  · rw [E1, sv_up_a (sv_ne hq d2 (by decide))]
  · rw [p4, sv_up_a (sv_ne k5 k6 (by decide))]
  · rw [p4, sv_up_k hj]
  · rw [p4, sv_up_a (sv_ne k7 k6 (by decide))]
  · rw [p4, sv_up_a (sv_ne k8 k6 (by decide))]
  · rw [p4, sv_up_a (sv_ne k9 k6 (by decide))]
  · rw [E1, sv_up_k (by decide)]; exact y1
  · rw [E1, sv_up_k (by decide), p4, sv_up_a (sv_ne k5 k6 (by decide)), e5]; exact y2
  · rw [p4, sv_up_s, E1, sv_up_s]
  · rw [p4, sv_up_a (sv_ne k7 k6 (by decide)), E1, sv_up_k (by decide), ← E1, u2]
    exact (hF1.atA k7 (by decide) (by decide)).symm
  · have hi' : (i : Int) < σ P 0 := by rw [E1, sv_up_k (by decide)] at hi; exact hi
    have rc : σ1 c i = σ c i := by rw [E1, sv_up_a (sv_ne d4 d2 (by decide))]
    have rr : ∀ h, σ1 r h = σ r h := fun h => by rw [E1, sv_up_a (sv_ne d6 d2 (by decide))]
    have x4 : σ2 s4 (12 * k0 + i) = σ s4 (12 * k0 + i) := by rw [p4, sv_up_a (sv_ne k8 k6 (by decide))]; exact hF1.atA k8 (by decide) (by decide)
    have x5 : σ2 s5 (12 * k0 + i) = σ s5 (12 * k0 + i) := by rw [p4, sv_up_a (sv_ne k9 k6 (by decide))]; exact hF1.atA k9 (by decide) (by decide)
    obtain ⟨q1, q2, q3, q4, q5⟩ := u3 i hi'
    exact ⟨by rw [rc, x4]; exact q1, by rw [rr, x5]; exact q2, by rw [rr]; exact q3, by rw [rr]; exact q4, fun h hh => by rw [rr h, rr i]; exact q5 h hh⟩
theorem zt_cg {z B E B' E' : Int} {cf hf cf' hf' : Nat → Int} {q : Int} (hB : B = B') (hE : E = E') (hc : ∀ i : Nat, (i : Int) < z → cf i = cf' i) (hh : ∀ i : Nat, (i : Int) < z → hf i = hf' i) : zt z B E cf hf q = zt z B' E' cf' hf' q := by
  have h2 : zt2 z cf hf q = zt2 z cf' hf' q := by
    unfold zt2
    by_cases h1 : 10 ≤ q ∧ q - 10 < z
    · rw [if_pos h1, if_pos h1]; exact hc _ (by omega)
    · rw [if_neg h1, if_neg h1]
      by_cases h3 : 30 ≤ q ∧ q - 30 < z
      · rw [if_pos h3, if_pos h3]; exact hh _ (by omega)
      · rw [if_neg h3, if_neg h3]
  unfold zt
  rw [hB, hE, h2]
theorem lz_tell {ty : Nat → Nat} {x mm tq bq mq sq s1 s2 s3 s4 s5 : Nat} {σ : Nat → Nat → Int} (hI : sv_inv sp_1 ty σ) (hn : zn ty σ x mm tq bq mq sq s1 s2 s3 s4 s5) (hD : zd_D ty σ bq 12) (hv : zvA σ bq s1 s2 s3 s4 s5) {k q v1 v2 : Int} (g1 : zc_tell σ bq k q v1) (g2 : zm_tell σ s1 s2 s3 s4 s5 k q v2) : v1 = v2 := by
  by_cases ho : 0 ≤ k ∧ k ≤ 11
  rotate_left
  · rw [g1.1 ho, g2.1 ho]
  obtain ⟨k0, rfl⟩ : ∃ k0 : Nat, k = (k0 : Int) := ⟨k.toNat, by omega⟩
  obtain ⟨P, c, r, d1, d2, d3, d4, d5, d6⟩ := hD.1 k0 (by omega)
  have tk : ((k0 : Int)).toNat = k0 := by omega
  obtain ⟨y1, y2, y3⟩ := hv k0 (by omega) P c r d1 d3 d5
  have f1 := g1.2 P c r _ _ _ ho (by rw [tk]; exact d1) d3 d5 rfl rfl rfl
  have f2 := g2.2 _ _ _ ho rfl rfl rfl
  rw [tk, ← y2] at f2
  by_cases h1 : σ P 0 < 1
  · rw [f1.1 h1, f2.1 h1]
  obtain ⟨⟨u1, u2⟩, u3⟩ := y3 (by omega)
  rw [← u1, ← u2] at f2
  rw [f1.2 (by omega), f2.2 (by omega)]
  have hB := hI.num (k := 1) d2 rfl
  have hT := hI.num (k := 4) d2 rfl
  refine zt_cg rfl ?_ (fun i hi => ?_) (fun i hi => ?_)
  · obtain ⟨w1, w2, w3, w4, w5⟩ := u3 (σ P 0 - 1).toNat (by omega)
    rw [show (12 * (k0 : Int) + (σ P 0 - 1)).toNat = 12 * k0 + (σ P 0 - 1).toNat by omega, ← w2, zw_id (x := σ P 1 + σ r (σ P 0 - 1).toNat) ⟨by omega, by omega⟩]
  · show σ c i = σ s4 (12 * (k0 : Int) + (i : Int)).toNat
    rw [show (12 * (k0 : Int) + (i : Int)).toNat = 12 * k0 + i by omega]
    exact (u3 i hi).1
  · show zw (σ P 1 + σ r i) = zw (σ P 1 + σ s5 (12 * (k0 : Int) + (i : Int)).toNat)
    rw [show (12 * (k0 : Int) + (i : Int)).toNat = 12 * k0 + i by omega, (u3 i hi).2.1]
theorem lz_init {ty : Nat → Nat} {σ : Nat → Nat → Int} {x mm : Nat} (hm : ty mm = 10) (hI : sv_inv sp_1 ty σ) (hZ : sv_inv sp_0 ty σ) {t0 : Nat → Nat} {σ0 : Nat → Nat → Int} (h9 : ty x = 1 ∧ zd_9 x t0 σ0 ty σ) : lz_R ty σ x mm := by
  obtain ⟨hx, tq, bq, b1, k1, b2, k2, hD⟩ := h9
  obtain ⟨mq, b3, k3⟩ := hI.ref (k := 2) k1 rfl
  obtain ⟨sq, b4, k4⟩ := hI.ref (k := 41) hm rfl
  obtain ⟨s1, b5, k5⟩ := hI.ref (k := 42) hm rfl
  obtain ⟨s2, b6, k6⟩ := hI.ref (k := 43) hm rfl
  obtain ⟨s3, b7, k7⟩ := hI.ref (k := 44) hm rfl
  obtain ⟨s4, b8, k8⟩ := hI.ref (k := 45) hm rfl
  obtain ⟨s5, b9, k9⟩ := hI.ref (k := 46) hm rfl
  refine ⟨tq, bq, mq, sq, s1, s2, s3, s4, s5, ⟨⟨b1, k1⟩, ⟨b2, k2⟩, ⟨b3, k3⟩, ⟨b4, k4⟩, ⟨b5, k5⟩, ⟨b6, k6⟩, ⟨b7, k7⟩, ⟨b8, k8⟩, b9, k9⟩, hD, fun j hj => ?_, fun k hk P c r e1 e2 e3 => ?_⟩
  · have h2 := hZ.num (k := j) k3 rfl
    have h3 := hZ.num (k := j) k4 rfl
    omega
  · obtain ⟨P', -, -, p1, p2, -⟩ := hD.1 k hk
    have tP : P' = P := by omega
    subst tP
    have h2 := hZ.num (k := 0) p2 rfl
    have h3 := hZ.num (k := k) k5 rfl
    exact ⟨⟨by omega, by omega⟩, by omega, fun h => absurd h (by omega)⟩
theorem sv_mk2 {A : Nat → Prop} {ty ty' : Nat → Nat} {σ σ' : Nat → Nat → Int} {q K : Nat} (hq : ty q = 0) (hp : sv_po A q K (sv_upt ty q K) (sv_zr σ q) ty' σ') : ∀ x, ty x ≠ 0 → ty' x = ty x ∧ σ' x = σ x := by
  obtain ⟨⟨c1, c2, c3, c4, c5⟩, d1, d2⟩ := hp
  intro x hx
  have e : x ≠ q := fun e => hx (by rw [e]; exact hq)
  have h1 := c1 x (by rw [sv_upt_n e]; exact hx)
  refine ⟨by rw [h1, sv_upt_n e], ?_⟩
  rw [c2 x (by rw [sv_upt_n e]; exact hx) e, sv_zr_n e]
theorem zd9_mv {ty ty' t0 : Nat → Nat} {σ σ' σ0 : Nat → Nat → Int} {x : Nat} (h : ∀ y, ty y ≠ 0 → ty' y = ty y ∧ σ' y = σ y) (hx : ty x = 1) (h9 : zd_9 x t0 σ0 ty σ) : ty' x = 1 ∧ zd_9 x t0 σ0 ty' σ' := by
  obtain ⟨tq, bq, b1, k1, b2, k2, hD⟩ := h9
  have hX := h x (by rw [hx]; decide)
  have hT := h tq (by rw [k1]; decide)
  have hB := h bq (by rw [k2]; decide)
  exact ⟨by rw [hX.1]; exact hx, tq, bq, by rw [hX.2]; exact b1, by rw [hT.1]; exact k1, by rw [hT.2]; exact b2, by rw [hB.1]; exact k2, zd_kp h k2 hD⟩
theorem lz_out {p : Program} {l : Launch} {e : Env} {s : State} {m : MethodId} {below : List Frame} {meth : Method} {c : Code} {g : sv_G} {A : Nat → Prop} {b L : Nat} {xs : Nat → Int32} {cells slots : Nat} {Hp : Heap → Prop} {lv : sv_L} (T : lz_K p s m meth c g A b L xs) (hc : cells ≤ 601024) (hs : slots ≤ 7293033) : lz_V p l e s m below meth c b A cells slots Hp 1199 lv [] := by
  obtain ⟨C, hX, hbl, hbA, hAs, hr⟩ := T
  refine sv_go C.1 C.2.1 [(.iconst 1, 1)] (pc' := 1200) (by decide +kernel) rfl (lv' := lv) (st' := [sv_i 1]) rfl ?_
  intro H locs ls hH hS hl
  refine W.widen hc hs (va_forget (fun q hq => hAs _ (hS.2.2 q hq)) ?_)
  exact lw_ret C.1 C.2.1 hr C.2.2.2.2.2.2 (by decide +kernel)
