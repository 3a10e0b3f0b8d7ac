/-! THE CLAIM OUT OF ONE WALK OF THE LAW'S BODY. Your part is whole_start (and what it stands on); all else here is the same for every law, but numbers. -/
def R_law : String := "SaintsRoadLaw"
def lw_P (b : Addr) (xs : List Int32) (args : Array Value) (s : State) : Prop := args = #[.ref b] ∧ s.IntsAt b xs ∧ xs.length ≤ 3072 ∧ (Jvm.Cond.and given_1 narrow_1).before args s = true
def lw_Q (_ : Array Value) (s : State) (o : Outcome) (t : State) : Prop := o = .returned (some (.int 1)) ∧ Framed s o t [] 601024 7293033
def lw_Z (below : List Frame) (a : Array Value) (s : State) : State → Prop := fun t => ∃ o, t.status = .running ∧ Ended t below o ∧ lw_Q a s o t
/-- the law's own end, with 1 on the stack, nothing written that was there before, its room as the claim has it -/
theorem lw_ret {p : Program} {l : Launch} {e : Env} {s : State} {m : MethodId} {below : List Frame} {meth : Method} {c : Code} {b : Nat} (hx : p.tables.exec = Jvm.exec) (hb : c.code = code) (hr : meth.sig.returnType = ret) (hlocks : meth.locks = false) {pc : Nat} {H : Heap} {ls : Array Slot} (hdg : decode code pc = .ok (.ireturn, 1)) : W p l e room_1 s m #[Value.ref b] below meth c H [] 601024 7293033 (lw_Z below #[Value.ref b] s) (F0 m pc ls [.int 1]) := by
  intro T hT X
  obtain ⟨fs, hret, hrun, hended, hW, hframe⟩ := X.leave (v := some (.int 1)) (hlocks := hlocks) (fun h => by rw [hr] at h; cases h)
  have hmeth' : T.vm.method? m = some meth := X.method'
  refine ⟨T.setFrames fs, ?_, .returned (some (.int 1)), hrun, hended, rfl, ⟨_, rfl⟩, hW, hframe⟩
  jvm_step X.here [X.here.top, hx, hb, hdg, hmeth', hr, ret, narrow_b1]
  (try refine ⟨rfl, ?_⟩); (try refine ⟨rfl, ?_⟩)
  first | (intro acts; rw [hret _ acts rfl rfl rfl]) | rw [hret _ _ rfl rfl rfl]
  exact Steps.refl _
/-- what holds at the law's entry: the machine, the code, the tables' words (any of lw_tbl by 'hts w (by decide +kernel)'), the script of L ints xs at the cell b, what the Statement gives of the start (any of its parts by flat_of_before) -/
def lw_At (p : Program) (s : State) (m : MethodId) (meth : Method) (c : Code) (b L : Nat) (xs : Nat → Int32) : Prop :=
  p.tables.exec = Jvm.exec ∧ c.code = code ∧ meth.sig.returnType = ret ∧ c.maxLocals = 4 ∧ s.vm.findClass R_law = some m.cls ∧ (∀ w ∈ lw_tbl, w.before #[Value.ref b] s = true) ∧ va_X b L xs s s.heap ∧ b < s.heap.size ∧ meth.locks = false ∧ (Jvm.Cond.and given_1 narrow_1).before #[Value.ref b] s = true
/-! the law's rows -/
section SVCW
variable {p : Program} {l : Launch} {e : Env} {R : Room} {s : State} {m : MethodId} {args : Array Value} {below : List Frame} {meth : Method} {c : Code} {T : State} {locs : List Loc} {cells slots : Nat} {Q : State → Prop}
theorem sv_callVW (X : Stand p l e R s m args below meth c T locs cells slots) (hexec : p.tables.exec = Jvm.exec) {own C : String} {index : Nat} {y : MethodName} {bytes : ByteArray} {maxL : Nat} {ret : Option FieldType} {hh : List (Nat × Nat × Nat × Nat)}
    (hown : s.vm.findClass own = some m.cls) (hlink : (Cond.methodLink own index y).before args s = true) (hinst : (Cond.instanceMethod y).before args s = true) (hsel : (Cond.selects C y y).before args s = true)
    (hcode : (Cond.codeWith y bytes maxL ret hh).before args s = true) (hy : y.cls ≠ "java/lang/invoke/MethodHandle" ∧ y.cls ≠ "java/lang/invoke/VarHandle")
    {W : Nat} {Pre : Pt → Array Value → Prop} {Post : Pt → Array Value → Option Value → Pt → Prop} (hK : Back l R p e below s args y 3 W Pre Post)
    {b : Addr} {cellB : Cell} (hcell : T.heap[b]? = some cellB) (hobj : cellB.vm.isStatics = false) (hcls : s.vm.findClass C = some cellB.cls)
    {g : JFrame} (hg : g.method = m) (hsize : g.locals.size = c.maxLocals) {argsL rest : List Value} (hlen : ∀ sig, parseMethodDescriptor y.desc = some sig → argsL.length = sig.parameters.length)
    (hstack : g.stack = argsL.reverse ++ .ref b :: rest) (hW : 2 * g.monitorRoom + (rest.map fun v => v.category).sum ≤ W) (hdg : decode c.code g.pc = .ok (.invokevirtual index, 3))
    (hpre : ∀ vm₁, s.WarmedH vm₁ → Pre ⟨T.setVm vm₁, locs, cells, slots⟩ (Value.ref b :: argsL).toArray) :
    ∃ (v : Option Value) (vm₁ : Vm) (B : Pt), s.WarmedH vm₁ ∧ Stand p l e R s m args below meth c B.U B.locs B.cells B.slots ∧ Post ⟨T.setVm vm₁, locs, cells, slots⟩ (Value.ref b :: argsL).toArray v B ∧
      ∀ target, Steps p.tables e below (B.U.setTop { g with pc := g.pc + 3, stack := v.toList ++ rest }) target → Steps p.tables e below (T.setTop g) target := by
  obtain ⟨mk, methM, hnamed, hmethM, hstM, habM⟩ := Cond.instanceMethod_spec hinst
  obtain ⟨m9, methM', cM, hn9, hmethM', -, -, -, -, -, -, hsigM⟩ := Cond.codeWith_spec hcode
  cases hnamed.symm.trans hn9
  cases hmethM.symm.trans hmethM'
  obtain ⟨c2, r2, m2, q1, q2, q3, q4, kP, hkP, hkPi⟩ := Cond.selects_spec hsel
  cases hcls.symm.trans q1
  cases (State.methodFound?_of_named hnamed hy).symm.trans q2
  cases hnamed.symm.trans q3
  have hselP : selectMethod e.platform s.vm cellB.cls mk = .method mk := by rw [Launch.admits_selectMethod X.admits]; exact q4
  obtain ⟨vm₁, X₁, hstep₁⟩ := X.invokevirtual hexec hown hlink hnamed hmethM hstM hkP hkPi hy (a := b) (cell := cellB) hcell
    (fun z h => by rw [h] at hobj; cases hobj) hselP hmethM habM hkP hkPi (g := g) hg (argsL := argsL) (rest := rest) (hlen _ hsigM) hstack hdg
  obtain ⟨v, B, X', hpost, hsteps⟩ := hK m meth c ⟨T.setVm vm₁, locs, cells, slots⟩ { g with stack := rest } (.invokevirtual index) mk (Value.ref b :: argsL).toArray X₁ hg hsize hdg hW (X₁.named hnamed) (hpre vm₁ X₁.warmed)
  exact ⟨v, vm₁, B, X₁.warmed, X', hpost, fun target h => hstep₁ _ fun acts => by rw [doInvoke_state]; exact hsteps.trans h⟩
variable {cc : ByteArray} {pc nL : Nat} {A : Nat → Prop} {lv lv' : sv_L} {st st' rest : List sv_T} {g : sv_G} {own : String} {ty : Nat → Nat} {σ : Nat → Nat → Int}
theorem sv_cvW (C : sv_C g A own cc nL p s m args meth c) {y : MethodName} {bytes : ByteArray} {n : Nat} {ret : Option FieldType} {hh : List (Nat × Nat × Nat × Nat)} {fr lo k index a ci : Nat} {r : vw_C} {as : List sv_T} {po' : List sv_T → (Nat → Nat → Int) → Prop} (hd : decode cc pc = .ok (.invokevirtual index, 3)) (hM : sv_MW l y bytes n ret hh { frames := fr, cells := 0, slots := 0, locals := lo } g A ty σ (sv_r a :: as) po')
    (hco : Cond.codeWith y bytes n ret hh ∈ lw_good) (hini : Cond.initialized y.cls ∈ lw_good) (hnm : y.cls ≠ "java/lang/invoke/MethodHandle" ∧ y.cls ≠ "java/lang/invoke/VarHandle" ∧ (parseMethodDescriptor y.desc).map (fun d => d.parameters.length) = some k) (hfr : fr + 1 ≤ R.frames) (hlo : 8 + (n + 11) + lo ≤ R.locals)
    (hl : Cond.methodLink own index y ∈ lw_good) (hi : Cond.instanceMethod y ∈ lw_good) (hs : Cond.selects r.1 y y ∈ lw_good) (hk : sv_kT (ty a) = some (.inl ci)) (hr : vwCl[ci]? = some r) (hn : as.length = k) (hst : st = as.reverse ++ sv_r a :: rest) (hrm : (rest.map fun v => (sv_den v).category).sum ≤ 8) (hcs : cells ≤ R.cells ∧ slots ≤ R.slots)
    (kk : ∀ (r : List sv_T) (σ' : Nat → Nat → Int), po' r σ' → sv_ok ty σ' → sv_V p l e R s m args below meth c nL A cells slots Q (sv_H g ty σ') (pc + 3) lv (r ++ rest)) : sv_V p l e R s m args below meth c nL A cells slots Q (sv_H g ty σ) pc lv st := by
  intro H locs ls hH hS hll
  subst hst
  have hts := C.2.2.2.2.1
  refine sv_cont (mc0 := 0) (pc0 := 0) (po' := po') (av := (Value.ref a :: as.map sv_den).toArray) ?_ hS hll kk
  have hK : Back l R p e below s args y 3 8 (PreOf R 0 0 (sv_P g A ty σ (sv_r a :: as))) (PostOf (sv_Q g A ty po') 0 0 A) :=
    va_backW (hh := hh) (bytes := bytes) (maxL := n) (ret := ret) hM sv_Pblind rfl rfl hfr hlo (pay_in hts (sv_goodIn hco)) List.mem_cons_self (fun a' U hW => word_at hW (Or.inl (by first | rfl | simp [Cond.onTables, Cond.keeps, Cond.steady])) (hts _ hini))
  obtain ⟨cellB, hcB, hoB, hclB⟩ := sv_rcv C hH hk hr
  intro T hT X
  obtain ⟨v, vm₁, ⟨U', l2, c2, s2⟩, hW₁, X', ⟨g', mk, t, L, e1, e2, hq, h1, hL, h2, h3⟩, stp⟩ := sv_callVW X C.1 (C := r.1) (bytes := bytes) (maxL := n) (ret := ret) (hh := hh) C.2.2.2.1 (hts _ hl) (hts _ hi) (hts _ hs) (hts _ hco) ⟨hnm.1, hnm.2.1⟩ hK (by rw [hT]; exact hcB) hoB hclB (g := F0 m pc ls ((as.reverse ++ sv_r a :: rest).map sv_den)) rfl (hll.1.trans C.2.2.1.symm) (argsL := as.map sv_den) (rest := rest.map sv_den)
    (fun sig h => by rw [List.length_map, hn]; have h2 := hnm.2.2; rw [h] at h2; exact (Option.some.inj h2).symm) (by simp [sv_den_r]) (sv_room hrm) (by rw [C.2.1]; exact hd)
    (fun vm₁ hW₁ => ⟨hcs.1, hcs.2, sv_Pat (av := sv_r a :: as) C.2.2.2.2.2.1 hH hS (T.setVm vm₁) hT hW₁⟩)
  dsimp only [Pt.U, Pt.locs, Pt.cells, Pt.slots] at X' e1 e2 h1 h2 h3 stp
  subst h1; subst h2; subst h3
  exact ⟨v, (T.setVm vm₁).calling g' mk (Value.ref a :: as.map sv_den).toArray, t, U', L, hT, X', hL, e1, e2, hq, stp⟩
end SVCW
section LZR
variable {p : Program} {l : Launch} {e : Env} {R : Room} {s : State} {m : MethodId} {args : Array Value} {below : List Frame} {meth : Method} {c : Code} {cells slots : Nat} {Q : State → Prop}
variable {cc : ByteArray} {pc nL : Nat} {Hp : Heap → Prop} {A : Nat → Prop} {lv lv' : sv_L} {st st' rest : List sv_T} {g : sv_G} {own : String} {b L : Nat} {xs : Nat → Int32}
theorem sv_sld (C : sv_C g A own cc nL p s m args meth c) (hX : va_X b L xs s s.heap) (hbl : b < s.heap.size) (hbA : ¬ A b) (hL : L < 1000000) {i : Int} {j : Nat} (hd : decode cc pc = .ok (.iaload, 1)) (hi : i = (j : Int)) (hj : j < L)
    (kk : sv_V p l e R s m args below meth c nL A cells slots Q Hp (pc + 1) lv (sv_i (xs j).toInt :: rest)) : sv_V p l e R s m args below meth c nL A cells slots Q Hp pc lv (.inl i :: sv_r b :: rest) := by
  intro H locs ls hH hS hl
  subst hi
  obtain ⟨e1, e2⟩ := sv_idx (i := (j : Int)) (n := L) (by omega) (by omega) (by omega)
  refine va_sld C.1 C.2.1 hX hbl hbA hS e1 hd ?_
  rw [e2, Int.toNat_natCast, ← sv_io (xs j)]
  exact kk H locs ls hH hS hl
theorem sv_sln (C : sv_C g A own cc nL p s m args meth c) (hX : va_X b L xs s s.heap) (hbl : b < s.heap.size) (hbA : ¬ A b) (hd : decode cc pc = .ok (.arraylength, 1))
    (kk : sv_V p l e R s m args below meth c nL A cells slots Q Hp (pc + 1) lv (sv_i (L : Int) :: rest)) : sv_V p l e R s m args below meth c nL A cells slots Q Hp pc lv (sv_r b :: rest) := by
  intro H locs ls hH hS hl
  exact va_slen C.1 C.2.1 hX hbl hbA hS hd (kk H locs ls hH hS hl)
theorem sv_icS (hx : p.tables.exec = Jvm.exec) (hb : c.code = cc) {off : Int} {tgt : Nat} {z : Int} (hd : decode cc pc = .ok (.if_icmp .eq off, 3)) (ht : (pc : Int) + off = (tgt : Int))
    (kk : sv_V p l e R s m args below meth c nL A cells slots Q Hp tgt lv rest) : sv_V p l e R s m args below meth c nL A cells slots Q Hp pc lv (.inl z :: .inl z :: rest) :=
  fun H locs ls hH hS hl => lv_icmp_eq hx hb hd ht (fun _ => kk H locs ls hH hS hl) (fun h => absurd rfl h)
end LZR
abbrev lz_V (p : Program) (l : Launch) (e : Env) (s : State) (m : MethodId) (below : List Frame) (meth : Method) (c : Code) (b : Nat) (A : Nat → Prop) (cells slots : Nat) (Hp : Heap → Prop) (pc : Nat) (lv : sv_L) (st : List sv_T) : Prop :=
  sv_V p l e room_1 s m #[Value.ref b] below meth c 4 A cells slots (lw_Z below #[Value.ref b] s) Hp pc lv st
/-- what stands at the law's loop -/
def lz_K (p : Program) (s : State) (m : MethodId) (meth : Method) (c : Code) (g : sv_G) (A : Nat → Prop) (b L : Nat) (xs : Nat → Int32) : Prop :=
  sv_C g A R_law code 4 p s m #[Value.ref b] meth c ∧ va_X b L xs s s.heap ∧ b < s.heap.size ∧ ¬ A b ∧ (∀ q, A q → s.heap.size ≤ q) ∧ meth.sig.returnType = ret
/-- where the tables lie -/
def zn (ty : Nat → Nat) (σ : Nat → Nat → Int) (x mm tq bq mq sq s1 s2 s3 s4 s5 : Nat) : Prop := (σ x 4 = (tq : Int) + 1 ∧ ty tq = 6) ∧ (σ tq 0 = (bq : Int) + 1 ∧ ty bq = 37) ∧ (σ tq 2 = (mq : Int) + 1 ∧ ty mq = 38) ∧ (σ mm 41 = (sq : Int) + 1 ∧ ty sq = 101) ∧ (σ mm 42 = (s1 : Int) + 1 ∧ ty s1 = 102) ∧ (σ mm 43 = (s2 : Int) + 1 ∧ ty s2 = 103) ∧ (σ mm 44 = (s3 : Int) + 1 ∧ ty s3 = 104) ∧ (σ mm 45 = (s4 : Int) + 1 ∧ ty s4 = 105) ∧ (σ mm 46 = (s5 : Int) + 1 ∧ ty s5 = 106)
/-- a procession of the class (in σ) and the k-th of the reference (in τ) -/
def zv (σ τ : Nat → Nat → Int) (P c r s1 s2 s3 s4 s5 k : Nat) : Prop := (0 ≤ σ P 0 ∧ σ P 0 ≤ 12) ∧ σ P 0 = τ s1 k ∧ (1 ≤ σ P 0 → (σ P 1 = τ s2 k ∧ σ P 4 = τ s3 k) ∧ ∀ i : Nat, (i : Int) < σ P 0 → σ c i = τ s4 (12 * k + i) ∧ σ r i = τ s5 (12 * k + i) ∧ 0 ≤ σ r i ∧ σ r i ≤ 60 * (i : Int) ∧ ∀ h : Nat, h + 1 = i → σ r h ≤ σ r i)
def zvA (σ : Nat → Nat → Int) (bq s1 s2 s3 s4 s5 : Nat) : Prop := ∀ k : Nat, k < 12 → ∀ P c r : Nat, σ bq k = (P : Int) + 1 → σ P 2 = (c : Int) + 1 → σ P 3 = (r : Int) + 1 → zv σ σ P c r s1 s2 s3 s4 s5 k
/-- what ties class and reference -/
def lz_R (ty : Nat → Nat) (σ : Nat → Nat → Int) (x mm : Nat) : Prop := ∃ tq bq mq sq s1 s2 s3 s4 s5 : Nat, zn ty σ x mm tq bq mq sq s1 s2 s3 s4 s5 ∧ zd_D ty σ bq 12 ∧ (∀ j : Nat, j < 400 → σ mq j = σ sq j) ∧ zvA σ bq s1 s2 s3 s4 s5
def lz_S (A : Nat → Prop) (ty : Nat → Nat) (σ : Nat → Nat → Int) (x mm : Nat) : Prop := sv_ok ty σ ∧ (∀ q, ty q ≠ 0 → A q) ∧ sv_inv sp_1 ty σ ∧ ty x = 1 ∧ ty mm = 10 ∧ lz_R ty σ x mm
theorem zv_cg {σ σ' τ τ' : Nat → Nat → Int} {P c r s1 s2 s3 s4 s5 k : Nat} (e0 : σ' P 0 = σ P 0) (e1 : σ' P 1 = σ P 1) (e4 : σ' P 4 = σ P 4) (ec : ∀ j, σ' c j = σ c j) (er : ∀ j, σ' r j = σ r j) (h1 : τ' s1 k = τ s1 k) (h2 : τ' s2 k = τ s2 k) (h3 : τ' s3 k = τ s3 k) (h4 : ∀ i, i < 12 → τ' s4 (12 * k + i) = τ s4 (12 * k + i)) (h5 : ∀ i, i < 12 → τ' s5 (12 * k + i) = τ s5 (12 * k + i)) (h : zv σ τ P c r s1 s2 s3 s4 s5 k) : zv σ' τ' P c r s1 s2 s3 s4 s5 k := by
  obtain ⟨z1, z2, z3⟩ := h
  refine ⟨by rw [e0]; exact z1, by rw [e0, h1]; exact z2, fun hz => ?_⟩
  rw [e0] at hz
  obtain ⟨⟨y1, y2⟩, y3⟩ := z3 hz
  refine ⟨⟨by rw [e1, h2]; exact y1, by rw [e4, h3]; exact y2⟩, fun i hi => ?_⟩
  rw [e0] at hi
  obtain ⟨q1, q2, q3, q4, q5⟩ := y3 i hi
  exact ⟨by rw [ec, h4 i (by omega)]; exact q1, by rw [er, h5 i (by omega)]; exact q2, by rw [er]; exact q3, by rw [er]; exact q4, fun h hh => by rw [er h, er i]; exact q5 h hh⟩
theorem zn_of {ty : Nat → Nat} {x mm tq bq mq sq s1 s2 s3 s4 s5 : Nat} {σ σ' : Nat → Nat → Int} {W : List (Nat × Nat)} {L : List Nat} (hx : ty x = 1) (hm : ty mm = 10) (hF : sv_ofx W L ty σ σ') (h1 : ∀ K ∈ [1, 6, 10], K ∉ L) (h2 : ∀ q ∈ [(1, 4), (6, 0), (6, 2), (10, 41), (10, 42), (10, 43), (10, 44), (10, 45), (10, 46)], q ∉ W) (h : zn ty σ x mm tq bq mq sq s1 s2 s3 s4 s5) : zn ty σ' x mm tq bq mq sq s1 s2 s3 s4 s5 := by
  obtain ⟨⟨a1, k1⟩, ⟨a2, k2⟩, ⟨a3, k3⟩, ⟨a4, k4⟩, ⟨a5, k5⟩, ⟨a6, k6⟩, ⟨a7, k7⟩, ⟨a8, k8⟩, a9, k9⟩ := h
  have m1 := h1 1 (by decide)
  have m6 := h1 6 (by decide)
  have m10 := h1 10 (by decide)
  exact ⟨⟨by rw [hF.at hx m1 (h2 _ (by decide))]; exact a1, k1⟩, ⟨by rw [hF.at k1 m6 (h2 _ (by decide))]; exact a2, k2⟩, ⟨by rw [hF.at k1 m6 (h2 _ (by decide))]; exact a3, k3⟩, ⟨by rw [hF.at hm m10 (h2 _ (by decide))]; exact a4, k4⟩, ⟨by rw [hF.at hm m10 (h2 _ (by decide))]; exact a5, k5⟩, ⟨by rw [hF.at hm m10 (h2 _ (by decide))]; exact a6, k6⟩, ⟨by rw [hF.at hm m10 (h2 _ (by decide))]; exact a7, k7⟩, ⟨by rw [hF.at hm m10 (h2 _ (by decide))]; exact a8, k8⟩, by rw [hF.at hm m10 (h2 _ (by decide))]; exact a9, k9⟩
theorem lz_up {ty : Nat → Nat} {x mm tq bq mq sq s1 s2 s3 s4 s5 : Nat} {σ σ' : Nat → Nat → Int} {k0 P0 c0 r0 : Nat} (hn' : zn ty σ' x mm tq bq mq sq s1 s2 s3 s4 s5) (hD : zd_D ty σ bq 12) (hst : ∀ j : Nat, j < 400 → σ' mq j = σ' sq j) (hv : zvA σ bq s1 s2 s3 s4 s5) (hb : ∀ j, σ' bq j = σ bq j) (hf : ∀ q, ty q = 9 → σ' q 2 = σ q 2 ∧ σ' q 3 = σ q 3) (hk0 : k0 < 12) (a1 : σ bq k0 = (P0 : Int) + 1) (a2 : σ P0 2 = (c0 : Int) + 1) (a3 : σ P0 3 = (r0 : Int) + 1)
    (hP : ∀ q, ty q = 9 → q ≠ P0 → ∀ j, σ' q j = σ q j) (hc : ∀ q, ty q = 40 → q ≠ c0 → ∀ j, σ' q j = σ q j) (hr : ∀ q, ty q = 41 → q ≠ r0 → ∀ j, σ' q j = σ q j) (h1 : ∀ j, j ≠ k0 → σ' s1 j = σ s1 j) (h2 : ∀ j, j ≠ k0 → σ' s2 j = σ s2 j) (h3 : ∀ j, j ≠ k0 → σ' s3 j = σ s3 j) (h4 : ∀ k i, k ≠ k0 → i < 12 → σ' s4 (12 * k + i) = σ s4 (12 * k + i)) (h5 : ∀ k i, k ≠ k0 → i < 12 → σ' s5 (12 * k + i) = σ s5 (12 * k + i)) (hv0 : zv σ' σ' P0 c0 r0 s1 s2 s3 s4 s5 k0) : lz_R ty σ' x mm := by
  refine ⟨tq, bq, mq, sq, s1, s2, s3, s4, s5, hn', ⟨fun j hj => ?_, fun j k hj hk hjk P Q e1 e2 => ?_⟩, hst, fun k hk P c r e1 e2 e3 => ?_⟩
  · obtain ⟨P, c, r, p1, p2, p3, p4, p5, p6⟩ := hD.1 j hj
    exact ⟨P, c, r, by rw [hb]; exact p1, p2, by rw [(hf P p2).1]; exact p3, p4, by rw [(hf P p2).2]; exact p5, p6⟩
  · rw [hb] at e1 e2
    obtain ⟨P', _, _, p1, p2, -⟩ := hD.1 j hj
    obtain ⟨Q', _, _, q1, q2, -⟩ := hD.1 k hk
    have tP : P' = P := by omega
    have tQ : Q' = Q := by omega
    subst tP; subst tQ
    rw [(hf _ p2).1, (hf _ q2).1, (hf _ p2).2, (hf _ q2).2]
    exact hD.2 j k hj hk hjk _ _ e1 e2
  · rw [hb] at e1
    obtain ⟨P', c', r', p1, p2, p3, p4, p5, p6⟩ := hD.1 k hk
    have tP : P' = P := by omega
    subst tP
    rw [(hf _ p2).1] at e2
    rw [(hf _ p2).2] at e3
    have tc : c' = c := by omega
    have tr : r' = r := by omega
    subst tc; subst tr
    by_cases hk' : k = k0
    · rw [hk'] at p1 ⊢
      have t1 : P0 = P' := by omega
      subst t1
      have t2 : c0 = c' := by omega
      have t3 : r0 = r' := by omega
      subst t2; subst t3
      exact hv0
    · obtain ⟨n1, n2, n3⟩ := hD.2 k k0 hk hk0 hk' P' P0 p1 a1
      have nc : c' ≠ c0 := fun e => n2 (by rw [p3, a2, e])
      have nr : r' ≠ r0 := fun e => n3 (by rw [p5, a3, e])
      have e0 : ∀ j, σ' P' j = σ P' j := hP P' p2 n1
      exact zv_cg (e0 0) (e0 1) (e0 4) (hc c' p4 nc) (hr r' p6 nr) (h1 k hk') (h2 k hk') (h3 k hk') (fun i hi => h4 k i hk' hi) (fun i hi => h5 k i hk' hi) (hv k hk P' c' r' p1 p3 p5)
/-- calls that leave all this alone -/
theorem lz_keep0 {ty : Nat → Nat} {σ σ' : Nat → Nat → Int} {x mm : Nat} {W : List (Nat × Nat)} {L : List Nat} (hx : ty x = 1) (hm : ty mm = 10) (hF : sv_ofx W L ty σ σ') (h1 : ∀ K ∈ [1, 6, 10], K ∉ L) (h2 : ∀ q ∈ [(1, 4), (6, 0), (6, 2), (10, 41), (10, 42), (10, 43), (10, 44), (10, 45), (10, 46)], q ∉ W) (h3 : ∀ K ∈ [9, 37, 38, 40, 41, 101, 102, 104, 105, 106], K ∉ L) (h4 : ∀ K ∈ [9, 37, 38, 40, 41, 101, 102, 104, 105, 106], ∀ q ∈ W, q.1 ≠ K) (h5 : ∀ s2 : Nat, σ mm 43 = (s2 : Int) + 1 → ty s2 = 103 → ∀ j, σ' s2 j = σ s2 j) (h : lz_R ty σ x mm) : lz_R ty σ' x mm := by
  obtain ⟨tq, bq, mq, sq, s1, s2, s3, s4, s5, hn, hD, hst, hv⟩ := h
  have hn' := zn_of hx hm hF h1 h2 hn
  obtain ⟨⟨b1, k1⟩, ⟨b2, k2⟩, ⟨b3, k3⟩, ⟨b4, k4⟩, ⟨b5, k5⟩, ⟨b6, k6⟩, ⟨b7, k7⟩, ⟨b8, k8⟩, b9, k9⟩ := hn
  have E : ∀ K ∈ [9, 37, 38, 40, 41, 101, 102, 104, 105, 106], ∀ q, ty q = K → ∀ j, σ' q j = σ q j := fun K hK q hq j => hF.atA hq (h3 K hK) (h4 K hK)
  have e2 := h5 s2 b6 k6
  obtain ⟨P, c, r, p1, p2, p3, p4, p5, p6⟩ := hD.1 0 (by decide)
  have hP := E 9 (by decide)
  exact lz_up (k0 := 0) hn' hD (fun j hj => by rw [E 38 (by decide) mq k3, E 101 (by decide) sq k4]; exact hst j hj) hv (E 37 (by decide) bq k2) (fun q hq => ⟨hP q hq 2, hP q hq 3⟩) (by decide) p1 p3 p5 (fun q hq _ => hP q hq) (fun q hq _ => E 40 (by decide) q hq) (fun q hq _ => E 41 (by decide) q hq) (fun j _ => E 102 (by decide) s1 k5 j) (fun j _ => e2 j) (fun j _ => E 104 (by decide) s3 k7 j) (fun k i _ _ => E 105 (by decide) s4 k8 _) (fun k i _ _ => E 106 (by decide) s5 k9 _)
    (zv_cg (hP P p2 0) (hP P p2 1) (hP P p2 4) (E 40 (by decide) c p4) (E 41 (by decide) r p6) (E 102 (by decide) s1 k5 0) (e2 0) (E 104 (by decide) s3 k7 0) (fun i _ => E 105 (by decide) s4 k8 _) (fun i _ => E 106 (by decide) s5 k9 _) (hv 0 (by decide) P c r p1 p3 p5))
theorem lz_keep {ty : Nat → Nat} {σ σ' : Nat → Nat → Int} {x mm : Nat} {W : List (Nat × Nat)} {L : List Nat} (hx : ty x = 1) (hm : ty mm = 10) (hF : sv_ofx W L ty σ σ') (h1 : ∀ K ∈ [1, 6, 10], K ∉ L) (h2 : ∀ q ∈ [(1, 4), (6, 0), (6, 2), (10, 41), (10, 42), (10, 43), (10, 44), (10, 45), (10, 46)], q ∉ W) (h3 : ∀ K ∈ [9, 37, 38, 40, 41, 101, 102, 104, 105, 106], K ∉ L) (h4 : ∀ K ∈ [9, 37, 38, 40, 41, 101, 102, 104, 105, 106], ∀ q ∈ W, q.1 ≠ K) (h5 : 103 ∉ L) (h6 : ∀ q ∈ W, q.1 ≠ 103) (h : lz_R ty σ x mm) : lz_R ty σ' x mm := lz_keep0 hx hm hF h1 h2 h3 h4 (fun s2 _ k j => hF.atA k h5 h6) h
/-- streets: both tables change alike -/
theorem lz_str {ty : Nat → Nat} {σ σ1 σ2 : Nat → Nat → Int} {x mm tq bq mq sq s1 s2 s3 s4 s5 : Nat} {W : List (Nat × Nat)} {L : List Nat} (hx : ty x = 1) (hm : ty mm = 10) (hn : zn ty σ x mm tq bq mq sq s1 s2 s3 s4 s5) (hD : zd_D ty σ bq 12) (hst : ∀ j : Nat, j < 400 → σ mq j = σ sq j) (hv : zvA σ bq s1 s2 s3 s4 s5) (hF1 : sv_ofx W L ty σ σ1) (hF2 : sv_ofx [] [101] ty σ1 σ2) (h1 : ∀ K ∈ [1, 6, 10], K ∉ L) (h2 : ∀ q ∈ [(1, 4), (6, 0), (6, 2), (10, 41), (10, 42), (10, 43), (10, 44), (10, 45), (10, 46)], q ∉ W) (h3 : ∀ K ∈ [9, 37, 40, 41, 101, 102, 103, 104, 105, 106], K ∉ L) (h4 : ∀ K ∈ [9, 37, 38, 40, 41, 101, 102, 103, 104, 105, 106], ∀ q ∈ W, q.1 ≠ K) {a b m v1 v2 : Int} (g1 : fs_street σ σ1 mq a b m v1) (g2 : fs_street σ1 σ2 sq a b m v2) : v1 = v2 ∧ lz_R ty σ2 x mm := by
  have hn1 := zn_of hx hm hF1 h1 h2 hn
  have hn' := zn_of hx hm hF2 (by decide) (by decide) hn1
  obtain ⟨⟨b1, k1⟩, ⟨b2, k2⟩, ⟨b3, k3⟩, ⟨b4, k4⟩, ⟨b5, k5⟩, ⟨b6, k6⟩, ⟨b7, k7⟩, ⟨b8, k8⟩, b9, k9⟩ := hn
  have hs : ∀ j, σ1 sq j = σ sq j := fun j => hF1.atA k4 (h3 101 (by decide)) (h4 101 (by decide))
  have hq : ∀ j, σ2 mq j = σ1 mq j := fun j => hF2.atA k3 (by decide) (by decide)
  have key : v1 = v2 ∧ ∀ j : Nat, j < 400 → σ1 mq j = σ2 sq j := by
    by_cases ho : fs_ok a b m
    · obtain ⟨p1, p2⟩ := g1.1 ho
      obtain ⟨p3, p4⟩ := g2.1 ho
      unfold fs_ok at ho
      refine ⟨by rw [p1, p3, hs, hst _ (by omega)], fun j hj => ?_⟩
      rw [p2, p4, hs, hst j hj]
    · obtain ⟨p1, p2⟩ := g1.2 ho
      obtain ⟨p3, p4⟩ := g2.2 ho
      exact ⟨by rw [p1, p3], fun j hj => by rw [p2, p4, hs, hst j hj]⟩
  have E : ∀ K ∈ [9, 37, 40, 41, 102, 103, 104, 105, 106], ∀ q, ty q = K → ∀ j, σ2 q j = σ q j := fun K hK q hq j => by
    have hK1 : K ∈ [9, 37, 40, 41, 101, 102, 103, 104, 105, 106] := by revert K; decide
    have hK2 : K ∈ [9, 37, 38, 40, 41, 101, 102, 103, 104, 105, 106] := by revert K; decide
    have hK3 : K ∉ [101] := by revert K; decide
    rw [hF2.atA hq hK3 (fun q h => absurd h List.not_mem_nil)]
    exact hF1.atA hq (h3 K hK1) (h4 K hK2)
  refine ⟨key.1, ?_⟩
  obtain ⟨P, c, r, p1, p2, p3, p4, p5, p6⟩ := hD.1 0 (by decide)
  have hP := E 9 (by decide)
  exact lz_up (k0 := 0) hn' hD (fun j hj => by rw [hq]; exact key.2 j hj) hv (E 37 (by decide) bq k2) (fun q hq => ⟨hP q hq 2, hP q hq 3⟩) (by decide) p1 p3 p5 (fun q hq _ => hP q hq) (fun q hq _ => E 40 (by decide) q hq) (fun q hq _ => E 41 (by decide) q hq) (fun j _ => E 102 (by decide) s1 k5 j) (fun j _ => E 103 (by decide) s2 k6 j) (fun j _ => E 104 (by decide) s3 k7 j) (fun k i _ _ => E 105 (by decide) s4 k8 _) (fun k i _ _ => E 106 (by decide) s5 k9 _)
    (zv_cg (hP P p2 0) (hP P p2 1) (hP P p2 4) (E 40 (by decide) c p4) (E 41 (by decide) r p6) (E 102 (by decide) s1 k5 0) (E 103 (by decide) s2 k6 0) (E 104 (by decide) s3 k7 0) (fun i _ => E 105 (by decide) s4 k8 _) (fun i _ => E 106 (by decide) s5 k9 _) (hv 0 (by decide) P c r p1 p3 p5))
/-- one procession changes in both -/
theorem lz_two {ty : Nat → Nat} {x mm tq bq mq sq s1 s2 s3 s4 s5 : Nat} {σ σ1 σ2 : Nat → Nat → Int} {k0 P0 c0 r0 : Nat} (hx : ty x = 1) (hm : ty mm = 10) (hn : zn ty σ x mm tq bq mq sq s1 s2 s3 s4 s5) (hD : zd_D ty σ bq 12) (hst : ∀ j : Nat, j < 400 → σ mq j = σ sq j) (hv : zvA σ bq s1 s2 s3 s4 s5) (hF1 : sv_ofx [(9, 0), (9, 1), (9, 4)] [40, 41] ty σ σ1) (hF2 : sv_ofx [] [102, 103, 104, 105, 106] ty σ1 σ2) (hk0 : k0 < 12) (a1 : σ bq k0 = (P0 : Int) + 1) (kP : ty P0 = 9) (a2 : σ P0 2 = (c0 : Int) + 1) (kc : ty c0 = 40) (a3 : σ P0 3 = (r0 : Int) + 1) (kr : ty r0 = 41)
    (hP : ∀ q, ty q = 9 → q ≠ P0 → ∀ j, σ1 q j = σ q j) (hc : ∀ q, ty q = 40 → q ≠ c0 → ∀ j, σ1 q j = σ q j) (hr : ∀ q, ty q = 41 → q ≠ r0 → ∀ j, σ1 q j = σ q j) (h1 : ∀ j, j ≠ k0 → σ2 s1 j = σ1 s1 j) (h2 : ∀ j, j ≠ k0 → σ2 s2 j = σ1 s2 j) (h3 : ∀ j, j ≠ k0 → σ2 s3 j = σ1 s3 j) (h4 : ∀ k i, k ≠ k0 → i < 12 → σ2 s4 (12 * k + i) = σ1 s4 (12 * k + i)) (h5 : ∀ k i, k ≠ k0 → i < 12 → σ2 s5 (12 * k + i) = σ1 s5 (12 * k + i)) (hv0 : zv σ1 σ2 P0 c0 r0 s1 s2 s3 s4 s5 k0) : lz_R ty σ2 x mm := by
  have hn' := zn_of hx hm hF2 (by decide) (by decide) (zn_of hx hm hF1 (by decide) (by decide) hn)
  obtain ⟨⟨b1, k1⟩, ⟨b2, k2⟩, ⟨b3, k3⟩, ⟨b4, k4⟩, ⟨b5, k5⟩, ⟨b6, k6⟩, ⟨b7, k7⟩, ⟨b8, k8⟩, b9, k9⟩ := hn
  have E2 : ∀ K ∈ [9, 37, 38, 40, 41, 101], ∀ q, ty q = K → ∀ j, σ2 q j = σ1 q j := fun K hK q hq j => by
    have hK3 : K ∉ [102, 103, 104, 105, 106] := by revert K; decide
    exact hF2.atA hq hK3 (fun q h => absurd h List.not_mem_nil)
  have E1 : ∀ K ∈ [37, 38, 101, 102, 103, 104, 105, 106], ∀ q, ty q = K → ∀ j, σ1 q j = σ q j := fun K hK q hq j => by
    have hK3 : K ∉ [40, 41] := by revert K; decide
    have hK4 : ∀ q ∈ [(9, 0), (9, 1), (9, 4)], q.1 ≠ K := by revert K; decide
    exact hF1.atA hq hK3 hK4
  have e9 := E2 9 (by decide)
  exact lz_up hn' hD (fun j hj => by rw [E2 38 (by decide) mq k3, E1 38 (by decide) mq k3, E2 101 (by decide) sq k4, E1 101 (by decide) sq k4]; exact hst j hj) hv (fun j => by rw [E2 37 (by decide) bq k2, E1 37 (by decide) bq k2]) (fun q hq => ⟨by rw [e9 q hq]; exact hF1.at hq (by decide) (by decide), by rw [e9 q hq]; exact hF1.at hq (by decide) (by decide)⟩) hk0 a1 a2 a3
    (fun q hq hne j => by rw [e9 q hq]; exact hP q hq hne j) (fun q hq hne j => by rw [E2 40 (by decide) q hq]; exact hc q hq hne j) (fun q hq hne j => by rw [E2 41 (by decide) q hq]; exact hr q hq hne j) (fun j hj => by rw [h1 j hj]; exact E1 102 (by decide) s1 k5 j) (fun j hj => by rw [h2 j hj]; exact E1 103 (by decide) s2 k6 j) (fun j hj => by rw [h3 j hj]; exact E1 104 (by decide) s3 k7 j) (fun k i hk hi => by rw [h4 k i hk hi]; exact E1 105 (by decide) s4 k8 _) (fun k i hk hi => by rw [h5 k i hk hi]; exact E1 106 (by decide) s5 k9 _)
    (zv_cg (e9 P0 kP 0) (e9 P0 kP 1) (e9 P0 kP 4) (E2 40 (by decide) c0 kc) (E2 41 (by decide) r0 kr) rfl rfl rfl (fun _ _ => rfl) (fun _ _ => rfl) hv0)
theorem lz_begin {ty : Nat → Nat} {x mm tq bq mq sq s1 s2 s3 s4 s5 : Nat} {σ σ1 σ2 : Nat → Nat → Int} (hx : ty x = 1) (hm : ty mm = 10) (hn : zn ty σ x mm tq bq mq sq s1 s2 s3 s4 s5) (hD : zd_D ty σ bq 12) (hst : ∀ j : Nat, j < 400 → σ mq j = σ sq j) (hv : zvA σ bq s1 s2 s3 s4 s5) (hF1 : sv_ofx [(9, 0), (9, 1), (9, 4)] [40, 41] ty σ σ1) (hF2 : sv_ofx [] [102, 103, 104, 105, 106] ty σ1 σ2) {k v m t v1 v2 : Int} (g1 : zc_begin σ σ1 bq k v m t v1) (g2 : zm_begin σ1 σ2 s1 s2 s3 s4 s5 k v m t v2) : v1 = v2 ∧ lz_R ty σ2 x mm := by
  by_cases ho : zb_ok k v m t
  · obtain ⟨p1, p2⟩ := g1.2 ho
    obtain ⟨p3, p4⟩ := g2.2 ho
    refine ⟨p1.trans p3.symm, ?_⟩
    unfold zb_ok at ho
    obtain ⟨k0, rfl⟩ : ∃ k0 : Nat, k = (k0 : Int) := ⟨k.toNat, by omega⟩
    rw [show ((k0 : Int)).toNat = k0 by omega] at p2 p4
    rw [show (12 * (k0 : Int)).toNat = 12 * k0 by omega] at p4
    obtain ⟨P, c, r, d1, d2, d3, d4, d5, d6⟩ := hD.1 k0 (by omega)
    have E1 := p2 P c r d1 d3 d5
    have nPc : P ≠ c := sv_ne d2 d4 (by decide)
    have nPr : P ≠ r := sv_ne d2 d6 (by decide)
    have ncr : c ≠ r := sv_ne d4 d6 (by decide)
    obtain ⟨-, -, -, -, ⟨-, k5⟩, ⟨-, k6⟩, ⟨-, k7⟩, ⟨-, k8⟩, -, k9⟩ := id hn
    have n12 : s1 ≠ s2 := sv_ne k5 k6 (by decide)
    have n13 : s1 ≠ s3 := sv_ne k5 k7 (by decide)
    have n14 : s1 ≠ s4 := sv_ne k5 k8 (by decide)
    have n15 : s1 ≠ s5 := sv_ne k5 k9 (by decide)
    have n23 : s2 ≠ s3 := sv_ne k6 k7 (by decide)
    have n24 : s2 ≠ s4 := sv_ne k6 k8 (by decide)
    have n25 : s2 ≠ s5 := sv_ne k6 k9 (by decide)
    have n34 : s3 ≠ s4 := sv_ne k7 k8 (by decide)
    have n35 : s3 ≠ s5 := sv_ne k7 k9 (by decide)
    have n45 : s4 ≠ s5 := sv_ne k8 k9 (by decide)
    refine lz_two hx hm hn hD hst hv hF1 hF2 (by omega) d1 d2 d3 d4 d5 d6 (fun q hq hne j => ?_) (fun q hq hne j => ?_) (fun q hq hne j => ?_) (fun j hj => ?_) (fun j hj => ?_) (fun j hj => ?_) (fun k i hk hi => ?_) (fun k i hk hi => ?_) ⟨?_, ?_, fun _ => ⟨⟨?_, ?_⟩, fun i hi => ?_⟩⟩
    · rw [E1, sv_up_a hne, sv_up_a hne, sv_up_a (sv_ne hq d6 (by decide)), sv_up_a (sv_ne hq d4 (by decide)), sv_up_a hne]
    · rw [E1, sv_up_a (sv_ne hq d2 (by decide)), sv_up_a (sv_ne hq d2 (by decide)), sv_up_a (sv_ne hq d6 (by decide)), sv_up_a hne, sv_up_a (sv_ne hq d2 (by decide))]
    · rw [E1, sv_up_a (sv_ne hq d2 (by decide)), sv_up_a (sv_ne hq d2 (by decide)), sv_up_a hne, sv_up_a (sv_ne hq d4 (by decide)), sv_up_a (sv_ne hq d2 (by decide))]
    · rw [p4, sv_up_a n15, sv_up_a n14, sv_up_a n13, sv_up_a n12, sv_up_k hj]
    · rw [p4, sv_up_a n25, sv_up_a n24, sv_up_a n23, sv_up_k hj, sv_up_a n12.symm]
    · rw [p4, sv_up_a n35, sv_up_a n34, sv_up_k hj, sv_up_a n23.symm, sv_up_a n13.symm]
    · rw [p4, sv_up_a n45, sv_up_k (by omega), sv_up_a n34.symm, sv_up_a n24.symm, sv_up_a n14.symm]
    · rw [p4, sv_up_k (by omega), sv_up_a n45.symm, sv_up_a n35.symm, sv_up_a n25.symm, sv_up_a n15.symm]
    · rw [E1, sv_up_k (by decide), sv_up_k (by decide), sv_up_a nPr, sv_up_a nPc, sv_up_s]; decide
    · rw [E1, sv_up_k (by decide), sv_up_k (by decide), sv_up_a nPr, sv_up_a nPc, sv_up_s, p4, sv_up_a n15, sv_up_a n14, sv_up_a n13, sv_up_a n12, sv_up_s]
    · rw [E1, sv_up_k (by decide), sv_up_s, p4, sv_up_a n25, sv_up_a n24, sv_up_a n23, sv_up_s]
    · rw [E1, sv_up_s, p4, sv_up_a n35, sv_up_a n34, sv_up_s]
    · rw [E1, sv_up_k (by decide), sv_up_k (by decide), sv_up_a nPr, sv_up_a nPc, sv_up_s] at hi
      have i0 : i = 0 := by omega
      subst i0
      have r0 : σ1 r 0 = 0 := by rw [E1, sv_up_a nPr.symm, sv_up_a nPr.symm, sv_up_s]
      refine ⟨?_, ?_, by omega, by omega, fun h hh => absurd hh (by omega)⟩
      · rw [Nat.add_zero, E1, sv_up_a nPc.symm, sv_up_a nPc.symm, sv_up_a ncr, sv_up_s, p4, sv_up_a n45, sv_up_s]
      · rw [Nat.add_zero, r0, p4, sv_up_s]
  · obtain ⟨p1, p2⟩ := g1.1 ho
    obtain ⟨p3, p4⟩ := g2.1 ho
    refine ⟨p1.trans p3.symm, ?_⟩
    rw [p4, p2]
    exact ⟨tq, bq, mq, sq, s1, s2, s3, s4, s5, hn, hD, hst, hv⟩
theorem lz_goes {ty : Nat → Nat} {x mm tq bq mq sq s1 s2 s3 s4 s5 : Nat} {σ σ1 σ2 : Nat → Nat → Int} (hx : ty x = 1) (hm : ty mm = 10) (hI : sv_inv sp_1 ty σ) (hn : zn ty σ x mm tq bq mq sq s1 s2 s3 s4 s5) (hD : zd_D ty σ bq 12) (hst : ∀ j : Nat, j < 400 → σ mq j = σ sq j) (hv : zvA σ bq s1 s2 s3 s4 s5) (hF1 : sv_ofx [(9, 0), (9, 1), (9, 4)] [40, 41] ty σ σ1) (hF2 : sv_ofx [] [102, 103, 104, 105, 106] ty σ1 σ2) {k v v1 v2 : Int} (g1 : zc_goes σ σ1 bq mq k v v1) (g2 : zm_goes σ1 σ2 sq s1 s4 s5 k v v2) : v1 = v2 ∧ lz_R ty σ2 x mm := by
  by_cases ho : 0 ≤ k ∧ k ≤ 11
  swap
  · obtain ⟨p1, p2⟩ := g1.1 ho
    obtain ⟨p3, p4⟩ := g2.1 ho
    refine ⟨p1.trans p3.symm, ?_⟩
    rw [p4, p2]
    exact ⟨tq, bq, mq, sq, s1, s2, s3, s4, s5, hn, hD, hst, hv⟩
  obtain ⟨k0, rfl⟩ : ∃ k0 : Nat, k = (k0 : Int) := ⟨k.toNat, by omega⟩
  obtain ⟨P, c, r, d1, d2, d3, d4, d5, d6⟩ := hD.1 k0 (by omega)
  have tk : ((k0 : Int)).toNat = k0 := by omega
  obtain ⟨y1, y2, y3⟩ := hv k0 (by omega) P c r d1 d3 d5
  obtain ⟨-, -, ⟨-, k3⟩, ⟨-, k4⟩, ⟨-, k5⟩, ⟨-, k6⟩, ⟨-, k7⟩, ⟨-, k8⟩, -, k9⟩ := id hn
  have e5 : ∀ j, σ1 s1 j = σ s1 j := fun j => hF1.atA k5 (by decide) (by decide)
  have e8 : ∀ j, σ1 s4 j = σ s4 j := fun j => hF1.atA k8 (by decide) (by decide)
  have e9 : ∀ j, σ1 s5 j = σ s5 j := fun j => hF1.atA k9 (by decide) (by decide)
  have e4 : ∀ j, σ1 sq j = σ sq j := fun j => hF1.atA k4 (by decide) (by decide)
  obtain ⟨z, hz⟩ : ∃ z : Int, σ P 0 = z := ⟨_, rfl⟩
  obtain ⟨m, hmm⟩ : ∃ m : Int, σ mq (20 * σ c (z - 1).toNat + v).toNat = m := ⟨_, rfl⟩
  have f1 := g1.2 P c r z m ho (by rw [tk]; exact d1) d3 d5 hz hmm
  rw [hz] at y1 y2 y3
  by_cases hb : z < 1 ∨ ¬ (0 ≤ v ∧ v ≤ 19)
  · obtain ⟨p1, p2⟩ := f1.1 hb
    obtain ⟨p3, p4⟩ := (g2.2 z _ ho (by rw [tk, e5]; exact y2.symm) rfl).1 hb
    refine ⟨p1.trans p3.symm, ?_⟩
    rw [p4, p2]
    exact ⟨tq, bq, mq, sq, s1, s2, s3, s4, s5, hn, hD, hst, hv⟩
  have hb1 : 1 ≤ z := by omega
  have hb2 : 0 ≤ v ∧ v ≤ 19 := by omega
  obtain ⟨⟨u1, u2⟩, u3⟩ := y3 hb1
  obtain ⟨w1, w2, w3, w4, w5⟩ := u3 (z - 1).toNat (by omega)
  have hcr := hI.num (k := (z - 1).toNat) d4 rfl
  have hmr := hI.num (k := (20 * σ c (z - 1).toNat + v).toNat) k3 rfl
  have ti : (12 * (k0 : Int) + z - 1).toNat = 12 * k0 + (z - 1).toNat := by omega
  have tj : (12 * (k0 : Int) + z).toNat = 12 * k0 + z.toNat := by omega
  have hm2 : σ1 sq (20 * σ1 s4 (12 * (k0 : Int) + z - 1).toNat + v).toNat = m := by
    rw [e4, e8, ti, ← w1, ← hst _ (by omega)]
    exact hmm
  have f2 := g2.2 z m ho (by rw [tk, e5]; exact y2.symm) hm2
  rw [tk, ti, tj, e9, ← w2] at f2
  by_cases h0 : m = 0
  · obtain ⟨p1, p2⟩ := f1.2.1 hb1 hb2 h0
    obtain ⟨p3, p4⟩ := f2.2.1 hb1 hb2 h0
    refine ⟨p1.trans p3.symm, ?_⟩
    rw [p4, p2]
    exact ⟨tq, bq, mq, sq, s1, s2, s3, s4, s5, hn, hD, hst, hv⟩
  by_cases h12 : 12 ≤ z
  · obtain ⟨p1, p2⟩ := f1.2.2.1 h12 hb2 h0
    obtain ⟨p3, p4⟩ := f2.2.2.1 h12 hb2 h0
    refine ⟨p1.trans p3.symm, ?_⟩
    rw [p4, p2]
    exact ⟨tq, bq, mq, sq, s1, s2, s3, s4, s5, hn, hD, hst, hv⟩
  obtain ⟨p1, E1⟩ := f1.2.2.2 hb1 (by omega) hb2 h0
  obtain ⟨p3, p4⟩ := f2.2.2.2 hb1 (by omega) hb2 h0
  refine ⟨p1.trans p3.symm, ?_⟩
  have hzw : zw (σ r (z - 1).toNat + m) = σ r (z - 1).toNat + m := zw_id ⟨by omega, by omega⟩
  rw [hzw] at E1 p4
  have nPc : P ≠ c := sv_ne d2 d4 (by decide)
  have nPr : P ≠ r := sv_ne d2 d6 (by decide)
  have ncr : c ≠ r := sv_ne d4 d6 (by decide)
  have n14 : s1 ≠ s4 := sv_ne k5 k8 (by decide)
  have n15 : s1 ≠ s5 := sv_ne k5 k9 (by decide)
  have n45 : s4 ≠ s5 := sv_ne k8 k9 (by decide)
  have E10 : σ1 P 0 = z + 1 := by rw [E1]; exact sv_up_s _ _ _ _
  have E1o : ∀ j, j ≠ 0 → σ1 P j = σ P j := fun j hj => by rw [E1, sv_up_k hj, sv_up_a nPr, sv_up_a nPc]
  refine lz_two hx hm hn hD hst hv hF1 hF2 (by omega) d1 d2 d3 d4 d5 d6 (fun q hq hne j => ?_) (fun q hq hne j => ?_) (fun q hq hne j => ?_) (fun j hj => ?_) (fun j hj => ?_) (fun j hj => ?_) (fun k i hk hi => ?_) (fun k i hk hi => ?_) ⟨?_, ?_, fun _ => ⟨⟨?_, ?_⟩, fun i hi => ?_⟩⟩
  · rw [E1, sv_up_a hne, sv_up_a (sv_ne hq d6 (by decide)), sv_up_a (sv_ne hq d4 (by decide))]
  · rw [E1, sv_up_a (sv_ne hq d2 (by decide)), sv_up_a (sv_ne hq d6 (by decide)), sv_up_a hne]
  · rw [E1, sv_up_a (sv_ne hq d2 (by decide)), sv_up_a hne, sv_up_a (sv_ne hq d4 (by decide))]
  · rw [p4, sv_up_k hj, sv_up_a n15, sv_up_a n14]
  · rw [p4, sv_up_a (sv_ne k6 k5 (by decide)), sv_up_a (sv_ne k6 k9 (by decide)), sv_up_a (sv_ne k6 k8 (by decide))]
  · rw [p4, sv_up_a (sv_ne k7 k5 (by decide)), sv_up_a (sv_ne k7 k9 (by decide)), sv_up_a (sv_ne k7 k8 (by decide))]
  · rw [p4, sv_up_a n14.symm, sv_up_a n45, sv_up_k (by omega)]
  · rw [p4, sv_up_a n15.symm, sv_up_k (by omega), sv_up_a n45.symm]
  · rw [E10]; omega
  · rw [E10, p4]; exact (sv_up_s _ _ _ _).symm
  · rw [E1o 1 (by decide), u1, p4, sv_up_a (sv_ne k6 k5 (by decide)), sv_up_a (sv_ne k6 k9 (by decide)), sv_up_a (sv_ne k6 k8 (by decide))]
    exact (hF1.atA k6 (by decide) (by decide)).symm
  · rw [E1o 4 (by decide), u2, p4, sv_up_a (sv_ne k7 k5 (by decide)), sv_up_a (sv_ne k7 k9 (by decide)), sv_up_a (sv_ne k7 k8 (by decide))]
    exact (hF1.atA k7 (by decide) (by decide)).symm
  · rw [E10] at hi
    have rr' : ∀ h, h ≠ z.toNat → σ1 r h = σ r h := fun h hh => by rw [E1, sv_up_a nPr.symm, sv_up_k hh, sv_up_a ncr.symm]
    by_cases ei : i = z.toNat
    · subst ei
      have r0 : σ1 r z.toNat = σ r (z - 1).toNat + m := by rw [E1, sv_up_a nPr.symm, sv_up_s]
      refine ⟨?_, ?_, by omega, by omega, fun h hh => ?_⟩
      · rw [E1, sv_up_a nPc.symm, sv_up_a ncr, sv_up_s, p4, sv_up_a n14.symm, sv_up_a n45, sv_up_s]
      · rw [r0, p4, sv_up_a n15.symm, sv_up_s]
      · have th : h = (z - 1).toNat := by omega
        rw [rr' h (by omega), r0, th]
        omega
    · have rc : σ1 c i = σ c i := by rw [E1, sv_up_a nPc.symm, sv_up_a ncr, sv_up_k ei]
      have x4 : σ2 s4 (12 * k0 + i) = σ s4 (12 * k0 + i) := by rw [p4, sv_up_a n14.symm, sv_up_a n45, sv_up_k (by omega), e8]
      have x5 : σ2 s5 (12 * k0 + i) = σ s5 (12 * k0 + i) := by rw [p4, sv_up_a n15.symm, sv_up_k (by omega), sv_up_a n45.symm, e9]
      obtain ⟨q1, q2, q3, q4, q5⟩ := u3 i (by omega)
      exact ⟨by rw [rc, x4]; exact q1, by rw [rr' i ei, x5]; exact q2, by rw [rr' i ei]; exact q3, by rw [rr' i ei]; exact q4, fun h hh => by rw [rr' h (by omega), rr' i ei]; exact q5 h hh⟩
theorem lz_late {ty : Nat → Nat} {x mm tq bq mq sq s1 s2 s3 s4 s5 : Nat} {σ σ1 σ2 : Nat → Nat → Int} (hx : ty x = 1) (hm : ty mm = 10) (hn : zn ty σ x mm tq bq mq sq s1 s2 s3 s4 s5) (hD : zd_D ty σ bq 12) (hst : ∀ j : Nat, j < 400 → σ mq j = σ sq j) (hv : zvA σ bq s1 s2 s3 s4 s5) (hF1 : sv_ofx [(9, 0), (9, 1), (9, 4)] [40, 41] ty σ σ1) (hF2 : sv_ofx [] [102, 103, 104, 105, 106] ty σ1 σ2) {k w v1 v2 : Int} (g1 : zc_late σ σ1 bq k w v1) (g2 : zm_late σ1 σ2 s1 s2 k w v2) : v1 = v2 ∧ lz_R ty σ2 x mm := by
  by_cases ho : 0 ≤ k ∧ k ≤ 11
  swap
  · obtain ⟨p1, p2⟩ := g1.1 ho
    obtain ⟨p3, p4⟩ := g2.1 ho
    refine ⟨p1.trans p3.symm, ?_⟩
    rw [p4, p2]
    exact ⟨tq, bq, mq, sq, s1, s2, s3, s4, s5, hn, hD, hst, hv⟩
  obtain ⟨k0, rfl⟩ : ∃ k0 : Nat, k = (k0 : Int) := ⟨k.toNat, by omega⟩
  obtain ⟨P, c, r, d1, d2, d3, d4, d5, d6⟩ := hD.1 k0 (by omega)
  have tk : ((k0 : Int)).toNat = k0 := by omega
  obtain ⟨y1, y2, y3⟩ := hv k0 (by omega) P c r d1 d3 d5
  obtain ⟨-, -, ⟨-, k3⟩, ⟨-, k4⟩, ⟨-, k5⟩, ⟨-, k6⟩, ⟨-, k7⟩, ⟨-, k8⟩, -, k9⟩ := id hn
  have e5 : ∀ j, σ1 s1 j = σ s1 j := fun j => hF1.atA k5 (by decide) (by decide)
  have e6 : ∀ j, σ1 s2 j = σ s2 j := fun j => hF1.atA k6 (by decide) (by decide)
  have f1 := g1.2 P _ _ ho (by rw [tk]; exact d1) rfl rfl
  have f2 := g2.2 _ _ ho rfl rfl
  rw [tk, e5, e6, ← y2] at f2
  by_cases h1 : σ P 0 < 1
  · obtain ⟨p1, p2⟩ := f1.1 (Or.inl h1)
    obtain ⟨p3, p4⟩ := f2.1 (Or.inl h1)
    refine ⟨p1.trans p3.symm, ?_⟩
    rw [p4, p2]
    exact ⟨tq, bq, mq, sq, s1, s2, s3, s4, s5, hn, hD, hst, hv⟩
  obtain ⟨⟨u1, u2⟩, u3⟩ := y3 (by omega)
  rw [← u1] at f2
  by_cases hb : ¬ (1 ≤ w ∧ w ≤ 300) ∨ 1440 < σ P 1 + w
  · obtain ⟨p1, p2⟩ := f1.1 (Or.inr hb)
    obtain ⟨p3, p4⟩ := f2.1 (Or.inr hb)
    refine ⟨p1.trans p3.symm, ?_⟩
    rw [p4, p2]
    exact ⟨tq, bq, mq, sq, s1, s2, s3, s4, s5, hn, hD, hst, hv⟩
  obtain ⟨p1, E1⟩ := f1.2 (by omega) (by omega) (by omega)
  obtain ⟨p3, p4⟩ := f2.2 (by omega) (by omega) (by omega)
  refine ⟨p1.trans p3.symm, ?_⟩
  refine lz_two hx hm hn hD hst hv hF1 hF2 (by omega) d1 d2 d3 d4 d5 d6 (fun q hq hne j => ?_) (fun q hq hne j => ?_) (fun q hq hne j => ?_) (fun j hj => ?_) (fun j hj => ?_) (fun j hj => ?_) (fun k i hk hi => ?_) (fun k i hk hi => ?_) ⟨?_, ?_, fun _ => ⟨⟨?_, ?_⟩, fun i hi => ?_⟩⟩
  · rw [E1, sv_up_a hne]
  · rw [E1, sv_up_a (sv_ne hq d2 (by decide))]
  · rw [E1, sv_up_a (sv_ne hq d2 (by decide))]
  · rw [p4, sv_up_a (sv_ne k5 k6 (by decide))]
  · rw [p4, sv_up_k hj]
  · rw [p4, sv_up_a (sv_ne k7 k6 (by decide))]
  · rw [p4, sv_up_a (sv_ne k8 k6 (by decide))]
  · rw [p4, sv_up_a (sv_ne k9 k6 (by decide))]
  · rw [E1, sv_up_k (by decide)]; exact y1
  · rw [E1, sv_up_k (by decide), p4, sv_up_a (sv_ne k5 k6 (by decide)), e5]; exact y2
  · rw [p4, sv_up_s, E1, sv_up_s]
  · rw [p4, sv_up_a (sv_ne k7 k6 (by decide)), E1, sv_up_k (by decide), ← E1, u2]
    exact (hF1.atA k7 (by decide) (by decide)).symm
  · have hi' : (i : Int) < σ P 0 := by rw [E1, sv_up_k (by decide)] at hi; exact hi
    have rc : σ1 c i = σ c i := by rw [E1, sv_up_a (sv_ne d4 d2 (by decide))]
    have rr : ∀ h, σ1 r h = σ r h := fun h => by rw [E1, sv_up_a (sv_ne d6 d2 (by decide))]
    have x4 : σ2 s4 (12 * k0 + i) = σ s4 (12 * k0 + i) := by rw [p4, sv_up_a (sv_ne k8 k6 (by decide))]; exact hF1.atA k8 (by decide) (by decide)
    have x5 : σ2 s5 (12 * k0 + i) = σ s5 (12 * k0 + i) := by rw [p4, sv_up_a (sv_ne k9 k6 (by decide))]; exact hF1.atA k9 (by decide) (by decide)
    obtain ⟨q1, q2, q3, q4, q5⟩ := u3 i hi'
    exact ⟨by rw [rc, x4]; exact q1, by rw [rr, x5]; exact q2, by rw [rr]; exact q3, by rw [rr]; exact q4, fun h hh => by rw [rr h, rr i]; exact q5 h hh⟩
theorem zt_cg {z B E B' E' : Int} {cf hf cf' hf' : Nat → Int} {q : Int} (hB : B = B') (hE : E = E') (hc : ∀ i : Nat, (i : Int) < z → cf i = cf' i) (hh : ∀ i : Nat, (i : Int) < z → hf i = hf' i) : zt z B E cf hf q = zt z B' E' cf' hf' q := by
  have h2 : zt2 z cf hf q = zt2 z cf' hf' q := by
    unfold zt2
    by_cases h1 : 10 ≤ q ∧ q - 10 < z
    · rw [if_pos h1, if_pos h1]; exact hc _ (by omega)
    · rw [if_neg h1, if_neg h1]
      by_cases h3 : 30 ≤ q ∧ q - 30 < z
      · rw [if_pos h3, if_pos h3]; exact hh _ (by omega)
      · rw [if_neg h3, if_neg h3]
  unfold zt
  rw [hB, hE, h2]
theorem lz_tell {ty : Nat → Nat} {x mm tq bq mq sq s1 s2 s3 s4 s5 : Nat} {σ : Nat → Nat → Int} (hI : sv_inv sp_1 ty σ) (hn : zn ty σ x mm tq bq mq sq s1 s2 s3 s4 s5) (hD : zd_D ty σ bq 12) (hv : zvA σ bq s1 s2 s3 s4 s5) {k q v1 v2 : Int} (g1 : zc_tell σ bq k q v1) (g2 : zm_tell σ s1 s2 s3 s4 s5 k q v2) : v1 = v2 := by
  by_cases ho : 0 ≤ k ∧ k ≤ 11
  swap
  · rw [g1.1 ho, g2.1 ho]
  obtain ⟨k0, rfl⟩ : ∃ k0 : Nat, k = (k0 : Int) := ⟨k.toNat, by omega⟩
  obtain ⟨P, c, r, d1, d2, d3, d4, d5, d6⟩ := hD.1 k0 (by omega)
  have tk : ((k0 : Int)).toNat = k0 := by omega
  obtain ⟨y1, y2, y3⟩ := hv k0 (by omega) P c r d1 d3 d5
  have f1 := g1.2 P c r _ _ _ ho (by rw [tk]; exact d1) d3 d5 rfl rfl rfl
  have f2 := g2.2 _ _ _ ho rfl rfl rfl
  rw [tk, ← y2] at f2
  by_cases h1 : σ P 0 < 1
  · rw [f1.1 h1, f2.1 h1]
  obtain ⟨⟨u1, u2⟩, u3⟩ := y3 (by omega)
  rw [← u1, ← u2] at f2
  rw [f1.2 (by omega), f2.2 (by omega)]
  have hB := hI.num (k := 1) d2 rfl
  have hT := hI.num (k := 4) d2 rfl
  refine zt_cg rfl ?_ (fun i hi => ?_) (fun i hi => ?_)
  · obtain ⟨w1, w2, w3, w4, w5⟩ := u3 (σ P 0 - 1).toNat (by omega)
    rw [show (12 * (k0 : Int) + (σ P 0 - 1)).toNat = 12 * k0 + (σ P 0 - 1).toNat by omega, ← w2, zw_id (x := σ P 1 + σ r (σ P 0 - 1).toNat) ⟨by omega, by omega⟩]
  · show σ c i = σ s4 (12 * (k0 : Int) + (i : Int)).toNat
    rw [show (12 * (k0 : Int) + (i : Int)).toNat = 12 * k0 + i by omega]
    exact (u3 i hi).1
  · show zw (σ P 1 + σ r i) = zw (σ P 1 + σ s5 (12 * (k0 : Int) + (i : Int)).toNat)
    rw [show (12 * (k0 : Int) + (i : Int)).toNat = 12 * k0 + i by omega, (u3 i hi).2.1]
theorem lz_init {ty : Nat → Nat} {σ : Nat → Nat → Int} {x mm : Nat} (hm : ty mm = 10) (hI : sv_inv sp_1 ty σ) (hZ : sv_inv sp_0 ty σ) {t0 : Nat → Nat} {σ0 : Nat → Nat → Int} (h9 : ty x = 1 ∧ zd_9 x t0 σ0 ty σ) : lz_R ty σ x mm := by
  obtain ⟨hx, tq, bq, b1, k1, b2, k2, hD⟩ := h9
  obtain ⟨mq, b3, k3⟩ := hI.ref (k := 2) k1 rfl
  obtain ⟨sq, b4, k4⟩ := hI.ref (k := 41) hm rfl
  obtain ⟨s1, b5, k5⟩ := hI.ref (k := 42) hm rfl
  obtain ⟨s2, b6, k6⟩ := hI.ref (k := 43) hm rfl
  obtain ⟨s3, b7, k7⟩ := hI.ref (k := 44) hm rfl
  obtain ⟨s4, b8, k8⟩ := hI.ref (k := 45) hm rfl
  obtain ⟨s5, b9, k9⟩ := hI.ref (k := 46) hm rfl
  refine ⟨tq, bq, mq, sq, s1, s2, s3, s4, s5, ⟨⟨b1, k1⟩, ⟨b2, k2⟩, ⟨b3, k3⟩, ⟨b4, k4⟩, ⟨b5, k5⟩, ⟨b6, k6⟩, ⟨b7, k7⟩, ⟨b8, k8⟩, b9, k9⟩, hD, fun j hj => ?_, fun k hk P c r e1 e2 e3 => ?_⟩
  · have h2 := hZ.num (k := j) k3 rfl
    have h3 := hZ.num (k := j) k4 rfl
    omega
  · obtain ⟨P', -, -, p1, p2, -⟩ := hD.1 k hk
    have tP : P' = P := by omega
    subst tP
    have h2 := hZ.num (k := 0) p2 rfl
    have h3 := hZ.num (k := k) k5 rfl
    exact ⟨⟨by omega, by omega⟩, by omega, fun h => absurd h (by omega)⟩
theorem sv_mk2 {A : Nat → Prop} {ty ty' : Nat → Nat} {σ σ' : Nat → Nat → Int} {q K : Nat} (hq : ty q = 0) (hp : sv_po A q K (sv_upt ty q K) (sv_zr σ q) ty' σ') : ∀ x, ty x ≠ 0 → ty' x = ty x ∧ σ' x = σ x := by
  obtain ⟨⟨c1, c2, c3, c4, c5⟩, d1, d2⟩ := hp
  intro x hx
  have e : x ≠ q := fun e => hx (by rw [e]; exact hq)
  have h1 := c1 x (by rw [sv_upt_n e]; exact hx)
  refine ⟨by rw [h1, sv_upt_n e], ?_⟩
  rw [c2 x (by rw [sv_upt_n e]; exact hx) e, sv_zr_n e]
theorem zd9_mv {ty ty' t0 : Nat → Nat} {σ σ' σ0 : Nat → Nat → Int} {x : Nat} (h : ∀ y, ty y ≠ 0 → ty' y = ty y ∧ σ' y = σ y) (hx : ty x = 1) (h9 : zd_9 x t0 σ0 ty σ) : ty' x = 1 ∧ zd_9 x t0 σ0 ty' σ' := by
  obtain ⟨tq, bq, b1, k1, b2, k2, hD⟩ := h9
  have hX := h x (by rw [hx]; decide)
  have hT := h tq (by rw [k1]; decide)
  have hB := h bq (by rw [k2]; decide)
  exact ⟨by rw [hX.1]; exact hx, tq, bq, by rw [hX.2]; exact b1, by rw [hT.1]; exact k1, by rw [hT.2]; exact b2, by rw [hB.1]; exact k2, zd_kp h k2 hD⟩
theorem lz_out {p : Program} {l : Launch} {e : Env} {s : State} {m : MethodId} {below : List Frame} {meth : Method} {c : Code} {g : sv_G} {A : Nat → Prop} {b L : Nat} {xs : Nat → Int32} {cells slots : Nat} {Hp : Heap → Prop} {lv : sv_L} (T : lz_K p s m meth c g A b L xs) (hc : cells ≤ 601024) (hs : slots ≤ 7293033) : lz_V p l e s m below meth c b A cells slots Hp 1199 lv [] := by
  obtain ⟨C, hX, hbl, hbA, hAs, hr⟩ := T
  refine sv_go C.1 C.2.1 [(.iconst 1, 1)] (pc' := 1200) (by decide +kernel) rfl (lv' := lv) (st' := [sv_i 1]) rfl ?_
  intro H locs ls hH hS hl
  refine W.widen hc hs (va_forget (fun q hq => hAs _ (hS.2.2 q hq)) ?_)
  exact lw_ret C.1 C.2.1 hr C.2.2.2.2.2.2 (by decide +kernel)
theorem lz_co_X9_feed : Cond.code yX9_feed cX9_feed 6 (some .int) ∈ lw_good := sv_mem 428 (by decide +kernel) rfl
theorem lz_ml_13 : Cond.methodLink RL 13 yX9_feed ∈ lw_good := sv_mem 425 (by decide +kernel) rfl
theorem lz_im_X9_feed : Cond.instanceMethod yX9_feed ∈ lw_good := sv_mem 426 (by decide +kernel) rfl
theorem lz_se_X9_feed : Cond.selects RX9 yX9_feed yX9_feed ∈ lw_good := sv_mem 427 (by decide +kernel) rfl
theorem lz_in_X9 : Cond.initialized RX9 ∈ lw_good := sv_mem 72 (by decide +kernel) rfl
theorem lz_co_X11_feed : Cond.code yX11_feed cX11_feed 6 (some .int) ∈ lw_good := sv_mem 1249 (by decide +kernel) rfl
theorem lz_ml_17 : Cond.methodLink RL 17 yX11_feed ∈ lw_good := sv_mem 1246 (by decide +kernel) rfl
theorem lz_im_X11_feed : Cond.instanceMethod yX11_feed ∈ lw_good := sv_mem 1247 (by decide +kernel) rfl
theorem lz_se_X11_feed : Cond.selects RX11 yX11_feed yX11_feed ∈ lw_good := sv_mem 1248 (by decide +kernel) rfl
theorem lz_in_X11 : Cond.initialized RX11 ∈ lw_good := sv_mem 82 (by decide +kernel) rfl
theorem lz_co_X9_end : Cond.code yX9_end cX9_end 2 (some .int) ∈ lw_good := sv_mem 436 (by decide +kernel) rfl
theorem lz_ml_18 : Cond.methodLink RL 18 yX9_end ∈ lw_good := sv_mem 433 (by decide +kernel) rfl
theorem lz_im_X9_end : Cond.instanceMethod yX9_end ∈ lw_good := sv_mem 434 (by decide +kernel) rfl
theorem lz_se_X9_end : Cond.selects RX9 yX9_end yX9_end ∈ lw_good := sv_mem 435 (by decide +kernel) rfl
theorem lz_co_X11_end : Cond.code yX11_end cX11_end 2 (some .int) ∈ lw_good := sv_mem 1257 (by decide +kernel) rfl
theorem lz_ml_22 : Cond.methodLink RL 22 yX11_end ∈ lw_good := sv_mem 1254 (by decide +kernel) rfl
theorem lz_im_X11_end : Cond.instanceMethod yX11_end ∈ lw_good := sv_mem 1255 (by decide +kernel) rfl
theorem lz_se_X11_end : Cond.selects RX11 yX11_end yX11_end ∈ lw_good := sv_mem 1256 (by decide +kernel) rfl
theorem lz_co_X9_calendar : Cond.code yX9_calendar cX9_calendar 3 (some .int) ∈ lw_good := sv_mem 440 (by decide +kernel) rfl
theorem lz_ml_23 : Cond.methodLink RL 23 yX9_calendar ∈ lw_good := sv_mem 437 (by decide +kernel) rfl
theorem lz_im_X9_calendar : Cond.instanceMethod yX9_calendar ∈ lw_good := sv_mem 438 (by decide +kernel) rfl
theorem lz_se_X9_calendar : Cond.selects RX9 yX9_calendar yX9_calendar ∈ lw_good := sv_mem 439 (by decide +kernel) rfl
theorem lz_co_X11_calendar : Cond.codeWith yX11_calendar cX11_calendar 3 (some .int) [(33, 37, 40, 95)] ∈ lw_good := sv_mem 1261 (by decide +kernel) rfl
theorem lz_ml_26 : Cond.methodLink RL 26 yX11_calendar ∈ lw_good := sv_mem 1258 (by decide +kernel) rfl
theorem lz_im_X11_calendar : Cond.instanceMethod yX11_calendar ∈ lw_good := sv_mem 1259 (by decide +kernel) rfl
theorem lz_se_X11_calendar : Cond.selects RX11 yX11_calendar yX11_calendar ∈ lw_good := sv_mem 1260 (by decide +kernel) rfl
theorem lz_co_X9_fault : Cond.code yX9_fault cX9_fault 2 (some .int) ∈ lw_good := sv_mem 625 (by decide +kernel) rfl
theorem lz_ml_27 : Cond.methodLink RL 27 yX9_fault ∈ lw_good := sv_mem 622 (by decide +kernel) rfl
theorem lz_im_X9_fault : Cond.instanceMethod yX9_fault ∈ lw_good := sv_mem 623 (by decide +kernel) rfl
theorem lz_se_X9_fault : Cond.selects RX9 yX9_fault yX9_fault ∈ lw_good := sv_mem 624 (by decide +kernel) rfl
theorem lz_co_X11_fault : Cond.code yX11_fault cX11_fault 2 (some .int) ∈ lw_good := sv_mem 1351 (by decide +kernel) rfl
theorem lz_ml_30 : Cond.methodLink RL 30 yX11_fault ∈ lw_good := sv_mem 1348 (by decide +kernel) rfl
theorem lz_im_X11_fault : Cond.instanceMethod yX11_fault ∈ lw_good := sv_mem 1349 (by decide +kernel) rfl
theorem lz_se_X11_fault : Cond.selects RX11 yX11_fault yX11_fault ∈ lw_good := sv_mem 1350 (by decide +kernel) rfl
theorem lz_co_X9_feast : Cond.code yX9_feast cX9_feast 4 (some .int) ∈ lw_good := sv_mem 629 (by decide +kernel) rfl
theorem lz_ml_31 : Cond.methodLink RL 31 yX9_feast ∈ lw_good := sv_mem 626 (by decide +kernel) rfl
theorem lz_im_X9_feast : Cond.instanceMethod yX9_feast ∈ lw_good := sv_mem 627 (by decide +kernel) rfl
theorem lz_se_X9_feast : Cond.selects RX9 yX9_feast yX9_feast ∈ lw_good := sv_mem 628 (by decide +kernel) rfl
theorem lz_co_X11_feast : Cond.code yX11_feast cX11_feast 5 (some .int) ∈ lw_good := sv_mem 1355 (by decide +kernel) rfl
theorem lz_ml_35 : Cond.methodLink RL 35 yX11_feast ∈ lw_good := sv_mem 1352 (by decide +kernel) rfl
theorem lz_im_X11_feast : Cond.instanceMethod yX11_feast ∈ lw_good := sv_mem 1353 (by decide +kernel) rfl
theorem lz_se_X11_feast : Cond.selects RX11 yX11_feast yX11_feast ∈ lw_good := sv_mem 1354 (by decide +kernel) rfl
theorem lz_co_X9_easter : Cond.code yX9_easter cX9_easter 2 (some .int) ∈ lw_good := sv_mem 646 (by decide +kernel) rfl
theorem lz_ml_36 : Cond.methodLink RL 36 yX9_easter ∈ lw_good := sv_mem 643 (by decide +kernel) rfl
theorem lz_im_X9_easter : Cond.instanceMethod yX9_easter ∈ lw_good := sv_mem 644 (by decide +kernel) rfl
theorem lz_se_X9_easter : Cond.selects RX9 yX9_easter yX9_easter ∈ lw_good := sv_mem 645 (by decide +kernel) rfl
theorem lz_co_X11_easter : Cond.code yX11_easter cX11_easter 2 (some .int) ∈ lw_good := sv_mem 1002 (by decide +kernel) rfl
theorem lz_ml_39 : Cond.methodLink RL 39 yX11_easter ∈ lw_good := sv_mem 999 (by decide +kernel) rfl
theorem lz_im_X11_easter : Cond.instanceMethod yX11_easter ∈ lw_good := sv_mem 1000 (by decide +kernel) rfl
theorem lz_se_X11_easter : Cond.selects RX11 yX11_easter yX11_easter ∈ lw_good := sv_mem 1001 (by decide +kernel) rfl
theorem lz_co_X9_date : Cond.code yX9_date cX9_date 5 (some .int) ∈ lw_good := sv_mem 670 (by decide +kernel) rfl
theorem lz_ml_40 : Cond.methodLink RL 40 yX9_date ∈ lw_good := sv_mem 667 (by decide +kernel) rfl
theorem lz_im_X9_date : Cond.instanceMethod yX9_date ∈ lw_good := sv_mem 668 (by decide +kernel) rfl
theorem lz_se_X9_date : Cond.selects RX9 yX9_date yX9_date ∈ lw_good := sv_mem 669 (by decide +kernel) rfl
theorem lz_co_X11_date : Cond.code yX11_date cX11_date 6 (some .int) ∈ lw_good := sv_mem 1031 (by decide +kernel) rfl
theorem lz_ml_43 : Cond.methodLink RL 43 yX11_date ∈ lw_good := sv_mem 1028 (by decide +kernel) rfl
theorem lz_im_X11_date : Cond.instanceMethod yX11_date ∈ lw_good := sv_mem 1029 (by decide +kernel) rfl
theorem lz_se_X11_date : Cond.selects RX11 yX11_date yX11_date ∈ lw_good := sv_mem 1030 (by decide +kernel) rfl
theorem lz_co_X9_office : Cond.code yX9_office cX9_office 4 (some .int) ∈ lw_good := sv_mem 686 (by decide +kernel) rfl
theorem lz_ml_44 : Cond.methodLink RL 44 yX9_office ∈ lw_good := sv_mem 683 (by decide +kernel) rfl
theorem lz_im_X9_office : Cond.instanceMethod yX9_office ∈ lw_good := sv_mem 684 (by decide +kernel) rfl
theorem lz_se_X9_office : Cond.selects RX9 yX9_office yX9_office ∈ lw_good := sv_mem 685 (by decide +kernel) rfl
theorem lz_co_X11_office : Cond.code yX11_office cX11_office 4 (some .int) ∈ lw_good := sv_mem 1365 (by decide +kernel) rfl
theorem lz_ml_47 : Cond.methodLink RL 47 yX11_office ∈ lw_good := sv_mem 1362 (by decide +kernel) rfl
theorem lz_im_X11_office : Cond.instanceMethod yX11_office ∈ lw_good := sv_mem 1363 (by decide +kernel) rfl
theorem lz_se_X11_office : Cond.selects RX11 yX11_office yX11_office ∈ lw_good := sv_mem 1364 (by decide +kernel) rfl
theorem lz_co_X9_held : Cond.code yX9_held cX9_held 4 (some .int) ∈ lw_good := sv_mem 750 (by decide +kernel) rfl
theorem lz_ml_48 : Cond.methodLink RL 48 yX9_held ∈ lw_good := sv_mem 747 (by decide +kernel) rfl
theorem lz_im_X9_held : Cond.instanceMethod yX9_held ∈ lw_good := sv_mem 748 (by decide +kernel) rfl
theorem lz_se_X9_held : Cond.selects RX9 yX9_held yX9_held ∈ lw_good := sv_mem 749 (by decide +kernel) rfl
theorem lz_co_X11_held : Cond.code yX11_held cX11_held 4 (some .int) ∈ lw_good := sv_mem 1381 (by decide +kernel) rfl
theorem lz_ml_51 : Cond.methodLink RL 51 yX11_held ∈ lw_good := sv_mem 1378 (by decide +kernel) rfl
theorem lz_im_X11_held : Cond.instanceMethod yX11_held ∈ lw_good := sv_mem 1379 (by decide +kernel) rfl
theorem lz_se_X11_held : Cond.selects RX11 yX11_held yX11_held ∈ lw_good := sv_mem 1380 (by decide +kernel) rfl
theorem lz_co_X9_own : Cond.code yX9_own cX9_own 4 (some .int) ∈ lw_good := sv_mem 754 (by decide +kernel) rfl
theorem lz_ml_52 : Cond.methodLink RL 52 yX9_own ∈ lw_good := sv_mem 751 (by decide +kernel) rfl
theorem lz_im_X9_own : Cond.instanceMethod yX9_own ∈ lw_good := sv_mem 752 (by decide +kernel) rfl
theorem lz_se_X9_own : Cond.selects RX9 yX9_own yX9_own ∈ lw_good := sv_mem 753 (by decide +kernel) rfl
theorem lz_co_X11_own : Cond.code yX11_own cX11_own 4 (some .int) ∈ lw_good := sv_mem 1385 (by decide +kernel) rfl
theorem lz_ml_55 : Cond.methodLink RL 55 yX11_own ∈ lw_good := sv_mem 1382 (by decide +kernel) rfl
theorem lz_im_X11_own : Cond.instanceMethod yX11_own ∈ lw_good := sv_mem 1383 (by decide +kernel) rfl
theorem lz_se_X11_own : Cond.selects RX11 yX11_own yX11_own ∈ lw_good := sv_mem 1384 (by decide +kernel) rfl
theorem lz_co_X9_fast : Cond.code yX9_fast cX9_fast 4 (some .int) ∈ lw_good := sv_mem 759 (by decide +kernel) rfl
theorem lz_ml_56 : Cond.methodLink RL 56 yX9_fast ∈ lw_good := sv_mem 756 (by decide +kernel) rfl
theorem lz_im_X9_fast : Cond.instanceMethod yX9_fast ∈ lw_good := sv_mem 757 (by decide +kernel) rfl
theorem lz_se_X9_fast : Cond.selects RX9 yX9_fast yX9_fast ∈ lw_good := sv_mem 758 (by decide +kernel) rfl
theorem lz_co_X11_fast : Cond.code yX11_fast cX11_fast 6 (some .int) ∈ lw_good := sv_mem 1389 (by decide +kernel) rfl
theorem lz_ml_59 : Cond.methodLink RL 59 yX11_fast ∈ lw_good := sv_mem 1386 (by decide +kernel) rfl
theorem lz_im_X11_fast : Cond.instanceMethod yX11_fast ∈ lw_good := sv_mem 1387 (by decide +kernel) rfl
theorem lz_se_X11_fast : Cond.selects RX11 yX11_fast yX11_fast ∈ lw_good := sv_mem 1388 (by decide +kernel) rfl
theorem lz_co_X9_wax : Cond.code yX9_wax cX9_wax 8 (some .int) ∈ lw_good := sv_mem 779 (by decide +kernel) rfl
theorem lz_ml_60 : Cond.methodLink RL 60 yX9_wax ∈ lw_good := sv_mem 776 (by decide +kernel) rfl
theorem lz_im_X9_wax : Cond.instanceMethod yX9_wax ∈ lw_good := sv_mem 777 (by decide +kernel) rfl
theorem lz_se_X9_wax : Cond.selects RX9 yX9_wax yX9_wax ∈ lw_good := sv_mem 778 (by decide +kernel) rfl
theorem lz_co_X11_wax : Cond.code yX11_wax cX11_wax 7 (some .int) ∈ lw_good := sv_mem 1397 (by decide +kernel) rfl
theorem lz_ml_64 : Cond.methodLink RL 64 yX11_wax ∈ lw_good := sv_mem 1394 (by decide +kernel) rfl
theorem lz_im_X11_wax : Cond.instanceMethod yX11_wax ∈ lw_good := sv_mem 1395 (by decide +kernel) rfl
theorem lz_se_X11_wax : Cond.selects RX11 yX11_wax yX11_wax ∈ lw_good := sv_mem 1396 (by decide +kernel) rfl
theorem lz_co_X9_next : Cond.code yX9_next cX9_next 9 (some .int) ∈ lw_good := sv_mem 802 (by decide +kernel) rfl
theorem lz_ml_65 : Cond.methodLink RL 65 yX9_next ∈ lw_good := sv_mem 799 (by decide +kernel) rfl
theorem lz_im_X9_next : Cond.instanceMethod yX9_next ∈ lw_good := sv_mem 800 (by decide +kernel) rfl
theorem lz_se_X9_next : Cond.selects RX9 yX9_next yX9_next ∈ lw_good := sv_mem 801 (by decide +kernel) rfl
theorem lz_co_X11_next : Cond.code yX11_next cX11_next 7 (some .int) ∈ lw_good := sv_mem 1405 (by decide +kernel) rfl
theorem lz_ml_68 : Cond.methodLink RL 68 yX11_next ∈ lw_good := sv_mem 1402 (by decide +kernel) rfl
theorem lz_im_X11_next : Cond.instanceMethod yX11_next ∈ lw_good := sv_mem 1403 (by decide +kernel) rfl
theorem lz_se_X11_next : Cond.selects RX11 yX11_next yX11_next ∈ lw_good := sv_mem 1404 (by decide +kernel) rfl
theorem lz_co_X9_unlike : Cond.code yX9_unlike cX9_unlike 7 (some .int) ∈ lw_good := sv_mem 814 (by decide +kernel) rfl
theorem lz_ml_69 : Cond.methodLink RL 69 yX9_unlike ∈ lw_good := sv_mem 811 (by decide +kernel) rfl
theorem lz_im_X9_unlike : Cond.instanceMethod yX9_unlike ∈ lw_good := sv_mem 812 (by decide +kernel) rfl
theorem lz_se_X9_unlike : Cond.selects RX9 yX9_unlike yX9_unlike ∈ lw_good := sv_mem 813 (by decide +kernel) rfl
theorem lz_co_X11_unlike : Cond.code yX11_unlike cX11_unlike 6 (some .int) ∈ lw_good := sv_mem 1410 (by decide +kernel) rfl
theorem lz_ml_72 : Cond.methodLink RL 72 yX11_unlike ∈ lw_good := sv_mem 1407 (by decide +kernel) rfl
theorem lz_im_X11_unlike : Cond.instanceMethod yX11_unlike ∈ lw_good := sv_mem 1408 (by decide +kernel) rfl
theorem lz_se_X11_unlike : Cond.selects RX11 yX11_unlike yX11_unlike ∈ lw_good := sv_mem 1409 (by decide +kernel) rfl
theorem lz_co_X9_quarrel : Cond.code yX9_quarrel cX9_quarrel 4 (some .int) ∈ lw_good := sv_mem 823 (by decide +kernel) rfl
theorem lz_ml_73 : Cond.methodLink RL 73 yX9_quarrel ∈ lw_good := sv_mem 820 (by decide +kernel) rfl
theorem lz_im_X9_quarrel : Cond.instanceMethod yX9_quarrel ∈ lw_good := sv_mem 821 (by decide +kernel) rfl
theorem lz_se_X9_quarrel : Cond.selects RX9 yX9_quarrel yX9_quarrel ∈ lw_good := sv_mem 822 (by decide +kernel) rfl
theorem lz_co_X11_quarrel : Cond.code yX11_quarrel cX11_quarrel 5 (some .int) ∈ lw_good := sv_mem 1418 (by decide +kernel) rfl
theorem lz_ml_77 : Cond.methodLink RL 77 yX11_quarrel ∈ lw_good := sv_mem 1415 (by decide +kernel) rfl
theorem lz_im_X11_quarrel : Cond.instanceMethod yX11_quarrel ∈ lw_good := sv_mem 1416 (by decide +kernel) rfl
theorem lz_se_X11_quarrel : Cond.selects RX11 yX11_quarrel yX11_quarrel ∈ lw_good := sv_mem 1417 (by decide +kernel) rfl
theorem lz_co_X9_rota : Cond.code yX9_rota cX9_rota 7 (some .int) ∈ lw_good := sv_mem 834 (by decide +kernel) rfl
theorem lz_ml_78 : Cond.methodLink RL 78 yX9_rota ∈ lw_good := sv_mem 831 (by decide +kernel) rfl
theorem lz_im_X9_rota : Cond.instanceMethod yX9_rota ∈ lw_good := sv_mem 832 (by decide +kernel) rfl
theorem lz_se_X9_rota : Cond.selects RX9 yX9_rota yX9_rota ∈ lw_good := sv_mem 833 (by decide +kernel) rfl
theorem lz_co_X11_rota : Cond.code yX11_rota cX11_rota 12 (some .int) ∈ lw_good := sv_mem 1425 (by decide +kernel) rfl
theorem lz_ml_81 : Cond.methodLink RL 81 yX11_rota ∈ lw_good := sv_mem 1422 (by decide +kernel) rfl
theorem lz_im_X11_rota : Cond.instanceMethod yX11_rota ∈ lw_good := sv_mem 1423 (by decide +kernel) rfl
theorem lz_se_X11_rota : Cond.selects RX11 yX11_rota yX11_rota ∈ lw_good := sv_mem 1424 (by decide +kernel) rfl
theorem lz_co_X9_turn : Cond.code yX9_turn cX9_turn 3 (some .int) ∈ lw_good := sv_mem 865 (by decide +kernel) rfl
theorem lz_ml_82 : Cond.methodLink RL 82 yX9_turn ∈ lw_good := sv_mem 862 (by decide +kernel) rfl
theorem lz_im_X9_turn : Cond.instanceMethod yX9_turn ∈ lw_good := sv_mem 863 (by decide +kernel) rfl
theorem lz_se_X9_turn : Cond.selects RX9 yX9_turn yX9_turn ∈ lw_good := sv_mem 864 (by decide +kernel) rfl
theorem lz_co_X11_turn : Cond.code yX11_turn cX11_turn 3 (some .int) ∈ lw_good := sv_mem 1439 (by decide +kernel) rfl
theorem lz_ml_86 : Cond.methodLink RL 86 yX11_turn ∈ lw_good := sv_mem 1436 (by decide +kernel) rfl
theorem lz_im_X11_turn : Cond.instanceMethod yX11_turn ∈ lw_good := sv_mem 1437 (by decide +kernel) rfl
theorem lz_se_X11_turn : Cond.selects RX11 yX11_turn yX11_turn ∈ lw_good := sv_mem 1438 (by decide +kernel) rfl
theorem lz_co_X9_carried : Cond.code yX9_carried cX9_carried 2 (some .int) ∈ lw_good := sv_mem 873 (by decide +kernel) rfl
theorem lz_ml_87 : Cond.methodLink RL 87 yX9_carried ∈ lw_good := sv_mem 870 (by decide +kernel) rfl
theorem lz_im_X9_carried : Cond.instanceMethod yX9_carried ∈ lw_good := sv_mem 871 (by decide +kernel) rfl
theorem lz_se_X9_carried : Cond.selects RX9 yX9_carried yX9_carried ∈ lw_good := sv_mem 872 (by decide +kernel) rfl
theorem lz_co_X11_carried : Cond.code yX11_carried cX11_carried 2 (some .int) ∈ lw_good := sv_mem 1444 (by decide +kernel) rfl
theorem lz_ml_90 : Cond.methodLink RL 90 yX11_carried ∈ lw_good := sv_mem 1441 (by decide +kernel) rfl
theorem lz_im_X11_carried : Cond.instanceMethod yX11_carried ∈ lw_good := sv_mem 1442 (by decide +kernel) rfl
theorem lz_se_X11_carried : Cond.selects RX11 yX11_carried yX11_carried ∈ lw_good := sv_mem 1443 (by decide +kernel) rfl
theorem lz_co_X9_street : Cond.code yX9_street cX9_street 4 (some .int) ∈ lw_good := sv_mem 877 (by decide +kernel) rfl
theorem lz_ml_91 : Cond.methodLink RL 91 yX9_street ∈ lw_good := sv_mem 874 (by decide +kernel) rfl
theorem lz_im_X9_street : Cond.instanceMethod yX9_street ∈ lw_good := sv_mem 875 (by decide +kernel) rfl
theorem lz_se_X9_street : Cond.selects RX9 yX9_street yX9_street ∈ lw_good := sv_mem 876 (by decide +kernel) rfl
theorem lz_co_X11_street : Cond.code yX11_street cX11_street 5 (some .int) ∈ lw_good := sv_mem 1448 (by decide +kernel) rfl
theorem lz_ml_94 : Cond.methodLink RL 94 yX11_street ∈ lw_good := sv_mem 1445 (by decide +kernel) rfl
theorem lz_im_X11_street : Cond.instanceMethod yX11_street ∈ lw_good := sv_mem 1446 (by decide +kernel) rfl
theorem lz_se_X11_street : Cond.selects RX11 yX11_street yX11_street ∈ lw_good := sv_mem 1447 (by decide +kernel) rfl
theorem lz_co_X9_begin : Cond.code yX9_begin cX9_begin 5 (some .int) ∈ lw_good := sv_mem 896 (by decide +kernel) rfl
theorem lz_ml_95 : Cond.methodLink RL 95 yX9_begin ∈ lw_good := sv_mem 893 (by decide +kernel) rfl
theorem lz_im_X9_begin : Cond.instanceMethod yX9_begin ∈ lw_good := sv_mem 894 (by decide +kernel) rfl
theorem lz_se_X9_begin : Cond.selects RX9 yX9_begin yX9_begin ∈ lw_good := sv_mem 895 (by decide +kernel) rfl
theorem lz_co_X11_begin : Cond.code yX11_begin cX11_begin 5 (some .int) ∈ lw_good := sv_mem 1457 (by decide +kernel) rfl
theorem lz_ml_98 : Cond.methodLink RL 98 yX11_begin ∈ lw_good := sv_mem 1454 (by decide +kernel) rfl
theorem lz_im_X11_begin : Cond.instanceMethod yX11_begin ∈ lw_good := sv_mem 1455 (by decide +kernel) rfl
theorem lz_se_X11_begin : Cond.selects RX11 yX11_begin yX11_begin ∈ lw_good := sv_mem 1456 (by decide +kernel) rfl
theorem lz_co_X9_goes : Cond.code yX9_goes cX9_goes 5 (some .int) ∈ lw_good := sv_mem 910 (by decide +kernel) rfl
theorem lz_ml_99 : Cond.methodLink RL 99 yX9_goes ∈ lw_good := sv_mem 907 (by decide +kernel) rfl
theorem lz_im_X9_goes : Cond.instanceMethod yX9_goes ∈ lw_good := sv_mem 908 (by decide +kernel) rfl
theorem lz_se_X9_goes : Cond.selects RX9 yX9_goes yX9_goes ∈ lw_good := sv_mem 909 (by decide +kernel) rfl
theorem lz_co_X11_goes : Cond.code yX11_goes cX11_goes 5 (some .int) ∈ lw_good := sv_mem 1467 (by decide +kernel) rfl
theorem lz_ml_102 : Cond.methodLink RL 102 yX11_goes ∈ lw_good := sv_mem 1464 (by decide +kernel) rfl
theorem lz_im_X11_goes : Cond.instanceMethod yX11_goes ∈ lw_good := sv_mem 1465 (by decide +kernel) rfl
theorem lz_se_X11_goes : Cond.selects RX11 yX11_goes yX11_goes ∈ lw_good := sv_mem 1466 (by decide +kernel) rfl
theorem lz_co_X9_late : Cond.code yX9_late cX9_late 4 (some .int) ∈ lw_good := sv_mem 927 (by decide +kernel) rfl
theorem lz_ml_103 : Cond.methodLink RL 103 yX9_late ∈ lw_good := sv_mem 924 (by decide +kernel) rfl
theorem lz_im_X9_late : Cond.instanceMethod yX9_late ∈ lw_good := sv_mem 925 (by decide +kernel) rfl
theorem lz_se_X9_late : Cond.selects RX9 yX9_late yX9_late ∈ lw_good := sv_mem 926 (by decide +kernel) rfl
theorem lz_co_X11_late : Cond.code yX11_late cX11_late 3 (some .int) ∈ lw_good := sv_mem 1471 (by decide +kernel) rfl
theorem lz_ml_106 : Cond.methodLink RL 106 yX11_late ∈ lw_good := sv_mem 1468 (by decide +kernel) rfl
theorem lz_im_X11_late : Cond.instanceMethod yX11_late ∈ lw_good := sv_mem 1469 (by decide +kernel) rfl
theorem lz_se_X11_late : Cond.selects RX11 yX11_late yX11_late ∈ lw_good := sv_mem 1470 (by decide +kernel) rfl
theorem lz_co_X9_procession : Cond.code yX9_procession cX9_procession 3 (some .int) ∈ lw_good := sv_mem 931 (by decide +kernel) rfl
theorem lz_ml_107 : Cond.methodLink RL 107 yX9_procession ∈ lw_good := sv_mem 928 (by decide +kernel) rfl
theorem lz_im_X9_procession : Cond.instanceMethod yX9_procession ∈ lw_good := sv_mem 929 (by decide +kernel) rfl
theorem lz_se_X9_procession : Cond.selects RX9 yX9_procession yX9_procession ∈ lw_good := sv_mem 930 (by decide +kernel) rfl
theorem lz_co_X11_procession : Cond.code yX11_procession cX11_procession 3 (some .int) ∈ lw_good := sv_mem 1476 (by decide +kernel) rfl
theorem lz_ml_110 : Cond.methodLink RL 110 yX11_procession ∈ lw_good := sv_mem 1473 (by decide +kernel) rfl
theorem lz_im_X11_procession : Cond.instanceMethod yX11_procession ∈ lw_good := sv_mem 1474 (by decide +kernel) rfl
theorem lz_se_X11_procession : Cond.selects RX11 yX11_procession yX11_procession ∈ lw_good := sv_mem 1475 (by decide +kernel) rfl
theorem lz_co_X9_meets : Cond.code yX9_meets cX9_meets 3 (some .int) ∈ lw_good := sv_mem 951 (by decide +kernel) rfl
theorem lz_ml_111 : Cond.methodLink RL 111 yX9_meets ∈ lw_good := sv_mem 948 (by decide +kernel) rfl
theorem lz_im_X9_meets : Cond.instanceMethod yX9_meets ∈ lw_good := sv_mem 949 (by decide +kernel) rfl
theorem lz_se_X9_meets : Cond.selects RX9 yX9_meets yX9_meets ∈ lw_good := sv_mem 950 (by decide +kernel) rfl
theorem lz_co_X11_meets : Cond.code yX11_meets cX11_meets 3 (some .int) ∈ lw_good := sv_mem 1485 (by decide +kernel) rfl
theorem lz_ml_115 : Cond.methodLink RL 115 yX11_meets ∈ lw_good := sv_mem 1482 (by decide +kernel) rfl
theorem lz_im_X11_meets : Cond.instanceMethod yX11_meets ∈ lw_good := sv_mem 1483 (by decide +kernel) rfl
theorem lz_se_X11_meets : Cond.selects RX11 yX11_meets yX11_meets ∈ lw_good := sv_mem 1484 (by decide +kernel) rfl
theorem lz_co_X9_meeting : Cond.code yX9_meeting cX9_meeting 3 (some .int) ∈ lw_good := sv_mem 955 (by decide +kernel) rfl
theorem lz_ml_116 : Cond.methodLink RL 116 yX9_meeting ∈ lw_good := sv_mem 974 (by decide +kernel) rfl
theorem lz_im_X9_meeting : Cond.instanceMethod yX9_meeting ∈ lw_good := sv_mem 953 (by decide +kernel) rfl
theorem lz_se_X9_meeting : Cond.selects RX9 yX9_meeting yX9_meeting ∈ lw_good := sv_mem 954 (by decide +kernel) rfl
theorem lz_co_X11_meeting : Cond.code yX11_meeting cX11_meeting 4 (some .int) ∈ lw_good := sv_mem 1502 (by decide +kernel) rfl
theorem lz_ml_119 : Cond.methodLink RL 119 yX11_meeting ∈ lw_good := sv_mem 1499 (by decide +kernel) rfl
theorem lz_im_X11_meeting : Cond.instanceMethod yX11_meeting ∈ lw_good := sv_mem 1500 (by decide +kernel) rfl
theorem lz_se_X11_meeting : Cond.selects RX11 yX11_meeting yX11_meeting ∈ lw_good := sv_mem 1501 (by decide +kernel) rfl
theorem lz_co_X9_timed : Cond.code yX9_timed cX9_timed 3 (some .int) ∈ lw_good := sv_mem 978 (by decide +kernel) rfl
theorem lz_ml_120 : Cond.methodLink RL 120 yX9_timed ∈ lw_good := sv_mem 975 (by decide +kernel) rfl
theorem lz_im_X9_timed : Cond.instanceMethod yX9_timed ∈ lw_good := sv_mem 976 (by decide +kernel) rfl
theorem lz_se_X9_timed : Cond.selects RX9 yX9_timed yX9_timed ∈ lw_good := sv_mem 977 (by decide +kernel) rfl
theorem lz_co_X11_timed : Cond.code yX11_timed cX11_timed 8 (some .int) ∈ lw_good := sv_mem 1506 (by decide +kernel) rfl
theorem lz_ml_123 : Cond.methodLink RL 123 yX11_timed ∈ lw_good := sv_mem 1503 (by decide +kernel) rfl
theorem lz_im_X11_timed : Cond.instanceMethod yX11_timed ∈ lw_good := sv_mem 1504 (by decide +kernel) rfl
theorem lz_se_X11_timed : Cond.selects RX11 yX11_timed yX11_timed ∈ lw_good := sv_mem 1505 (by decide +kernel) rfl
theorem lz_co_X9_count : Cond.code yX9_count cX9_count 2 (some .int) ∈ lw_good := sv_mem 994 (by decide +kernel) rfl
theorem lz_ml_124 : Cond.methodLink RL 124 yX9_count ∈ lw_good := sv_mem 991 (by decide +kernel) rfl
theorem lz_im_X9_count : Cond.instanceMethod yX9_count ∈ lw_good := sv_mem 992 (by decide +kernel) rfl
theorem lz_se_X9_count : Cond.selects RX9 yX9_count yX9_count ∈ lw_good := sv_mem 993 (by decide +kernel) rfl
theorem lz_co_X11_count : Cond.code yX11_count cX11_count 5 (some .int) ∈ lw_good := sv_mem 1510 (by decide +kernel) rfl
theorem lz_ml_127 : Cond.methodLink RL 127 yX11_count ∈ lw_good := sv_mem 1507 (by decide +kernel) rfl
theorem lz_im_X11_count : Cond.instanceMethod yX11_count ∈ lw_good := sv_mem 1508 (by decide +kernel) rfl
theorem lz_se_X11_count : Cond.selects RX11 yX11_count yX11_count ∈ lw_good := sv_mem 1509 (by decide +kernel) rfl
set_option maxHeartbeats 4000000 in
set_option maxRecDepth 100000 in
theorem lz_c0 {p : Program} {l : Launch} {e : Env} {s : State} {m : MethodId} {below : List Frame} {meth : Method} {c : Code} {g : sv_G} {A : Nat → Prop} {b : Nat} {xs : Nat → Int32} {ty : Nat → Nat} {σ : Nat → Nat → Int} {x mm : Nat} {L : Nat} {i : Int} (T : lz_K p s m meth c g A b L xs) (hL : L ≤ 3072) (hi : 0 ≤ i ∧ i + 6 ≤ (L : Int)) (Z : lz_S A ty σ x mm) (kk : ∀ σ2, lz_S A ty σ2 x mm → lz_V p l e s m below meth c b A 433 29939 (sv_H g ty σ2) 1193 [(0, sv_r b), (1, sv_r x), (2, sv_r mm), (3, sv_i i)] []) : lz_V p l e s m below meth c b A 433 29939 (sv_H g ty σ) 156 [(0, sv_r b), (1, sv_r x), (2, sv_r mm), (3, sv_i i)] [] := by
  obtain ⟨C, hX, hbl, hbA, hAs, hr⟩ := T
  obtain ⟨hok, hTA, hI, hx, hm, hR⟩ := Z
  obtain ⟨y1, hy1, ey1⟩ : ∃ z : Int, (-2147483648 ≤ z ∧ z ≤ 2147483647) ∧ (xs (i + 1).toNat).toInt = z := ⟨_, sv_ioin2 _, rfl⟩
  obtain ⟨y2, hy2, ey2⟩ : ∃ z : Int, (-2147483648 ≤ z ∧ z ≤ 2147483647) ∧ (xs (i + 2).toNat).toInt = z := ⟨_, sv_ioin2 _, rfl⟩
  obtain ⟨y3, hy3, ey3⟩ : ∃ z : Int, (-2147483648 ≤ z ∧ z ≤ 2147483647) ∧ (xs (i + 3).toNat).toInt = z := ⟨_, sv_ioin2 _, rfl⟩
  obtain ⟨y4, hy4, ey4⟩ : ∃ z : Int, (-2147483648 ≤ z ∧ z ≤ 2147483647) ∧ (xs (i + 4).toNat).toInt = z := ⟨_, sv_ioin2 _, rfl⟩
  obtain ⟨y5, hy5, ey5⟩ : ∃ z : Int, (-2147483648 ≤ z ∧ z ≤ 2147483647) ∧ (xs (i + 5).toNat).toInt = z := ⟨_, sv_ioin2 _, rfl⟩
  refine sv_go C.1 C.2.1 [(.aload_n 1, 1), (.aload_n 0, 1), (.iload_n 3, 1), (.iconst 1, 1), (.iadd, 1)] (pc' := 161) (by decide +kernel) rfl (lv' := [(0, sv_r b), (1, sv_r x), (2, sv_r mm), (3, sv_i i)]) (st' := [sv_i (i + 1), sv_r b, sv_r x]) rfl ?_
  refine sv_sld C hX hbl hbA (by omega) (j := (i + 1).toNat) (by decide +kernel) (by omega) (by omega) ?_
  rw [ey1]
  refine sv_go C.1 C.2.1 [(.aload_n 0, 1), (.iload_n 3, 1), (.iconst 2, 1), (.iadd, 1)] (pc' := 166) (by decide +kernel) rfl (lv' := [(0, sv_r b), (1, sv_r x), (2, sv_r mm), (3, sv_i i)]) (st' := [sv_i (i + 2), sv_r b, sv_i y1, sv_r x]) rfl ?_
  refine sv_sld C hX hbl hbA (by omega) (j := (i + 2).toNat) (by decide +kernel) (by omega) (by omega) ?_
  rw [ey2]
  refine sv_go C.1 C.2.1 [(.aload_n 0, 1), (.iload_n 3, 1), (.iconst 3, 1), (.iadd, 1)] (pc' := 171) (by decide +kernel) rfl (lv' := [(0, sv_r b), (1, sv_r x), (2, sv_r mm), (3, sv_i i)]) (st' := [sv_i (i + 3), sv_r b, sv_i y2, sv_i y1, sv_r x]) rfl ?_
  refine sv_sld C hX hbl hbA (by omega) (j := (i + 3).toNat) (by decide +kernel) (by omega) (by omega) ?_
  rw [ey3]
  refine sv_go C.1 C.2.1 [(.aload_n 0, 1), (.iload_n 3, 1), (.iconst 4, 1), (.iadd, 1)] (pc' := 176) (by decide +kernel) rfl (lv' := [(0, sv_r b), (1, sv_r x), (2, sv_r mm), (3, sv_i i)]) (st' := [sv_i (i + 4), sv_r b, sv_i y3, sv_i y2, sv_i y1, sv_r x]) rfl ?_
  refine sv_sld C hX hbl hbA (by omega) (j := (i + 4).toNat) (by decide +kernel) (by omega) (by omega) ?_
  rw [ey4]
  refine sv_go C.1 C.2.1 [(.aload_n 0, 1), (.iload_n 3, 1), (.iconst 5, 1), (.iadd, 1)] (pc' := 181) (by decide +kernel) rfl (lv' := [(0, sv_r b), (1, sv_r x), (2, sv_r mm), (3, sv_i i)]) (st' := [sv_i (i + 5), sv_r b, sv_i y4, sv_i y3, sv_i y2, sv_i y1, sv_r x]) rfl ?_
  refine sv_sld C hX hbl hbA (by omega) (j := (i + 5).toNat) (by decide +kernel) (by omega) (by omega) ?_
  rw [ey5]
  refine sv_cv C (index := 13) (k := 5) (rest := []) (as := [sv_i y1, sv_i y2, sv_i y3, sv_i y4, sv_i y5]) (ci := 8) (r := (RX9, TX9, 6)) (by decide +kernel) (sf_X9_feed l g A ty σ hok hTA hI x hx (y1) ⟨by omega, by omega⟩ (y2) ⟨by omega, by omega⟩ (y3) ⟨by omega, by omega⟩ (y4) ⟨by omega, by omega⟩ (y5) ⟨by omega, by omega⟩) ⟨lz_co_X9_feed, lz_in_X9, ⟨by decide, by decide, by decide +kernel⟩, Nat.le_of_ble_eq_true rfl, Nat.le_of_ble_eq_true rfl⟩ lz_ml_13 lz_im_X9_feed lz_se_X9_feed (by rw [hx]; rfl) rfl rfl rfl (Nat.le_of_ble_eq_true rfl) ⟨Nat.le_of_ble_eq_true rfl, Nat.le_of_ble_eq_true rfl⟩ (fun r1 σ1 hp1 hk1 => ?_)
  obtain ⟨⟨v1, rfl, hv1⟩, hI1, hF1⟩ := hp1
  refine sv_same (st2 := [sv_i v1]) (lv2 := [(0, sv_r b), (1, sv_r x), (2, sv_r mm), (3, sv_i i)]) rfl rfl ?_
  refine sv_go C.1 C.2.1 [(.pop, 1), (.aload_n 2, 1), (.aload_n 0, 1), (.iload_n 3, 1), (.iconst 1, 1), (.iadd, 1)] (pc' := 191) (by decide +kernel) rfl (lv' := [(0, sv_r b), (1, sv_r x), (2, sv_r mm), (3, sv_i i)]) (st' := [sv_i (i + 1), sv_r b, sv_r mm]) rfl ?_
  refine sv_sld C hX hbl hbA (by omega) (j := (i + 1).toNat) (by decide +kernel) (by omega) (by omega) ?_
  rw [ey1]
  refine sv_go C.1 C.2.1 [(.aload_n 0, 1), (.iload_n 3, 1), (.iconst 2, 1), (.iadd, 1)] (pc' := 196) (by decide +kernel) rfl (lv' := [(0, sv_r b), (1, sv_r x), (2, sv_r mm), (3, sv_i i)]) (st' := [sv_i (i + 2), sv_r b, sv_i y1, sv_r mm]) rfl ?_
  refine sv_sld C hX hbl hbA (by omega) (j := (i + 2).toNat) (by decide +kernel) (by omega) (by omega) ?_
  rw [ey2]
  refine sv_go C.1 C.2.1 [(.aload_n 0, 1), (.iload_n 3, 1), (.iconst 3, 1), (.iadd, 1)] (pc' := 201) (by decide +kernel) rfl (lv' := [(0, sv_r b), (1, sv_r x), (2, sv_r mm), (3, sv_i i)]) (st' := [sv_i (i + 3), sv_r b, sv_i y2, sv_i y1, sv_r mm]) rfl ?_
  refine sv_sld C hX hbl hbA (by omega) (j := (i + 3).toNat) (by decide +kernel) (by omega) (by omega) ?_
  rw [ey3]
  refine sv_go C.1 C.2.1 [(.aload_n 0, 1), (.iload_n 3, 1), (.iconst 4, 1), (.iadd, 1)] (pc' := 206) (by decide +kernel) rfl (lv' := [(0, sv_r b), (1, sv_r x), (2, sv_r mm), (3, sv_i i)]) (st' := [sv_i (i + 4), sv_r b, sv_i y3, sv_i y2, sv_i y1, sv_r mm]) rfl ?_
  refine sv_sld C hX hbl hbA (by omega) (j := (i + 4).toNat) (by decide +kernel) (by omega) (by omega) ?_
  rw [ey4]
  refine sv_go C.1 C.2.1 [(.aload_n 0, 1), (.iload_n 3, 1), (.iconst 5, 1), (.iadd, 1)] (pc' := 211) (by decide +kernel) rfl (lv' := [(0, sv_r b), (1, sv_r x), (2, sv_r mm), (3, sv_i i)]) (st' := [sv_i (i + 5), sv_r b, sv_i y4, sv_i y3, sv_i y2, sv_i y1, sv_r mm]) rfl ?_
  refine sv_sld C hX hbl hbA (by omega) (j := (i + 5).toNat) (by decide +kernel) (by omega) (by omega) ?_
  rw [ey5]
  refine sv_cv C (index := 17) (k := 5) (rest := []) (as := [sv_i y1, sv_i y2, sv_i y3, sv_i y4, sv_i y5]) (ci := 10) (r := (RX11, TX11, 47)) (by decide +kernel) (sf_X11_feed l g A ty σ1 hk1 hTA hI1 mm hm (y1) ⟨by omega, by omega⟩ (y2) ⟨by omega, by omega⟩ (y3) ⟨by omega, by omega⟩ (y4) ⟨by omega, by omega⟩ (y5) ⟨by omega, by omega⟩) ⟨lz_co_X11_feed, lz_in_X11, ⟨by decide, by decide, by decide +kernel⟩, Nat.le_of_ble_eq_true rfl, Nat.le_of_ble_eq_true rfl⟩ lz_ml_17 lz_im_X11_feed lz_se_X11_feed (by rw [hm]; rfl) rfl rfl rfl (Nat.le_of_ble_eq_true rfl) ⟨Nat.le_of_ble_eq_true rfl, Nat.le_of_ble_eq_true rfl⟩ (fun r2 σ2 hp2 hk2 => ?_)
  obtain ⟨⟨v2, rfl, hv2⟩, hI2, hF2⟩ := hp2
  refine sv_same (st2 := [sv_i v2]) (lv2 := [(0, sv_r b), (1, sv_r x), (2, sv_r mm), (3, sv_i i)]) rfl rfl ?_
  refine sv_go C.1 C.2.1 [(.pop, 1)] (pc' := 216) (by decide +kernel) rfl (lv' := [(0, sv_r b), (1, sv_r x), (2, sv_r mm), (3, sv_i i)]) (st' := []) rfl ?_
  refine sv_goto C.1 C.2.1 (off := 977) (by decide +kernel) (tgt := 1193) rfl ?_
  exact kk σ2 ⟨hk2, hTA, hI2, hx, hm, (lz_keep hx hm hF2 (by decide) (by decide) (by decide) (by decide) (by decide) (by decide) (lz_keep hx hm hF1 (by decide) (by decide) (by decide) (by decide) (by decide) (by decide) hR))⟩
set_option maxHeartbeats 4000000 in
set_option maxRecDepth 100000 in
theorem lz_c1 {p : Program} {l : Launch} {e : Env} {s : State} {m : MethodId} {below : List Frame} {meth : Method} {c : Code} {g : sv_G} {A : Nat → Prop} {b : Nat} {xs : Nat → Int32} {ty : Nat → Nat} {σ : Nat → Nat → Int} {x mm : Nat} {L : Nat} {i : Int} (T : lz_K p s m meth c g A b L xs) (hL : L ≤ 3072) (hi : 0 ≤ i ∧ i + 6 ≤ (L : Int)) (Z : lz_S A ty σ x mm) (kk : ∀ σ2, lz_S A ty σ2 x mm → lz_V p l e s m below meth c b A 433 29939 (sv_H g ty σ2) 1193 [(0, sv_r b), (1, sv_r x), (2, sv_r mm), (3, sv_i i)] []) : lz_V p l e s m below meth c b A 433 29939 (sv_H g ty σ) 219 [(0, sv_r b), (1, sv_r x), (2, sv_r mm), (3, sv_i i)] [] := by
  obtain ⟨C, hX, hbl, hbA, hAs, hr⟩ := T
  obtain ⟨hok, hTA, hI, hx, hm, hR⟩ := Z
  obtain ⟨y1, hy1, ey1⟩ : ∃ z : Int, (-2147483648 ≤ z ∧ z ≤ 2147483647) ∧ (xs (i + 1).toNat).toInt = z := ⟨_, sv_ioin2 _, rfl⟩
  refine sv_go C.1 C.2.1 [(.aload_n 1, 1), (.aload_n 0, 1), (.iload_n 3, 1), (.iconst 1, 1), (.iadd, 1)] (pc' := 224) (by decide +kernel) rfl (lv' := [(0, sv_r b), (1, sv_r x), (2, sv_r mm), (3, sv_i i)]) (st' := [sv_i (i + 1), sv_r b, sv_r x]) rfl ?_
  refine sv_sld C hX hbl hbA (by omega) (j := (i + 1).toNat) (by decide +kernel) (by omega) (by omega) ?_
  rw [ey1]
  refine sv_cv C (index := 18) (k := 1) (rest := []) (as := [sv_i y1]) (ci := 8) (r := (RX9, TX9, 6)) (by decide +kernel) (sf_X9_end l g A ty σ hok hTA hI x hx (y1) ⟨by omega, by omega⟩) ⟨lz_co_X9_end, lz_in_X9, ⟨by decide, by decide, by decide +kernel⟩, Nat.le_of_ble_eq_true rfl, Nat.le_of_ble_eq_true rfl⟩ lz_ml_18 lz_im_X9_end lz_se_X9_end (by rw [hx]; rfl) rfl rfl rfl (Nat.le_of_ble_eq_true rfl) ⟨Nat.le_of_ble_eq_true rfl, Nat.le_of_ble_eq_true rfl⟩ (fun r1 σ1 hp1 hk1 => ?_)
  obtain ⟨⟨v1, rfl, hv1⟩, hI1, hF1⟩ := hp1
  refine sv_same (st2 := [sv_i v1]) (lv2 := [(0, sv_r b), (1, sv_r x), (2, sv_r mm), (3, sv_i i)]) rfl rfl ?_
  refine sv_go C.1 C.2.1 [(.pop, 1), (.aload_n 2, 1), (.aload_n 0, 1), (.iload_n 3, 1), (.iconst 1, 1), (.iadd, 1)] (pc' := 234) (by decide +kernel) rfl (lv' := [(0, sv_r b), (1, sv_r x), (2, sv_r mm), (3, sv_i i)]) (st' := [sv_i (i + 1), sv_r b, sv_r mm]) rfl ?_
  refine sv_sld C hX hbl hbA (by omega) (j := (i + 1).toNat) (by decide +kernel) (by omega) (by omega) ?_
  rw [ey1]
  refine sv_cv C (index := 22) (k := 1) (rest := []) (as := [sv_i y1]) (ci := 10) (r := (RX11, TX11, 47)) (by decide +kernel) (sf_X11_end l g A ty σ1 hk1 hTA hI1 mm hm (y1) ⟨by omega, by omega⟩) ⟨lz_co_X11_end, lz_in_X11, ⟨by decide, by decide, by decide +kernel⟩, Nat.le_of_ble_eq_true rfl, Nat.le_of_ble_eq_true rfl⟩ lz_ml_22 lz_im_X11_end lz_se_X11_end (by rw [hm]; rfl) rfl rfl rfl (Nat.le_of_ble_eq_true rfl) ⟨Nat.le_of_ble_eq_true rfl, Nat.le_of_ble_eq_true rfl⟩ (fun r2 σ2 hp2 hk2 => ?_)
  obtain ⟨⟨v2, rfl, hv2⟩, hI2, hF2⟩ := hp2
  refine sv_same (st2 := [sv_i v2]) (lv2 := [(0, sv_r b), (1, sv_r x), (2, sv_r mm), (3, sv_i i)]) rfl rfl ?_
  refine sv_go C.1 C.2.1 [(.pop, 1)] (pc' := 239) (by decide +kernel) rfl (lv' := [(0, sv_r b), (1, sv_r x), (2, sv_r mm), (3, sv_i i)]) (st' := []) rfl ?_
  refine sv_goto C.1 C.2.1 (off := 954) (by decide +kernel) (tgt := 1193) rfl ?_
  exact kk σ2 ⟨hk2, hTA, hI2, hx, hm, (lz_keep hx hm hF2 (by decide) (by decide) (by decide) (by decide) (by decide) (by decide) (lz_keep hx hm hF1 (by decide) (by decide) (by decide) (by decide) (by decide) (by decide) hR))⟩
set_option maxHeartbeats 4000000 in
set_option maxRecDepth 100000 in
theorem lz_c2 {p : Program} {l : Launch} {e : Env} {s : State} {m : MethodId} {below : List Frame} {meth : Method} {c : Code} {g : sv_G} {A : Nat → Prop} {b : Nat} {xs : Nat → Int32} {ty : Nat → Nat} {σ : Nat → Nat → Int} {x mm : Nat} {L : Nat} {i : Int} (T : lz_K p s m meth c g A b L xs) (hL : L ≤ 3072) (hi : 0 ≤ i ∧ i + 6 ≤ (L : Int)) (Z : lz_S A ty σ x mm) (kk : ∀ σ2, lz_S A ty σ2 x mm → lz_V p l e s m below meth c b A 433 29939 (sv_H g ty σ2) 1193 [(0, sv_r b), (1, sv_r x), (2, sv_r mm), (3, sv_i i)] []) : lz_V p l e s m below meth c b A 433 29939 (sv_H g ty σ) 242 [(0, sv_r b), (1, sv_r x), (2, sv_r mm), (3, sv_i i)] [] := by
  obtain ⟨C, hX, hbl, hbA, hAs, hr⟩ := T
  obtain ⟨hok, hTA, hI, hx, hm, hR⟩ := Z
  obtain ⟨y1, hy1, ey1⟩ : ∃ z : Int, (-2147483648 ≤ z ∧ z ≤ 2147483647) ∧ (xs (i + 1).toNat).toInt = z := ⟨_, sv_ioin2 _, rfl⟩
  refine sv_go C.1 C.2.1 [(.aload_n 1, 1), (.aload_n 0, 1), (.iload_n 3, 1), (.iconst 1, 1), (.iadd, 1)] (pc' := 247) (by decide +kernel) rfl (lv' := [(0, sv_r b), (1, sv_r x), (2, sv_r mm), (3, sv_i i)]) (st' := [sv_i (i + 1), sv_r b, sv_r x]) rfl ?_
  refine sv_sld C hX hbl hbA (by omega) (j := (i + 1).toNat) (by decide +kernel) (by omega) (by omega) ?_
  rw [ey1]
  refine sv_cv C (index := 23) (k := 1) (rest := []) (as := [sv_i y1]) (ci := 8) (r := (RX9, TX9, 6)) (by decide +kernel) (sf_X9_calendar l g A ty σ hok hTA hI x hx (y1) ⟨by omega, by omega⟩) ⟨lz_co_X9_calendar, lz_in_X9, ⟨by decide, by decide, by decide +kernel⟩, Nat.le_of_ble_eq_true rfl, Nat.le_of_ble_eq_true rfl⟩ lz_ml_23 lz_im_X9_calendar lz_se_X9_calendar (by rw [hx]; rfl) rfl rfl rfl (Nat.le_of_ble_eq_true rfl) ⟨Nat.le_of_ble_eq_true rfl, Nat.le_of_ble_eq_true rfl⟩ (fun r1 σ1 hp1 hk1 => ?_)
  obtain ⟨⟨v1, rfl, hv1⟩, hI1, hF1⟩ := hp1
  refine sv_same (st2 := [sv_i v1]) (lv2 := [(0, sv_r b), (1, sv_r x), (2, sv_r mm), (3, sv_i i)]) rfl rfl ?_
  refine sv_go C.1 C.2.1 [(.pop, 1), (.aload_n 2, 1), (.aload_n 0, 1), (.iload_n 3, 1), (.iconst 1, 1), (.iadd, 1)] (pc' := 257) (by decide +kernel) rfl (lv' := [(0, sv_r b), (1, sv_r x), (2, sv_r mm), (3, sv_i i)]) (st' := [sv_i (i + 1), sv_r b, sv_r mm]) rfl ?_
  refine sv_sld C hX hbl hbA (by omega) (j := (i + 1).toNat) (by decide +kernel) (by omega) (by omega) ?_
  rw [ey1]
  refine sv_cvW C (index := 26) (k := 1) (rest := []) (as := [sv_i y1]) (ci := 10) (r := (RX11, TX11, 47)) (by decide +kernel) (sf_X11_calendar l g A ty σ1 hk1 hTA hI1 mm hm (y1) ⟨by omega, by omega⟩) lz_co_X11_calendar lz_in_X11 ⟨by decide, by decide, by decide +kernel⟩ (Nat.le_of_ble_eq_true rfl) (Nat.le_of_ble_eq_true rfl) lz_ml_26 lz_im_X11_calendar lz_se_X11_calendar (by rw [hm]; rfl) rfl rfl rfl (Nat.le_of_ble_eq_true rfl) ⟨Nat.le_of_ble_eq_true rfl, Nat.le_of_ble_eq_true rfl⟩ (fun r2 σ2 hp2 hk2 => ?_)
  obtain ⟨⟨v2, rfl, hv2⟩, hI2, hF2⟩ := hp2
  refine sv_same (st2 := [sv_i v2]) (lv2 := [(0, sv_r b), (1, sv_r x), (2, sv_r mm), (3, sv_i i)]) rfl rfl ?_
  refine sv_go C.1 C.2.1 [(.pop, 1)] (pc' := 262) (by decide +kernel) rfl (lv' := [(0, sv_r b), (1, sv_r x), (2, sv_r mm), (3, sv_i i)]) (st' := []) rfl ?_
  refine sv_goto C.1 C.2.1 (off := 931) (by decide +kernel) (tgt := 1193) rfl ?_
  exact kk σ2 ⟨hk2, hTA, hI2, hx, hm, (lz_keep hx hm hF2 (by decide) (by decide) (by decide) (by decide) (by decide) (by decide) (lz_keep hx hm hF1 (by decide) (by decide) (by decide) (by decide) (by decide) (by decide) hR))⟩
set_option maxHeartbeats 4000000 in
set_option maxRecDepth 100000 in
theorem lz_c3 {p : Program} {l : Launch} {e : Env} {s : State} {m : MethodId} {below : List Frame} {meth : Method} {c : Code} {g : sv_G} {A : Nat → Prop} {b : Nat} {xs : Nat → Int32} {ty : Nat → Nat} {σ : Nat → Nat → Int} {x mm : Nat} {L : Nat} {i : Int} (T : lz_K p s m meth c g A b L xs) (hL : L ≤ 3072) (hi : 0 ≤ i ∧ i + 6 ≤ (L : Int)) (Z : lz_S A ty σ x mm) (kk : ∀ σ2, lz_S A ty σ2 x mm → lz_V p l e s m below meth c b A 433 29939 (sv_H g ty σ2) 1193 [(0, sv_r b), (1, sv_r x), (2, sv_r mm), (3, sv_i i)] []) : lz_V p l e s m below meth c b A 433 29939 (sv_H g ty σ) 265 [(0, sv_r b), (1, sv_r x), (2, sv_r mm), (3, sv_i i)] [] := by
  obtain ⟨C, hX, hbl, hbA, hAs, hr⟩ := T
  obtain ⟨hok, hTA, hI, hx, hm, hR⟩ := Z
  obtain ⟨y1, hy1, ey1⟩ : ∃ z : Int, (-2147483648 ≤ z ∧ z ≤ 2147483647) ∧ (xs (i + 1).toNat).toInt = z := ⟨_, sv_ioin2 _, rfl⟩
  refine sv_go C.1 C.2.1 [(.aload_n 1, 1), (.aload_n 0, 1), (.iload_n 3, 1), (.iconst 1, 1), (.iadd, 1)] (pc' := 270) (by decide +kernel) rfl (lv' := [(0, sv_r b), (1, sv_r x), (2, sv_r mm), (3, sv_i i)]) (st' := [sv_i (i + 1), sv_r b, sv_r x]) rfl ?_
  refine sv_sld C hX hbl hbA (by omega) (j := (i + 1).toNat) (by decide +kernel) (by omega) (by omega) ?_
  rw [ey1]
  refine sv_cv C (index := 27) (k := 1) (rest := []) (as := [sv_i y1]) (ci := 8) (r := (RX9, TX9, 6)) (by decide +kernel) (sf_X9_fault l g A ty σ hok hTA hI x hx (y1) ⟨by omega, by omega⟩) ⟨lz_co_X9_fault, lz_in_X9, ⟨by decide, by decide, by decide +kernel⟩, Nat.le_of_ble_eq_true rfl, Nat.le_of_ble_eq_true rfl⟩ lz_ml_27 lz_im_X9_fault lz_se_X9_fault (by rw [hx]; rfl) rfl rfl rfl (Nat.le_of_ble_eq_true rfl) ⟨Nat.le_of_ble_eq_true rfl, Nat.le_of_ble_eq_true rfl⟩ (fun r1 σ1 hp1 hk1 => ?_)
  obtain ⟨hs1, ⟨v1, rfl, hv1⟩⟩ := hp1
  subst hs1
  refine sv_same (st2 := [sv_i v1]) (lv2 := [(0, sv_r b), (1, sv_r x), (2, sv_r mm), (3, sv_i i)]) rfl rfl ?_
  refine sv_go C.1 C.2.1 [(.pop, 1), (.aload_n 2, 1), (.aload_n 0, 1), (.iload_n 3, 1), (.iconst 1, 1), (.iadd, 1)] (pc' := 280) (by decide +kernel) rfl (lv' := [(0, sv_r b), (1, sv_r x), (2, sv_r mm), (3, sv_i i)]) (st' := [sv_i (i + 1), sv_r b, sv_r mm]) rfl ?_
  refine sv_sld C hX hbl hbA (by omega) (j := (i + 1).toNat) (by decide +kernel) (by omega) (by omega) ?_
  rw [ey1]
  refine sv_cv C (index := 30) (k := 1) (rest := []) (as := [sv_i y1]) (ci := 10) (r := (RX11, TX11, 47)) (by decide +kernel) (sf_X11_fault l g A ty σ hk1 hTA hI mm hm (y1) ⟨by omega, by omega⟩) ⟨lz_co_X11_fault, lz_in_X11, ⟨by decide, by decide, by decide +kernel⟩, Nat.le_of_ble_eq_true rfl, Nat.le_of_ble_eq_true rfl⟩ lz_ml_30 lz_im_X11_fault lz_se_X11_fault (by rw [hm]; rfl) rfl rfl rfl (Nat.le_of_ble_eq_true rfl) ⟨Nat.le_of_ble_eq_true rfl, Nat.le_of_ble_eq_true rfl⟩ (fun r2 σ2 hp2 hk2 => ?_)
  obtain ⟨hs2, ⟨v2, rfl, hv2⟩⟩ := hp2
  subst hs2
  refine sv_same (st2 := [sv_i v2]) (lv2 := [(0, sv_r b), (1, sv_r x), (2, sv_r mm), (3, sv_i i)]) rfl rfl ?_
  refine sv_go C.1 C.2.1 [(.pop, 1)] (pc' := 285) (by decide +kernel) rfl (lv' := [(0, sv_r b), (1, sv_r x), (2, sv_r mm), (3, sv_i i)]) (st' := []) rfl ?_
  refine sv_goto C.1 C.2.1 (off := 908) (by decide +kernel) (tgt := 1193) rfl ?_
  exact kk σ ⟨hk2, hTA, hI, hx, hm, hR⟩
set_option maxHeartbeats 4000000 in
set_option maxRecDepth 100000 in
theorem lz_c4 {p : Program} {l : Launch} {e : Env} {s : State} {m : MethodId} {below : List Frame} {meth : Method} {c : Code} {g : sv_G} {A : Nat → Prop} {b : Nat} {xs : Nat → Int32} {ty : Nat → Nat} {σ : Nat → Nat → Int} {x mm : Nat} {L : Nat} {i : Int} (T : lz_K p s m meth c g A b L xs) (hL : L ≤ 3072) (hi : 0 ≤ i ∧ i + 6 ≤ (L : Int)) (Z : lz_S A ty σ x mm) (kk : ∀ σ2, lz_S A ty σ2 x mm → lz_V p l e s m below meth c b A 433 29939 (sv_H g ty σ2) 1193 [(0, sv_r b), (1, sv_r x), (2, sv_r mm), (3, sv_i i)] []) : lz_V p l e s m below meth c b A 433 29939 (sv_H g ty σ) 288 [(0, sv_r b), (1, sv_r x), (2, sv_r mm), (3, sv_i i)] [] := by
  obtain ⟨C, hX, hbl, hbA, hAs, hr⟩ := T
  obtain ⟨hok, hTA, hI, hx, hm, hR⟩ := Z
  obtain ⟨y1, hy1, ey1⟩ : ∃ z : Int, (-2147483648 ≤ z ∧ z ≤ 2147483647) ∧ (xs (i + 1).toNat).toInt = z := ⟨_, sv_ioin2 _, rfl⟩
  obtain ⟨y2, hy2, ey2⟩ : ∃ z : Int, (-2147483648 ≤ z ∧ z ≤ 2147483647) ∧ (xs (i + 2).toNat).toInt = z := ⟨_, sv_ioin2 _, rfl⟩
  obtain ⟨y3, hy3, ey3⟩ : ∃ z : Int, (-2147483648 ≤ z ∧ z ≤ 2147483647) ∧ (xs (i + 3).toNat).toInt = z := ⟨_, sv_ioin2 _, rfl⟩
  refine sv_go C.1 C.2.1 [(.aload_n 1, 1), (.aload_n 0, 1), (.iload_n 3, 1), (.iconst 1, 1), (.iadd, 1)] (pc' := 293) (by decide +kernel) rfl (lv' := [(0, sv_r b), (1, sv_r x), (2, sv_r mm), (3, sv_i i)]) (st' := [sv_i (i + 1), sv_r b, sv_r x]) rfl ?_
  refine sv_sld C hX hbl hbA (by omega) (j := (i + 1).toNat) (by decide +kernel) (by omega) (by omega) ?_
  rw [ey1]
  refine sv_go C.1 C.2.1 [(.aload_n 0, 1), (.iload_n 3, 1), (.iconst 2, 1), (.iadd, 1)] (pc' := 298) (by decide +kernel) rfl (lv' := [(0, sv_r b), (1, sv_r x), (2, sv_r mm), (3, sv_i i)]) (st' := [sv_i (i + 2), sv_r b, sv_i y1, sv_r x]) rfl ?_
  refine sv_sld C hX hbl hbA (by omega) (j := (i + 2).toNat) (by decide +kernel) (by omega) (by omega) ?_
  rw [ey2]
  refine sv_go C.1 C.2.1 [(.aload_n 0, 1), (.iload_n 3, 1), (.iconst 3, 1), (.iadd, 1)] (pc' := 303) (by decide +kernel) rfl (lv' := [(0, sv_r b), (1, sv_r x), (2, sv_r mm), (3, sv_i i)]) (st' := [sv_i (i + 3), sv_r b, sv_i y2, sv_i y1, sv_r x]) rfl ?_
  refine sv_sld C hX hbl hbA (by omega) (j := (i + 3).toNat) (by decide +kernel) (by omega) (by omega) ?_
  rw [ey3]
  refine sv_cv C (index := 31) (k := 3) (rest := []) (as := [sv_i y1, sv_i y2, sv_i y3]) (ci := 8) (r := (RX9, TX9, 6)) (by decide +kernel) (sf_X9_feast l g A ty σ hok hTA hI x hx (y1) ⟨by omega, by omega⟩ (y2) ⟨by omega, by omega⟩ (y3) ⟨by omega, by omega⟩) ⟨lz_co_X9_feast, lz_in_X9, ⟨by decide, by decide, by decide +kernel⟩, Nat.le_of_ble_eq_true rfl, Nat.le_of_ble_eq_true rfl⟩ lz_ml_31 lz_im_X9_feast lz_se_X9_feast (by rw [hx]; rfl) rfl rfl rfl (Nat.le_of_ble_eq_true rfl) ⟨Nat.le_of_ble_eq_true rfl, Nat.le_of_ble_eq_true rfl⟩ (fun r1 σ1 hp1 hk1 => ?_)
  obtain ⟨hs1, ⟨v1, rfl, hv1⟩⟩ := hp1
  subst hs1
  refine sv_same (st2 := [sv_i v1]) (lv2 := [(0, sv_r b), (1, sv_r x), (2, sv_r mm), (3, sv_i i)]) rfl rfl ?_
  refine sv_go C.1 C.2.1 [(.pop, 1), (.aload_n 2, 1), (.aload_n 0, 1), (.iload_n 3, 1), (.iconst 1, 1), (.iadd, 1)] (pc' := 313) (by decide +kernel) rfl (lv' := [(0, sv_r b), (1, sv_r x), (2, sv_r mm), (3, sv_i i)]) (st' := [sv_i (i + 1), sv_r b, sv_r mm]) rfl ?_
  refine sv_sld C hX hbl hbA (by omega) (j := (i + 1).toNat) (by decide +kernel) (by omega) (by omega) ?_
  rw [ey1]
  refine sv_go C.1 C.2.1 [(.aload_n 0, 1), (.iload_n 3, 1), (.iconst 2, 1), (.iadd, 1)] (pc' := 318) (by decide +kernel) rfl (lv' := [(0, sv_r b), (1, sv_r x), (2, sv_r mm), (3, sv_i i)]) (st' := [sv_i (i + 2), sv_r b, sv_i y1, sv_r mm]) rfl ?_
  refine sv_sld C hX hbl hbA (by omega) (j := (i + 2).toNat) (by decide +kernel) (by omega) (by omega) ?_
  rw [ey2]
  refine sv_go C.1 C.2.1 [(.aload_n 0, 1), (.iload_n 3, 1), (.iconst 3, 1), (.iadd, 1)] (pc' := 323) (by decide +kernel) rfl (lv' := [(0, sv_r b), (1, sv_r x), (2, sv_r mm), (3, sv_i i)]) (st' := [sv_i (i + 3), sv_r b, sv_i y2, sv_i y1, sv_r mm]) rfl ?_
  refine sv_sld C hX hbl hbA (by omega) (j := (i + 3).toNat) (by decide +kernel) (by omega) (by omega) ?_
  rw [ey3]
  refine sv_cv C (index := 35) (k := 3) (rest := []) (as := [sv_i y1, sv_i y2, sv_i y3]) (ci := 10) (r := (RX11, TX11, 47)) (by decide +kernel) (sf_X11_feast l g A ty σ hk1 hTA hI mm hm (y1) ⟨by omega, by omega⟩ (y2) ⟨by omega, by omega⟩ (y3) ⟨by omega, by omega⟩) ⟨lz_co_X11_feast, lz_in_X11, ⟨by decide, by decide, by decide +kernel⟩, Nat.le_of_ble_eq_true rfl, Nat.le_of_ble_eq_true rfl⟩ lz_ml_35 lz_im_X11_feast lz_se_X11_feast (by rw [hm]; rfl) rfl rfl rfl (Nat.le_of_ble_eq_true rfl) ⟨Nat.le_of_ble_eq_true rfl, Nat.le_of_ble_eq_true rfl⟩ (fun r2 σ2 hp2 hk2 => ?_)
  obtain ⟨hs2, ⟨v2, rfl, hv2⟩⟩ := hp2
  subst hs2
  refine sv_same (st2 := [sv_i v2]) (lv2 := [(0, sv_r b), (1, sv_r x), (2, sv_r mm), (3, sv_i i)]) rfl rfl ?_
  refine sv_go C.1 C.2.1 [(.pop, 1)] (pc' := 328) (by decide +kernel) rfl (lv' := [(0, sv_r b), (1, sv_r x), (2, sv_r mm), (3, sv_i i)]) (st' := []) rfl ?_
  refine sv_goto C.1 C.2.1 (off := 865) (by decide +kernel) (tgt := 1193) rfl ?_
  exact kk σ ⟨hk2, hTA, hI, hx, hm, hR⟩
set_option maxHeartbeats 4000000 in
set_option maxRecDepth 100000 in
theorem lz_c5 {p : Program} {l : Launch} {e : Env} {s : State} {m : MethodId} {below : List Frame} {meth : Method} {c : Code} {g : sv_G} {A : Nat → Prop} {b : Nat} {xs : Nat → Int32} {ty : Nat → Nat} {σ : Nat → Nat → Int} {x mm : Nat} {L : Nat} {i : Int} (T : lz_K p s m meth c g A b L xs) (hL : L ≤ 3072) (hi : 0 ≤ i ∧ i + 6 ≤ (L : Int)) (Z : lz_S A ty σ x mm) (kk : ∀ σ2, lz_S A ty σ2 x mm → lz_V p l e s m below meth c b A 433 29939 (sv_H g ty σ2) 1193 [(0, sv_r b), (1, sv_r x), (2, sv_r mm), (3, sv_i i)] []) : lz_V p l e s m below meth c b A 433 29939 (sv_H g ty σ) 331 [(0, sv_r b), (1, sv_r x), (2, sv_r mm), (3, sv_i i)] [] := by
  obtain ⟨C, hX, hbl, hbA, hAs, hr⟩ := T
  obtain ⟨hok, hTA, hI, hx, hm, hR⟩ := Z
  obtain ⟨y1, hy1, ey1⟩ : ∃ z : Int, (-2147483648 ≤ z ∧ z ≤ 2147483647) ∧ (xs (i + 1).toNat).toInt = z := ⟨_, sv_ioin2 _, rfl⟩
  refine sv_go C.1 C.2.1 [(.aload_n 1, 1), (.aload_n 0, 1), (.iload_n 3, 1), (.iconst 1, 1), (.iadd, 1)] (pc' := 336) (by decide +kernel) rfl (lv' := [(0, sv_r b), (1, sv_r x), (2, sv_r mm), (3, sv_i i)]) (st' := [sv_i (i + 1), sv_r b, sv_r x]) rfl ?_
  refine sv_sld C hX hbl hbA (by omega) (j := (i + 1).toNat) (by decide +kernel) (by omega) (by omega) ?_
  rw [ey1]
  refine sv_cv C (index := 36) (k := 1) (rest := []) (as := [sv_i y1]) (ci := 8) (r := (RX9, TX9, 6)) (by decide +kernel) (sf_X9_easter l g A ty σ hok hTA hI x hx (y1) ⟨by omega, by omega⟩) ⟨lz_co_X9_easter, lz_in_X9, ⟨by decide, by decide, by decide +kernel⟩, Nat.le_of_ble_eq_true rfl, Nat.le_of_ble_eq_true rfl⟩ lz_ml_36 lz_im_X9_easter lz_se_X9_easter (by rw [hx]; rfl) rfl rfl rfl (Nat.le_of_ble_eq_true rfl) ⟨Nat.le_of_ble_eq_true rfl, Nat.le_of_ble_eq_true rfl⟩ (fun r1 σ1 hp1 hk1 => ?_)
  obtain ⟨hs1, ⟨v1, rfl, hv1⟩⟩ := hp1
  subst hs1
  refine sv_same (st2 := [sv_i v1]) (lv2 := [(0, sv_r b), (1, sv_r x), (2, sv_r mm), (3, sv_i i)]) rfl rfl ?_
  refine sv_go C.1 C.2.1 [(.pop, 1), (.aload_n 2, 1), (.aload_n 0, 1), (.iload_n 3, 1), (.iconst 1, 1), (.iadd, 1)] (pc' := 346) (by decide +kernel) rfl (lv' := [(0, sv_r b), (1, sv_r x), (2, sv_r mm), (3, sv_i i)]) (st' := [sv_i (i + 1), sv_r b, sv_r mm]) rfl ?_
  refine sv_sld C hX hbl hbA (by omega) (j := (i + 1).toNat) (by decide +kernel) (by omega) (by omega) ?_
  rw [ey1]
  refine sv_cv C (index := 39) (k := 1) (rest := []) (as := [sv_i y1]) (ci := 10) (r := (RX11, TX11, 47)) (by decide +kernel) (sf_X11_easter l g A ty σ hk1 hTA hI mm hm (y1) ⟨by omega, by omega⟩) ⟨lz_co_X11_easter, lz_in_X11, ⟨by decide, by decide, by decide +kernel⟩, Nat.le_of_ble_eq_true rfl, Nat.le_of_ble_eq_true rfl⟩ lz_ml_39 lz_im_X11_easter lz_se_X11_easter (by rw [hm]; rfl) rfl rfl rfl (Nat.le_of_ble_eq_true rfl) ⟨Nat.le_of_ble_eq_true rfl, Nat.le_of_ble_eq_true rfl⟩ (fun r2 σ2 hp2 hk2 => ?_)
  obtain ⟨hs2, ⟨v2, rfl, hv2⟩⟩ := hp2
  subst hs2
  refine sv_same (st2 := [sv_i v2]) (lv2 := [(0, sv_r b), (1, sv_r x), (2, sv_r mm), (3, sv_i i)]) rfl rfl ?_
  refine sv_go C.1 C.2.1 [(.pop, 1)] (pc' := 351) (by decide +kernel) rfl (lv' := [(0, sv_r b), (1, sv_r x), (2, sv_r mm), (3, sv_i i)]) (st' := []) rfl ?_
  refine sv_goto C.1 C.2.1 (off := 842) (by decide +kernel) (tgt := 1193) rfl ?_
  exact kk σ ⟨hk2, hTA, hI, hx, hm, hR⟩
set_option maxHeartbeats 4000000 in
set_option maxRecDepth 100000 in
theorem lz_c6 {p : Program} {l : Launch} {e : Env} {s : State} {m : MethodId} {below : List Frame} {meth : Method} {c : Code} {g : sv_G} {A : Nat → Prop} {b : Nat} {xs : Nat → Int32} {ty : Nat → Nat} {σ : Nat → Nat → Int} {x mm : Nat} {L : Nat} {i : Int} (T : lz_K p s m meth c g A b L xs) (hL : L ≤ 3072) (hi : 0 ≤ i ∧ i + 6 ≤ (L : Int)) (Z : lz_S A ty σ x mm) (kk : ∀ σ2, lz_S A ty σ2 x mm → lz_V p l e s m below meth c b A 433 29939 (sv_H g ty σ2) 1193 [(0, sv_r b), (1, sv_r x), (2, sv_r mm), (3, sv_i i)] []) : lz_V p l e s m below meth c b A 433 29939 (sv_H g ty σ) 354 [(0, sv_r b), (1, sv_r x), (2, sv_r mm), (3, sv_i i)] [] := by
  obtain ⟨C, hX, hbl, hbA, hAs, hr⟩ := T
  obtain ⟨hok, hTA, hI, hx, hm, hR⟩ := Z
  obtain ⟨y1, hy1, ey1⟩ : ∃ z : Int, (-2147483648 ≤ z ∧ z ≤ 2147483647) ∧ (xs (i + 1).toNat).toInt = z := ⟨_, sv_ioin2 _, rfl⟩
  obtain ⟨y2, hy2, ey2⟩ : ∃ z : Int, (-2147483648 ≤ z ∧ z ≤ 2147483647) ∧ (xs (i + 2).toNat).toInt = z := ⟨_, sv_ioin2 _, rfl⟩
  obtain ⟨y3, hy3, ey3⟩ : ∃ z : Int, (-2147483648 ≤ z ∧ z ≤ 2147483647) ∧ (xs (i + 3).toNat).toInt = z := ⟨_, sv_ioin2 _, rfl⟩
  refine sv_go C.1 C.2.1 [(.aload_n 1, 1), (.aload_n 0, 1), (.iload_n 3, 1), (.iconst 1, 1), (.iadd, 1)] (pc' := 359) (by decide +kernel) rfl (lv' := [(0, sv_r b), (1, sv_r x), (2, sv_r mm), (3, sv_i i)]) (st' := [sv_i (i + 1), sv_r b, sv_r x]) rfl ?_
  refine sv_sld C hX hbl hbA (by omega) (j := (i + 1).toNat) (by decide +kernel) (by omega) (by omega) ?_
  rw [ey1]
  refine sv_go C.1 C.2.1 [(.aload_n 0, 1), (.iload_n 3, 1), (.iconst 2, 1), (.iadd, 1)] (pc' := 364) (by decide +kernel) rfl (lv' := [(0, sv_r b), (1, sv_r x), (2, sv_r mm), (3, sv_i i)]) (st' := [sv_i (i + 2), sv_r b, sv_i y1, sv_r x]) rfl ?_
  refine sv_sld C hX hbl hbA (by omega) (j := (i + 2).toNat) (by decide +kernel) (by omega) (by omega) ?_
  rw [ey2]
  refine sv_go C.1 C.2.1 [(.aload_n 0, 1), (.iload_n 3, 1), (.iconst 3, 1), (.iadd, 1)] (pc' := 369) (by decide +kernel) rfl (lv' := [(0, sv_r b), (1, sv_r x), (2, sv_r mm), (3, sv_i i)]) (st' := [sv_i (i + 3), sv_r b, sv_i y2, sv_i y1, sv_r x]) rfl ?_
  refine sv_sld C hX hbl hbA (by omega) (j := (i + 3).toNat) (by decide +kernel) (by omega) (by omega) ?_
  rw [ey3]
  refine sv_cv C (index := 40) (k := 3) (rest := []) (as := [sv_i y1, sv_i y2, sv_i y3]) (ci := 8) (r := (RX9, TX9, 6)) (by decide +kernel) (sf_X9_date l g A ty σ hok hTA hI x hx (y1) ⟨by omega, by omega⟩ (y2) ⟨by omega, by omega⟩ (y3) ⟨by omega, by omega⟩) ⟨lz_co_X9_date, lz_in_X9, ⟨by decide, by decide, by decide +kernel⟩, Nat.le_of_ble_eq_true rfl, Nat.le_of_ble_eq_true rfl⟩ lz_ml_40 lz_im_X9_date lz_se_X9_date (by rw [hx]; rfl) rfl rfl rfl (Nat.le_of_ble_eq_true rfl) ⟨Nat.le_of_ble_eq_true rfl, Nat.le_of_ble_eq_true rfl⟩ (fun r1 σ1 hp1 hk1 => ?_)
  obtain ⟨hs1, ⟨v1, rfl, hv1⟩⟩ := hp1
  subst hs1
  refine sv_same (st2 := [sv_i v1]) (lv2 := [(0, sv_r b), (1, sv_r x), (2, sv_r mm), (3, sv_i i)]) rfl rfl ?_
  refine sv_go C.1 C.2.1 [(.pop, 1), (.aload_n 2, 1), (.aload_n 0, 1), (.iload_n 3, 1), (.iconst 1, 1), (.iadd, 1)] (pc' := 379) (by decide +kernel) rfl (lv' := [(0, sv_r b), (1, sv_r x), (2, sv_r mm), (3, sv_i i)]) (st' := [sv_i (i + 1), sv_r b, sv_r mm]) rfl ?_
  refine sv_sld C hX hbl hbA (by omega) (j := (i + 1).toNat) (by decide +kernel) (by omega) (by omega) ?_
  rw [ey1]
  refine sv_go C.1 C.2.1 [(.aload_n 0, 1), (.iload_n 3, 1), (.iconst 2, 1), (.iadd, 1)] (pc' := 384) (by decide +kernel) rfl (lv' := [(0, sv_r b), (1, sv_r x), (2, sv_r mm), (3, sv_i i)]) (st' := [sv_i (i + 2), sv_r b, sv_i y1, sv_r mm]) rfl ?_
  refine sv_sld C hX hbl hbA (by omega) (j := (i + 2).toNat) (by decide +kernel) (by omega) (by omega) ?_
  rw [ey2]
  refine sv_go C.1 C.2.1 [(.aload_n 0, 1), (.iload_n 3, 1), (.iconst 3, 1), (.iadd, 1)] (pc' := 389) (by decide +kernel) rfl (lv' := [(0, sv_r b), (1, sv_r x), (2, sv_r mm), (3, sv_i i)]) (st' := [sv_i (i + 3), sv_r b, sv_i y2, sv_i y1, sv_r mm]) rfl ?_
  refine sv_sld C hX hbl hbA (by omega) (j := (i + 3).toNat) (by decide +kernel) (by omega) (by omega) ?_
  rw [ey3]
  refine sv_cv C (index := 43) (k := 3) (rest := []) (as := [sv_i y1, sv_i y2, sv_i y3]) (ci := 10) (r := (RX11, TX11, 47)) (by decide +kernel) (sf_X11_date l g A ty σ hk1 hTA hI mm hm (y1) ⟨by omega, by omega⟩ (y2) ⟨by omega, by omega⟩ (y3) ⟨by omega, by omega⟩) ⟨lz_co_X11_date, lz_in_X11, ⟨by decide, by decide, by decide +kernel⟩, Nat.le_of_ble_eq_true rfl, Nat.le_of_ble_eq_true rfl⟩ lz_ml_43 lz_im_X11_date lz_se_X11_date (by rw [hm]; rfl) rfl rfl rfl (Nat.le_of_ble_eq_true rfl) ⟨Nat.le_of_ble_eq_true rfl, Nat.le_of_ble_eq_true rfl⟩ (fun r2 σ2 hp2 hk2 => ?_)
  obtain ⟨hs2, ⟨v2, rfl, hv2⟩⟩ := hp2
  subst hs2
  refine sv_same (st2 := [sv_i v2]) (lv2 := [(0, sv_r b), (1, sv_r x), (2, sv_r mm), (3, sv_i i)]) rfl rfl ?_
  refine sv_go C.1 C.2.1 [(.pop, 1)] (pc' := 394) (by decide +kernel) rfl (lv' := [(0, sv_r b), (1, sv_r x), (2, sv_r mm), (3, sv_i i)]) (st' := []) rfl ?_
  refine sv_goto C.1 C.2.1 (off := 799) (by decide +kernel) (tgt := 1193) rfl ?_
  exact kk σ ⟨hk2, hTA, hI, hx, hm, hR⟩
set_option maxHeartbeats 4000000 in
set_option maxRecDepth 100000 in
theorem lz_c7 {p : Program} {l : Launch} {e : Env} {s : State} {m : MethodId} {below : List Frame} {meth : Method} {c : Code} {g : sv_G} {A : Nat → Prop} {b : Nat} {xs : Nat → Int32} {ty : Nat → Nat} {σ : Nat → Nat → Int} {x mm : Nat} {L : Nat} {i : Int} (T : lz_K p s m meth c g A b L xs) (hL : L ≤ 3072) (hi : 0 ≤ i ∧ i + 6 ≤ (L : Int)) (Z : lz_S A ty σ x mm) (kk : ∀ σ2, lz_S A ty σ2 x mm → lz_V p l e s m below meth c b A 433 29939 (sv_H g ty σ2) 1193 [(0, sv_r b), (1, sv_r x), (2, sv_r mm), (3, sv_i i)] []) : lz_V p l e s m below meth c b A 433 29939 (sv_H g ty σ) 397 [(0, sv_r b), (1, sv_r x), (2, sv_r mm), (3, sv_i i)] [] := by
  obtain ⟨C, hX, hbl, hbA, hAs, hr⟩ := T
  obtain ⟨hok, hTA, hI, hx, hm, hR⟩ := Z
  obtain ⟨y1, hy1, ey1⟩ : ∃ z : Int, (-2147483648 ≤ z ∧ z ≤ 2147483647) ∧ (xs (i + 1).toNat).toInt = z := ⟨_, sv_ioin2 _, rfl⟩
  obtain ⟨y2, hy2, ey2⟩ : ∃ z : Int, (-2147483648 ≤ z ∧ z ≤ 2147483647) ∧ (xs (i + 2).toNat).toInt = z := ⟨_, sv_ioin2 _, rfl⟩
  obtain ⟨y3, hy3, ey3⟩ : ∃ z : Int, (-2147483648 ≤ z ∧ z ≤ 2147483647) ∧ (xs (i + 3).toNat).toInt = z := ⟨_, sv_ioin2 _, rfl⟩
  refine sv_go C.1 C.2.1 [(.aload_n 1, 1), (.aload_n 0, 1), (.iload_n 3, 1), (.iconst 1, 1), (.iadd, 1)] (pc' := 402) (by decide +kernel) rfl (lv' := [(0, sv_r b), (1, sv_r x), (2, sv_r mm), (3, sv_i i)]) (st' := [sv_i (i + 1), sv_r b, sv_r x]) rfl ?_
  refine sv_sld C hX hbl hbA (by omega) (j := (i + 1).toNat) (by decide +kernel) (by omega) (by omega) ?_
  rw [ey1]
  refine sv_go C.1 C.2.1 [(.aload_n 0, 1), (.iload_n 3, 1), (.iconst 2, 1), (.iadd, 1)] (pc' := 407) (by decide +kernel) rfl (lv' := [(0, sv_r b), (1, sv_r x), (2, sv_r mm), (3, sv_i i)]) (st' := [sv_i (i + 2), sv_r b, sv_i y1, sv_r x]) rfl ?_
  refine sv_sld C hX hbl hbA (by omega) (j := (i + 2).toNat) (by decide +kernel) (by omega) (by omega) ?_
  rw [ey2]
  refine sv_go C.1 C.2.1 [(.aload_n 0, 1), (.iload_n 3, 1), (.iconst 3, 1), (.iadd, 1)] (pc' := 412) (by decide +kernel) rfl (lv' := [(0, sv_r b), (1, sv_r x), (2, sv_r mm), (3, sv_i i)]) (st' := [sv_i (i + 3), sv_r b, sv_i y2, sv_i y1, sv_r x]) rfl ?_
  refine sv_sld C hX hbl hbA (by omega) (j := (i + 3).toNat) (by decide +kernel) (by omega) (by omega) ?_
  rw [ey3]
  refine sv_cv C (index := 44) (k := 3) (rest := []) (as := [sv_i y1, sv_i y2, sv_i y3]) (ci := 8) (r := (RX9, TX9, 6)) (by decide +kernel) (sf_X9_office l g A ty σ hok hTA hI x hx (y1) ⟨by omega, by omega⟩ (y2) ⟨by omega, by omega⟩ (y3) ⟨by omega, by omega⟩) ⟨lz_co_X9_office, lz_in_X9, ⟨by decide, by decide, by decide +kernel⟩, Nat.le_of_ble_eq_true rfl, Nat.le_of_ble_eq_true rfl⟩ lz_ml_44 lz_im_X9_office lz_se_X9_office (by rw [hx]; rfl) rfl rfl rfl (Nat.le_of_ble_eq_true rfl) ⟨Nat.le_of_ble_eq_true rfl, Nat.le_of_ble_eq_true rfl⟩ (fun r1 σ1 hp1 hk1 => ?_)
  obtain ⟨⟨v1, rfl, hv1⟩, hI1, hF1⟩ := hp1
  refine sv_same (st2 := [sv_i v1]) (lv2 := [(0, sv_r b), (1, sv_r x), (2, sv_r mm), (3, sv_i i)]) rfl rfl ?_
  refine sv_go C.1 C.2.1 [(.pop, 1), (.aload_n 2, 1), (.aload_n 0, 1), (.iload_n 3, 1), (.iconst 1, 1), (.iadd, 1)] (pc' := 422) (by decide +kernel) rfl (lv' := [(0, sv_r b), (1, sv_r x), (2, sv_r mm), (3, sv_i i)]) (st' := [sv_i (i + 1), sv_r b, sv_r mm]) rfl ?_
  refine sv_sld C hX hbl hbA (by omega) (j := (i + 1).toNat) (by decide +kernel) (by omega) (by omega) ?_
  rw [ey1]
  refine sv_go C.1 C.2.1 [(.aload_n 0, 1), (.iload_n 3, 1), (.iconst 2, 1), (.iadd, 1)] (pc' := 427) (by decide +kernel) rfl (lv' := [(0, sv_r b), (1, sv_r x), (2, sv_r mm), (3, sv_i i)]) (st' := [sv_i (i + 2), sv_r b, sv_i y1, sv_r mm]) rfl ?_
  refine sv_sld C hX hbl hbA (by omega) (j := (i + 2).toNat) (by decide +kernel) (by omega) (by omega) ?_
  rw [ey2]
  refine sv_go C.1 C.2.1 [(.aload_n 0, 1), (.iload_n 3, 1), (.iconst 3, 1), (.iadd, 1)] (pc' := 432) (by decide +kernel) rfl (lv' := [(0, sv_r b), (1, sv_r x), (2, sv_r mm), (3, sv_i i)]) (st' := [sv_i (i + 3), sv_r b, sv_i y2, sv_i y1, sv_r mm]) rfl ?_
  refine sv_sld C hX hbl hbA (by omega) (j := (i + 3).toNat) (by decide +kernel) (by omega) (by omega) ?_
  rw [ey3]
  refine sv_cv C (index := 47) (k := 3) (rest := []) (as := [sv_i y1, sv_i y2, sv_i y3]) (ci := 10) (r := (RX11, TX11, 47)) (by decide +kernel) (sf_X11_office l g A ty σ1 hk1 hTA hI1 mm hm (y1) ⟨by omega, by omega⟩ (y2) ⟨by omega, by omega⟩ (y3) ⟨by omega, by omega⟩) ⟨lz_co_X11_office, lz_in_X11, ⟨by decide, by decide, by decide +kernel⟩, Nat.le_of_ble_eq_true rfl, Nat.le_of_ble_eq_true rfl⟩ lz_ml_47 lz_im_X11_office lz_se_X11_office (by rw [hm]; rfl) rfl rfl rfl (Nat.le_of_ble_eq_true rfl) ⟨Nat.le_of_ble_eq_true rfl, Nat.le_of_ble_eq_true rfl⟩ (fun r2 σ2 hp2 hk2 => ?_)
  obtain ⟨⟨v2, rfl, hv2⟩, hI2, hF2⟩ := hp2
  refine sv_same (st2 := [sv_i v2]) (lv2 := [(0, sv_r b), (1, sv_r x), (2, sv_r mm), (3, sv_i i)]) rfl rfl ?_
  refine sv_go C.1 C.2.1 [(.pop, 1)] (pc' := 437) (by decide +kernel) rfl (lv' := [(0, sv_r b), (1, sv_r x), (2, sv_r mm), (3, sv_i i)]) (st' := []) rfl ?_
  refine sv_goto C.1 C.2.1 (off := 756) (by decide +kernel) (tgt := 1193) rfl ?_
  exact kk σ2 ⟨hk2, hTA, hI2, hx, hm, (lz_keep hx hm hF2 (by decide) (by decide) (by decide) (by decide) (by decide) (by decide) (lz_keep hx hm hF1 (by decide) (by decide) (by decide) (by decide) (by decide) (by decide) hR))⟩
set_option maxHeartbeats 4000000 in
set_option maxRecDepth 100000 in
theorem lz_c8 {p : Program} {l : Launch} {e : Env} {s : State} {m : MethodId} {below : List Frame} {meth : Method} {c : Code} {g : sv_G} {A : Nat → Prop} {b : Nat} {xs : Nat → Int32} {ty : Nat → Nat} {σ : Nat → Nat → Int} {x mm : Nat} {L : Nat} {i : Int} (T : lz_K p s m meth c g A b L xs) (hL : L ≤ 3072) (hi : 0 ≤ i ∧ i + 6 ≤ (L : Int)) (Z : lz_S A ty σ x mm) (kk : ∀ σ2, lz_S A ty σ2 x mm → lz_V p l e s m below meth c b A 433 29939 (sv_H g ty σ2) 1193 [(0, sv_r b), (1, sv_r x), (2, sv_r mm), (3, sv_i i)] []) : lz_V p l e s m below meth c b A 433 29939 (sv_H g ty σ) 440 [(0, sv_r b), (1, sv_r x), (2, sv_r mm), (3, sv_i i)] [] := by
  obtain ⟨C, hX, hbl, hbA, hAs, hr⟩ := T
  obtain ⟨hok, hTA, hI, hx, hm, hR⟩ := Z
  obtain ⟨y1, hy1, ey1⟩ : ∃ z : Int, (-2147483648 ≤ z ∧ z ≤ 2147483647) ∧ (xs (i + 1).toNat).toInt = z := ⟨_, sv_ioin2 _, rfl⟩
  obtain ⟨y2, hy2, ey2⟩ : ∃ z : Int, (-2147483648 ≤ z ∧ z ≤ 2147483647) ∧ (xs (i + 2).toNat).toInt = z := ⟨_, sv_ioin2 _, rfl⟩
  obtain ⟨y3, hy3, ey3⟩ : ∃ z : Int, (-2147483648 ≤ z ∧ z ≤ 2147483647) ∧ (xs (i + 3).toNat).toInt = z := ⟨_, sv_ioin2 _, rfl⟩
  refine sv_go C.1 C.2.1 [(.aload_n 1, 1), (.aload_n 0, 1), (.iload_n 3, 1), (.iconst 1, 1), (.iadd, 1)] (pc' := 445) (by decide +kernel) rfl (lv' := [(0, sv_r b), (1, sv_r x), (2, sv_r mm), (3, sv_i i)]) (st' := [sv_i (i + 1), sv_r b, sv_r x]) rfl ?_
  refine sv_sld C hX hbl hbA (by omega) (j := (i + 1).toNat) (by decide +kernel) (by omega) (by omega) ?_
  rw [ey1]
  refine sv_go C.1 C.2.1 [(.aload_n 0, 1), (.iload_n 3, 1), (.iconst 2, 1), (.iadd, 1)] (pc' := 450) (by decide +kernel) rfl (lv' := [(0, sv_r b), (1, sv_r x), (2, sv_r mm), (3, sv_i i)]) (st' := [sv_i (i + 2), sv_r b, sv_i y1, sv_r x]) rfl ?_
  refine sv_sld C hX hbl hbA (by omega) (j := (i + 2).toNat) (by decide +kernel) (by omega) (by omega) ?_
  rw [ey2]
  refine sv_go C.1 C.2.1 [(.aload_n 0, 1), (.iload_n 3, 1), (.iconst 3, 1), (.iadd, 1)] (pc' := 455) (by decide +kernel) rfl (lv' := [(0, sv_r b), (1, sv_r x), (2, sv_r mm), (3, sv_i i)]) (st' := [sv_i (i + 3), sv_r b, sv_i y2, sv_i y1, sv_r x]) rfl ?_
  refine sv_sld C hX hbl hbA (by omega) (j := (i + 3).toNat) (by decide +kernel) (by omega) (by omega) ?_
  rw [ey3]
  refine sv_cv C (index := 48) (k := 3) (rest := []) (as := [sv_i y1, sv_i y2, sv_i y3]) (ci := 8) (r := (RX9, TX9, 6)) (by decide +kernel) (sf_X9_held l g A ty σ hok hTA hI x hx (y1) ⟨by omega, by omega⟩ (y2) ⟨by omega, by omega⟩ (y3) ⟨by omega, by omega⟩) ⟨lz_co_X9_held, lz_in_X9, ⟨by decide, by decide, by decide +kernel⟩, Nat.le_of_ble_eq_true rfl, Nat.le_of_ble_eq_true rfl⟩ lz_ml_48 lz_im_X9_held lz_se_X9_held (by rw [hx]; rfl) rfl rfl rfl (Nat.le_of_ble_eq_true rfl) ⟨Nat.le_of_ble_eq_true rfl, Nat.le_of_ble_eq_true rfl⟩ (fun r1 σ1 hp1 hk1 => ?_)
  obtain ⟨⟨v1, rfl, hv1⟩, hI1, hF1⟩ := hp1
  refine sv_same (st2 := [sv_i v1]) (lv2 := [(0, sv_r b), (1, sv_r x), (2, sv_r mm), (3, sv_i i)]) rfl rfl ?_
  refine sv_go C.1 C.2.1 [(.pop, 1), (.aload_n 2, 1), (.aload_n 0, 1), (.iload_n 3, 1), (.iconst 1, 1), (.iadd, 1)] (pc' := 465) (by decide +kernel) rfl (lv' := [(0, sv_r b), (1, sv_r x), (2, sv_r mm), (3, sv_i i)]) (st' := [sv_i (i + 1), sv_r b, sv_r mm]) rfl ?_
  refine sv_sld C hX hbl hbA (by omega) (j := (i + 1).toNat) (by decide +kernel) (by omega) (by omega) ?_
  rw [ey1]
  refine sv_go C.1 C.2.1 [(.aload_n 0, 1), (.iload_n 3, 1), (.iconst 2, 1), (.iadd, 1)] (pc' := 470) (by decide +kernel) rfl (lv' := [(0, sv_r b), (1, sv_r x), (2, sv_r mm), (3, sv_i i)]) (st' := [sv_i (i + 2), sv_r b, sv_i y1, sv_r mm]) rfl ?_
  refine sv_sld C hX hbl hbA (by omega) (j := (i + 2).toNat) (by decide +kernel) (by omega) (by omega) ?_
  rw [ey2]
  refine sv_go C.1 C.2.1 [(.aload_n 0, 1), (.iload_n 3, 1), (.iconst 3, 1), (.iadd, 1)] (pc' := 475) (by decide +kernel) rfl (lv' := [(0, sv_r b), (1, sv_r x), (2, sv_r mm), (3, sv_i i)]) (st' := [sv_i (i + 3), sv_r b, sv_i y2, sv_i y1, sv_r mm]) rfl ?_
  refine sv_sld C hX hbl hbA (by omega) (j := (i + 3).toNat) (by decide +kernel) (by omega) (by omega) ?_
  rw [ey3]
  refine sv_cv C (index := 51) (k := 3) (rest := []) (as := [sv_i y1, sv_i y2, sv_i y3]) (ci := 10) (r := (RX11, TX11, 47)) (by decide +kernel) (sf_X11_held l g A ty σ1 hk1 hTA hI1 mm hm (y1) ⟨by omega, by omega⟩ (y2) ⟨by omega, by omega⟩ (y3) ⟨by omega, by omega⟩) ⟨lz_co_X11_held, lz_in_X11, ⟨by decide, by decide, by decide +kernel⟩, Nat.le_of_ble_eq_true rfl, Nat.le_of_ble_eq_true rfl⟩ lz_ml_51 lz_im_X11_held lz_se_X11_held (by rw [hm]; rfl) rfl rfl rfl (Nat.le_of_ble_eq_true rfl) ⟨Nat.le_of_ble_eq_true rfl, Nat.le_of_ble_eq_true rfl⟩ (fun r2 σ2 hp2 hk2 => ?_)
  obtain ⟨⟨v2, rfl, hv2⟩, hI2, hF2⟩ := hp2
  refine sv_same (st2 := [sv_i v2]) (lv2 := [(0, sv_r b), (1, sv_r x), (2, sv_r mm), (3, sv_i i)]) rfl rfl ?_
  refine sv_go C.1 C.2.1 [(.pop, 1)] (pc' := 480) (by decide +kernel) rfl (lv' := [(0, sv_r b), (1, sv_r x), (2, sv_r mm), (3, sv_i i)]) (st' := []) rfl ?_
  refine sv_goto C.1 C.2.1 (off := 713) (by decide +kernel) (tgt := 1193) rfl ?_
  exact kk σ2 ⟨hk2, hTA, hI2, hx, hm, (lz_keep hx hm hF2 (by decide) (by decide) (by decide) (by decide) (by decide) (by decide) (lz_keep hx hm hF1 (by decide) (by decide) (by decide) (by decide) (by decide) (by decide) hR))⟩
set_option maxHeartbeats 4000000 in
set_option maxRecDepth 100000 in
theorem lz_c9 {p : Program} {l : Launch} {e : Env} {s : State} {m : MethodId} {below : List Frame} {meth : Method} {c : Code} {g : sv_G} {A : Nat → Prop} {b : Nat} {xs : Nat → Int32} {ty : Nat → Nat} {σ : Nat → Nat → Int} {x mm : Nat} {L : Nat} {i : Int} (T : lz_K p s m meth c g A b L xs) (hL : L ≤ 3072) (hi : 0 ≤ i ∧ i + 6 ≤ (L : Int)) (Z : lz_S A ty σ x mm) (kk : ∀ σ2, lz_S A ty σ2 x mm → lz_V p l e s m below meth c b A 433 29939 (sv_H g ty σ2) 1193 [(0, sv_r b), (1, sv_r x), (2, sv_r mm), (3, sv_i i)] []) : lz_V p l e s m below meth c b A 433 29939 (sv_H g ty σ) 483 [(0, sv_r b), (1, sv_r x), (2, sv_r mm), (3, sv_i i)] [] := by
  obtain ⟨C, hX, hbl, hbA, hAs, hr⟩ := T
  obtain ⟨hok, hTA, hI, hx, hm, hR⟩ := Z
  obtain ⟨y1, hy1, ey1⟩ : ∃ z : Int, (-2147483648 ≤ z ∧ z ≤ 2147483647) ∧ (xs (i + 1).toNat).toInt = z := ⟨_, sv_ioin2 _, rfl⟩
  obtain ⟨y2, hy2, ey2⟩ : ∃ z : Int, (-2147483648 ≤ z ∧ z ≤ 2147483647) ∧ (xs (i + 2).toNat).toInt = z := ⟨_, sv_ioin2 _, rfl⟩
  obtain ⟨y3, hy3, ey3⟩ : ∃ z : Int, (-2147483648 ≤ z ∧ z ≤ 2147483647) ∧ (xs (i + 3).toNat).toInt = z := ⟨_, sv_ioin2 _, rfl⟩
  refine sv_go C.1 C.2.1 [(.aload_n 1, 1), (.aload_n 0, 1), (.iload_n 3, 1), (.iconst 1, 1), (.iadd, 1)] (pc' := 488) (by decide +kernel) rfl (lv' := [(0, sv_r b), (1, sv_r x), (2, sv_r mm), (3, sv_i i)]) (st' := [sv_i (i + 1), sv_r b, sv_r x]) rfl ?_
  refine sv_sld C hX hbl hbA (by omega) (j := (i + 1).toNat) (by decide +kernel) (by omega) (by omega) ?_
  rw [ey1]
  refine sv_go C.1 C.2.1 [(.aload_n 0, 1), (.iload_n 3, 1), (.iconst 2, 1), (.iadd, 1)] (pc' := 493) (by decide +kernel) rfl (lv' := [(0, sv_r b), (1, sv_r x), (2, sv_r mm), (3, sv_i i)]) (st' := [sv_i (i + 2), sv_r b, sv_i y1, sv_r x]) rfl ?_
  refine sv_sld C hX hbl hbA (by omega) (j := (i + 2).toNat) (by decide +kernel) (by omega) (by omega) ?_
  rw [ey2]
  refine sv_go C.1 C.2.1 [(.aload_n 0, 1), (.iload_n 3, 1), (.iconst 3, 1), (.iadd, 1)] (pc' := 498) (by decide +kernel) rfl (lv' := [(0, sv_r b), (1, sv_r x), (2, sv_r mm), (3, sv_i i)]) (st' := [sv_i (i + 3), sv_r b, sv_i y2, sv_i y1, sv_r x]) rfl ?_
  refine sv_sld C hX hbl hbA (by omega) (j := (i + 3).toNat) (by decide +kernel) (by omega) (by omega) ?_
  rw [ey3]
  refine sv_cv C (index := 52) (k := 3) (rest := []) (as := [sv_i y1, sv_i y2, sv_i y3]) (ci := 8) (r := (RX9, TX9, 6)) (by decide +kernel) (sf_X9_own l g A ty σ hok hTA hI x hx (y1) ⟨by omega, by omega⟩ (y2) ⟨by omega, by omega⟩ (y3) ⟨by omega, by omega⟩) ⟨lz_co_X9_own, lz_in_X9, ⟨by decide, by decide, by decide +kernel⟩, Nat.le_of_ble_eq_true rfl, Nat.le_of_ble_eq_true rfl⟩ lz_ml_52 lz_im_X9_own lz_se_X9_own (by rw [hx]; rfl) rfl rfl rfl (Nat.le_of_ble_eq_true rfl) ⟨Nat.le_of_ble_eq_true rfl, Nat.le_of_ble_eq_true rfl⟩ (fun r1 σ1 hp1 hk1 => ?_)
  obtain ⟨hs1, ⟨v1, rfl, hv1⟩⟩ := hp1
  subst hs1
  refine sv_same (st2 := [sv_i v1]) (lv2 := [(0, sv_r b), (1, sv_r x), (2, sv_r mm), (3, sv_i i)]) rfl rfl ?_
  refine sv_go C.1 C.2.1 [(.pop, 1), (.aload_n 2, 1), (.aload_n 0, 1), (.iload_n 3, 1), (.iconst 1, 1), (.iadd, 1)] (pc' := 508) (by decide +kernel) rfl (lv' := [(0, sv_r b), (1, sv_r x), (2, sv_r mm), (3, sv_i i)]) (st' := [sv_i (i + 1), sv_r b, sv_r mm]) rfl ?_
  refine sv_sld C hX hbl hbA (by omega) (j := (i + 1).toNat) (by decide +kernel) (by omega) (by omega) ?_
  rw [ey1]
  refine sv_go C.1 C.2.1 [(.aload_n 0, 1), (.iload_n 3, 1), (.iconst 2, 1), (.iadd, 1)] (pc' := 513) (by decide +kernel) rfl (lv' := [(0, sv_r b), (1, sv_r x), (2, sv_r mm), (3, sv_i i)]) (st' := [sv_i (i + 2), sv_r b, sv_i y1, sv_r mm]) rfl ?_
  refine sv_sld C hX hbl hbA (by omega) (j := (i + 2).toNat) (by decide +kernel) (by omega) (by omega) ?_
  rw [ey2]
  refine sv_go C.1 C.2.1 [(.aload_n 0, 1), (.iload_n 3, 1), (.iconst 3, 1), (.iadd, 1)] (pc' := 518) (by decide +kernel) rfl (lv' := [(0, sv_r b), (1, sv_r x), (2, sv_r mm), (3, sv_i i)]) (st' := [sv_i (i + 3), sv_r b, sv_i y2, sv_i y1, sv_r mm]) rfl ?_
  refine sv_sld C hX hbl hbA (by omega) (j := (i + 3).toNat) (by decide +kernel) (by omega) (by omega) ?_
  rw [ey3]
  refine sv_cv C (index := 55) (k := 3) (rest := []) (as := [sv_i y1, sv_i y2, sv_i y3]) (ci := 10) (r := (RX11, TX11, 47)) (by decide +kernel) (sf_X11_own l g A ty σ hk1 hTA hI mm hm (y1) ⟨by omega, by omega⟩ (y2) ⟨by omega, by omega⟩ (y3) ⟨by omega, by omega⟩) ⟨lz_co_X11_own, lz_in_X11, ⟨by decide, by decide, by decide +kernel⟩, Nat.le_of_ble_eq_true rfl, Nat.le_of_ble_eq_true rfl⟩ lz_ml_55 lz_im_X11_own lz_se_X11_own (by rw [hm]; rfl) rfl rfl rfl (Nat.le_of_ble_eq_true rfl) ⟨Nat.le_of_ble_eq_true rfl, Nat.le_of_ble_eq_true rfl⟩ (fun r2 σ2 hp2 hk2 => ?_)
  obtain ⟨hs2, ⟨v2, rfl, hv2⟩⟩ := hp2
  subst hs2
  refine sv_same (st2 := [sv_i v2]) (lv2 := [(0, sv_r b), (1, sv_r x), (2, sv_r mm), (3, sv_i i)]) rfl rfl ?_
  refine sv_go C.1 C.2.1 [(.pop, 1)] (pc' := 523) (by decide +kernel) rfl (lv' := [(0, sv_r b), (1, sv_r x), (2, sv_r mm), (3, sv_i i)]) (st' := []) rfl ?_
  refine sv_goto C.1 C.2.1 (off := 670) (by decide +kernel) (tgt := 1193) rfl ?_
  exact kk σ ⟨hk2, hTA, hI, hx, hm, hR⟩
set_option maxHeartbeats 4000000 in
set_option maxRecDepth 100000 in
theorem lz_c10 {p : Program} {l : Launch} {e : Env} {s : State} {m : MethodId} {below : List Frame} {meth : Method} {c : Code} {g : sv_G} {A : Nat → Prop} {b : Nat} {xs : Nat → Int32} {ty : Nat → Nat} {σ : Nat → Nat → Int} {x mm : Nat} {L : Nat} {i : Int} (T : lz_K p s m meth c g A b L xs) (hL : L ≤ 3072) (hi : 0 ≤ i ∧ i + 6 ≤ (L : Int)) (Z : lz_S A ty σ x mm) (kk : ∀ σ2, lz_S A ty σ2 x mm → lz_V p l e s m below meth c b A 433 29939 (sv_H g ty σ2) 1193 [(0, sv_r b), (1, sv_r x), (2, sv_r mm), (3, sv_i i)] []) : lz_V p l e s m below meth c b A 433 29939 (sv_H g ty σ) 526 [(0, sv_r b), (1, sv_r x), (2, sv_r mm), (3, sv_i i)] [] := by
  obtain ⟨C, hX, hbl, hbA, hAs, hr⟩ := T
  obtain ⟨hok, hTA, hI, hx, hm, hR⟩ := Z
  obtain ⟨y1, hy1, ey1⟩ : ∃ z : Int, (-2147483648 ≤ z ∧ z ≤ 2147483647) ∧ (xs (i + 1).toNat).toInt = z := ⟨_, sv_ioin2 _, rfl⟩
  obtain ⟨y2, hy2, ey2⟩ : ∃ z : Int, (-2147483648 ≤ z ∧ z ≤ 2147483647) ∧ (xs (i + 2).toNat).toInt = z := ⟨_, sv_ioin2 _, rfl⟩
  obtain ⟨y3, hy3, ey3⟩ : ∃ z : Int, (-2147483648 ≤ z ∧ z ≤ 2147483647) ∧ (xs (i + 3).toNat).toInt = z := ⟨_, sv_ioin2 _, rfl⟩
  refine sv_go C.1 C.2.1 [(.aload_n 1, 1), (.aload_n 0, 1), (.iload_n 3, 1), (.iconst 1, 1), (.iadd, 1)] (pc' := 531) (by decide +kernel) rfl (lv' := [(0, sv_r b), (1, sv_r x), (2, sv_r mm), (3, sv_i i)]) (st' := [sv_i (i + 1), sv_r b, sv_r x]) rfl ?_
  refine sv_sld C hX hbl hbA (by omega) (j := (i + 1).toNat) (by decide +kernel) (by omega) (by omega) ?_
  rw [ey1]
  refine sv_go C.1 C.2.1 [(.aload_n 0, 1), (.iload_n 3, 1), (.iconst 2, 1), (.iadd, 1)] (pc' := 536) (by decide +kernel) rfl (lv' := [(0, sv_r b), (1, sv_r x), (2, sv_r mm), (3, sv_i i)]) (st' := [sv_i (i + 2), sv_r b, sv_i y1, sv_r x]) rfl ?_
  refine sv_sld C hX hbl hbA (by omega) (j := (i + 2).toNat) (by decide +kernel) (by omega) (by omega) ?_
  rw [ey2]
  refine sv_go C.1 C.2.1 [(.aload_n 0, 1), (.iload_n 3, 1), (.iconst 3, 1), (.iadd, 1)] (pc' := 541) (by decide +kernel) rfl (lv' := [(0, sv_r b), (1, sv_r x), (2, sv_r mm), (3, sv_i i)]) (st' := [sv_i (i + 3), sv_r b, sv_i y2, sv_i y1, sv_r x]) rfl ?_
  refine sv_sld C hX hbl hbA (by omega) (j := (i + 3).toNat) (by decide +kernel) (by omega) (by omega) ?_
  rw [ey3]
  refine sv_cv C (index := 56) (k := 3) (rest := []) (as := [sv_i y1, sv_i y2, sv_i y3]) (ci := 8) (r := (RX9, TX9, 6)) (by decide +kernel) (sf_X9_fast l g A ty σ hok hTA hI x hx (y1) ⟨by omega, by omega⟩ (y2) ⟨by omega, by omega⟩ (y3) ⟨by omega, by omega⟩) ⟨lz_co_X9_fast, lz_in_X9, ⟨by decide, by decide, by decide +kernel⟩, Nat.le_of_ble_eq_true rfl, Nat.le_of_ble_eq_true rfl⟩ lz_ml_56 lz_im_X9_fast lz_se_X9_fast (by rw [hx]; rfl) rfl rfl rfl (Nat.le_of_ble_eq_true rfl) ⟨Nat.le_of_ble_eq_true rfl, Nat.le_of_ble_eq_true rfl⟩ (fun r1 σ1 hp1 hk1 => ?_)
  obtain ⟨⟨v1, rfl, hv1⟩, hI1, hF1⟩ := hp1
  refine sv_same (st2 := [sv_i v1]) (lv2 := [(0, sv_r b), (1, sv_r x), (2, sv_r mm), (3, sv_i i)]) rfl rfl ?_
  refine sv_go C.1 C.2.1 [(.pop, 1), (.aload_n 2, 1), (.aload_n 0, 1), (.iload_n 3, 1), (.iconst 1, 1), (.iadd, 1)] (pc' := 551) (by decide +kernel) rfl (lv' := [(0, sv_r b), (1, sv_r x), (2, sv_r mm), (3, sv_i i)]) (st' := [sv_i (i + 1), sv_r b, sv_r mm]) rfl ?_
  refine sv_sld C hX hbl hbA (by omega) (j := (i + 1).toNat) (by decide +kernel) (by omega) (by omega) ?_
  rw [ey1]
  refine sv_go C.1 C.2.1 [(.aload_n 0, 1), (.iload_n 3, 1), (.iconst 2, 1), (.iadd, 1)] (pc' := 556) (by decide +kernel) rfl (lv' := [(0, sv_r b), (1, sv_r x), (2, sv_r mm), (3, sv_i i)]) (st' := [sv_i (i + 2), sv_r b, sv_i y1, sv_r mm]) rfl ?_
  refine sv_sld C hX hbl hbA (by omega) (j := (i + 2).toNat) (by decide +kernel) (by omega) (by omega) ?_
  rw [ey2]
  refine sv_go C.1 C.2.1 [(.aload_n 0, 1), (.iload_n 3, 1), (.iconst 3, 1), (.iadd, 1)] (pc' := 561) (by decide +kernel) rfl (lv' := [(0, sv_r b), (1, sv_r x), (2, sv_r mm), (3, sv_i i)]) (st' := [sv_i (i + 3), sv_r b, sv_i y2, sv_i y1, sv_r mm]) rfl ?_
  refine sv_sld C hX hbl hbA (by omega) (j := (i + 3).toNat) (by decide +kernel) (by omega) (by omega) ?_
  rw [ey3]
  refine sv_cv C (index := 59) (k := 3) (rest := []) (as := [sv_i y1, sv_i y2, sv_i y3]) (ci := 10) (r := (RX11, TX11, 47)) (by decide +kernel) (sf_X11_fast l g A ty σ1 hk1 hTA hI1 mm hm (y1) ⟨by omega, by omega⟩ (y2) ⟨by omega, by omega⟩ (y3) ⟨by omega, by omega⟩) ⟨lz_co_X11_fast, lz_in_X11, ⟨by decide, by decide, by decide +kernel⟩, Nat.le_of_ble_eq_true rfl, Nat.le_of_ble_eq_true rfl⟩ lz_ml_59 lz_im_X11_fast lz_se_X11_fast (by rw [hm]; rfl) rfl rfl rfl (Nat.le_of_ble_eq_true rfl) ⟨Nat.le_of_ble_eq_true rfl, Nat.le_of_ble_eq_true rfl⟩ (fun r2 σ2 hp2 hk2 => ?_)
  obtain ⟨⟨v2, rfl, hv2⟩, hI2, hF2⟩ := hp2
  refine sv_same (st2 := [sv_i v2]) (lv2 := [(0, sv_r b), (1, sv_r x), (2, sv_r mm), (3, sv_i i)]) rfl rfl ?_
  refine sv_go C.1 C.2.1 [(.pop, 1)] (pc' := 566) (by decide +kernel) rfl (lv' := [(0, sv_r b), (1, sv_r x), (2, sv_r mm), (3, sv_i i)]) (st' := []) rfl ?_
  refine sv_goto C.1 C.2.1 (off := 627) (by decide +kernel) (tgt := 1193) rfl ?_
  exact kk σ2 ⟨hk2, hTA, hI2, hx, hm, (lz_keep hx hm hF2 (by decide) (by decide) (by decide) (by decide) (by decide) (by decide) (lz_keep hx hm hF1 (by decide) (by decide) (by decide) (by decide) (by decide) (by decide) hR))⟩
set_option maxHeartbeats 4000000 in
set_option maxRecDepth 100000 in
theorem lz_c11 {p : Program} {l : Launch} {e : Env} {s : State} {m : MethodId} {below : List Frame} {meth : Method} {c : Code} {g : sv_G} {A : Nat → Prop} {b : Nat} {xs : Nat → Int32} {ty : Nat → Nat} {σ : Nat → Nat → Int} {x mm : Nat} {L : Nat} {i : Int} (T : lz_K p s m meth c g A b L xs) (hL : L ≤ 3072) (hi : 0 ≤ i ∧ i + 6 ≤ (L : Int)) (Z : lz_S A ty σ x mm) (kk : ∀ σ2, lz_S A ty σ2 x mm → lz_V p l e s m below meth c b A 433 29939 (sv_H g ty σ2) 1193 [(0, sv_r b), (1, sv_r x), (2, sv_r mm), (3, sv_i i)] []) : lz_V p l e s m below meth c b A 433 29939 (sv_H g ty σ) 569 [(0, sv_r b), (1, sv_r x), (2, sv_r mm), (3, sv_i i)] [] := by
  obtain ⟨C, hX, hbl, hbA, hAs, hr⟩ := T
  obtain ⟨hok, hTA, hI, hx, hm, hR⟩ := Z
  obtain ⟨y1, hy1, ey1⟩ : ∃ z : Int, (-2147483648 ≤ z ∧ z ≤ 2147483647) ∧ (xs (i + 1).toNat).toInt = z := ⟨_, sv_ioin2 _, rfl⟩
  obtain ⟨y2, hy2, ey2⟩ : ∃ z : Int, (-2147483648 ≤ z ∧ z ≤ 2147483647) ∧ (xs (i + 2).toNat).toInt = z := ⟨_, sv_ioin2 _, rfl⟩
  obtain ⟨y3, hy3, ey3⟩ : ∃ z : Int, (-2147483648 ≤ z ∧ z ≤ 2147483647) ∧ (xs (i + 3).toNat).toInt = z := ⟨_, sv_ioin2 _, rfl⟩
  obtain ⟨y4, hy4, ey4⟩ : ∃ z : Int, (-2147483648 ≤ z ∧ z ≤ 2147483647) ∧ (xs (i + 4).toNat).toInt = z := ⟨_, sv_ioin2 _, rfl⟩
  refine sv_go C.1 C.2.1 [(.aload_n 1, 1), (.aload_n 0, 1), (.iload_n 3, 1), (.iconst 1, 1), (.iadd, 1)] (pc' := 574) (by decide +kernel) rfl (lv' := [(0, sv_r b), (1, sv_r x), (2, sv_r mm), (3, sv_i i)]) (st' := [sv_i (i + 1), sv_r b, sv_r x]) rfl ?_
  refine sv_sld C hX hbl hbA (by omega) (j := (i + 1).toNat) (by decide +kernel) (by omega) (by omega) ?_
  rw [ey1]
  refine sv_go C.1 C.2.1 [(.aload_n 0, 1), (.iload_n 3, 1), (.iconst 2, 1), (.iadd, 1)] (pc' := 579) (by decide +kernel) rfl (lv' := [(0, sv_r b), (1, sv_r x), (2, sv_r mm), (3, sv_i i)]) (st' := [sv_i (i + 2), sv_r b, sv_i y1, sv_r x]) rfl ?_
  refine sv_sld C hX hbl hbA (by omega) (j := (i + 2).toNat) (by decide +kernel) (by omega) (by omega) ?_
  rw [ey2]
  refine sv_go C.1 C.2.1 [(.aload_n 0, 1), (.iload_n 3, 1), (.iconst 3, 1), (.iadd, 1)] (pc' := 584) (by decide +kernel) rfl (lv' := [(0, sv_r b), (1, sv_r x), (2, sv_r mm), (3, sv_i i)]) (st' := [sv_i (i + 3), sv_r b, sv_i y2, sv_i y1, sv_r x]) rfl ?_
  refine sv_sld C hX hbl hbA (by omega) (j := (i + 3).toNat) (by decide +kernel) (by omega) (by omega) ?_
  rw [ey3]
  refine sv_go C.1 C.2.1 [(.aload_n 0, 1), (.iload_n 3, 1), (.iconst 4, 1), (.iadd, 1)] (pc' := 589) (by decide +kernel) rfl (lv' := [(0, sv_r b), (1, sv_r x), (2, sv_r mm), (3, sv_i i)]) (st' := [sv_i (i + 4), sv_r b, sv_i y3, sv_i y2, sv_i y1, sv_r x]) rfl ?_
  refine sv_sld C hX hbl hbA (by omega) (j := (i + 4).toNat) (by decide +kernel) (by omega) (by omega) ?_
  rw [ey4]
  refine sv_cv C (index := 60) (k := 4) (rest := []) (as := [sv_i y1, sv_i y2, sv_i y3, sv_i y4]) (ci := 8) (r := (RX9, TX9, 6)) (by decide +kernel) (sf_X9_wax l g A ty σ hok hTA hI x hx (y1) ⟨by omega, by omega⟩ (y2) ⟨by omega, by omega⟩ (y3) ⟨by omega, by omega⟩ (y4) ⟨by omega, by omega⟩) ⟨lz_co_X9_wax, lz_in_X9, ⟨by decide, by decide, by decide +kernel⟩, Nat.le_of_ble_eq_true rfl, Nat.le_of_ble_eq_true rfl⟩ lz_ml_60 lz_im_X9_wax lz_se_X9_wax (by rw [hx]; rfl) rfl rfl rfl (Nat.le_of_ble_eq_true rfl) ⟨Nat.le_of_ble_eq_true rfl, Nat.le_of_ble_eq_true rfl⟩ (fun r1 σ1 hp1 hk1 => ?_)
  obtain ⟨⟨v1, rfl, hv1⟩, hI1, hF1⟩ := hp1
  refine sv_same (st2 := [sv_i v1]) (lv2 := [(0, sv_r b), (1, sv_r x), (2, sv_r mm), (3, sv_i i)]) rfl rfl ?_
  refine sv_go C.1 C.2.1 [(.pop, 1), (.aload_n 2, 1), (.aload_n 0, 1), (.iload_n 3, 1), (.iconst 1, 1), (.iadd, 1)] (pc' := 599) (by decide +kernel) rfl (lv' := [(0, sv_r b), (1, sv_r x), (2, sv_r mm), (3, sv_i i)]) (st' := [sv_i (i + 1), sv_r b, sv_r mm]) rfl ?_
  refine sv_sld C hX hbl hbA (by omega) (j := (i + 1).toNat) (by decide +kernel) (by omega) (by omega) ?_
  rw [ey1]
  refine sv_go C.1 C.2.1 [(.aload_n 0, 1), (.iload_n 3, 1), (.iconst 2, 1), (.iadd, 1)] (pc' := 604) (by decide +kernel) rfl (lv' := [(0, sv_r b), (1, sv_r x), (2, sv_r mm), (3, sv_i i)]) (st' := [sv_i (i + 2), sv_r b, sv_i y1, sv_r mm]) rfl ?_
  refine sv_sld C hX hbl hbA (by omega) (j := (i + 2).toNat) (by decide +kernel) (by omega) (by omega) ?_
  rw [ey2]
  refine sv_go C.1 C.2.1 [(.aload_n 0, 1), (.iload_n 3, 1), (.iconst 3, 1), (.iadd, 1)] (pc' := 609) (by decide +kernel) rfl (lv' := [(0, sv_r b), (1, sv_r x), (2, sv_r mm), (3, sv_i i)]) (st' := [sv_i (i + 3), sv_r b, sv_i y2, sv_i y1, sv_r mm]) rfl ?_
  refine sv_sld C hX hbl hbA (by omega) (j := (i + 3).toNat) (by decide +kernel) (by omega) (by omega) ?_
  rw [ey3]
  refine sv_go C.1 C.2.1 [(.aload_n 0, 1), (.iload_n 3, 1), (.iconst 4, 1), (.iadd, 1)] (pc' := 614) (by decide +kernel) rfl (lv' := [(0, sv_r b), (1, sv_r x), (2, sv_r mm), (3, sv_i i)]) (st' := [sv_i (i + 4), sv_r b, sv_i y3, sv_i y2, sv_i y1, sv_r mm]) rfl ?_
  refine sv_sld C hX hbl hbA (by omega) (j := (i + 4).toNat) (by decide +kernel) (by omega) (by omega) ?_
  rw [ey4]
  refine sv_cv C (index := 64) (k := 4) (rest := []) (as := [sv_i y1, sv_i y2, sv_i y3, sv_i y4]) (ci := 10) (r := (RX11, TX11, 47)) (by decide +kernel) (sf_X11_wax l g A ty σ1 hk1 hTA hI1 mm hm (y1) ⟨by omega, by omega⟩ (y2) ⟨by omega, by omega⟩ (y3) ⟨by omega, by omega⟩ (y4) ⟨by omega, by omega⟩) ⟨lz_co_X11_wax, lz_in_X11, ⟨by decide, by decide, by decide +kernel⟩, Nat.le_of_ble_eq_true rfl, Nat.le_of_ble_eq_true rfl⟩ lz_ml_64 lz_im_X11_wax lz_se_X11_wax (by rw [hm]; rfl) rfl rfl rfl (Nat.le_of_ble_eq_true rfl) ⟨Nat.le_of_ble_eq_true rfl, Nat.le_of_ble_eq_true rfl⟩ (fun r2 σ2 hp2 hk2 => ?_)
  obtain ⟨⟨v2, rfl, hv2⟩, hI2, hF2⟩ := hp2
  refine sv_same (st2 := [sv_i v2]) (lv2 := [(0, sv_r b), (1, sv_r x), (2, sv_r mm), (3, sv_i i)]) rfl rfl ?_
  refine sv_go C.1 C.2.1 [(.pop, 1)] (pc' := 619) (by decide +kernel) rfl (lv' := [(0, sv_r b), (1, sv_r x), (2, sv_r mm), (3, sv_i i)]) (st' := []) rfl ?_
  refine sv_goto C.1 C.2.1 (off := 574) (by decide +kernel) (tgt := 1193) rfl ?_
  exact kk σ2 ⟨hk2, hTA, hI2, hx, hm, (lz_keep hx hm hF2 (by decide) (by decide) (by decide) (by decide) (by decide) (by decide) (lz_keep hx hm hF1 (by decide) (by decide) (by decide) (by decide) (by decide) (by decide) hR))⟩
set_option maxHeartbeats 4000000 in
set_option maxRecDepth 100000 in
theorem lz_c12 {p : Program} {l : Launch} {e : Env} {s : State} {m : MethodId} {below : List Frame} {meth : Method} {c : Code} {g : sv_G} {A : Nat → Prop} {b : Nat} {xs : Nat → Int32} {ty : Nat → Nat} {σ : Nat → Nat → Int} {x mm : Nat} {L : Nat} {i : Int} (T : lz_K p s m meth c g A b L xs) (hL : L ≤ 3072) (hi : 0 ≤ i ∧ i + 6 ≤ (L : Int)) (Z : lz_S A ty σ x mm) (kk : ∀ σ2, lz_S A ty σ2 x mm → lz_V p l e s m below meth c b A 433 29939 (sv_H g ty σ2) 1193 [(0, sv_r b), (1, sv_r x), (2, sv_r mm), (3, sv_i i)] []) : lz_V p l e s m below meth c b A 433 29939 (sv_H g ty σ) 622 [(0, sv_r b), (1, sv_r x), (2, sv_r mm), (3, sv_i i)] [] := by
  obtain ⟨C, hX, hbl, hbA, hAs, hr⟩ := T
  obtain ⟨hok, hTA, hI, hx, hm, hR⟩ := Z
  obtain ⟨y1, hy1, ey1⟩ : ∃ z : Int, (-2147483648 ≤ z ∧ z ≤ 2147483647) ∧ (xs (i + 1).toNat).toInt = z := ⟨_, sv_ioin2 _, rfl⟩
  obtain ⟨y2, hy2, ey2⟩ : ∃ z : Int, (-2147483648 ≤ z ∧ z ≤ 2147483647) ∧ (xs (i + 2).toNat).toInt = z := ⟨_, sv_ioin2 _, rfl⟩
  obtain ⟨y3, hy3, ey3⟩ : ∃ z : Int, (-2147483648 ≤ z ∧ z ≤ 2147483647) ∧ (xs (i + 3).toNat).toInt = z := ⟨_, sv_ioin2 _, rfl⟩
  obtain ⟨y4, hy4, ey4⟩ : ∃ z : Int, (-2147483648 ≤ z ∧ z ≤ 2147483647) ∧ (xs (i + 4).toNat).toInt = z := ⟨_, sv_ioin2 _, rfl⟩
  refine sv_go C.1 C.2.1 [(.aload_n 1, 1), (.aload_n 0, 1), (.iload_n 3, 1), (.iconst 1, 1), (.iadd, 1)] (pc' := 627) (by decide +kernel) rfl (lv' := [(0, sv_r b), (1, sv_r x), (2, sv_r mm), (3, sv_i i)]) (st' := [sv_i (i + 1), sv_r b, sv_r x]) rfl ?_
  refine sv_sld C hX hbl hbA (by omega) (j := (i + 1).toNat) (by decide +kernel) (by omega) (by omega) ?_
  rw [ey1]
  refine sv_go C.1 C.2.1 [(.aload_n 0, 1), (.iload_n 3, 1), (.iconst 2, 1), (.iadd, 1)] (pc' := 632) (by decide +kernel) rfl (lv' := [(0, sv_r b), (1, sv_r x), (2, sv_r mm), (3, sv_i i)]) (st' := [sv_i (i + 2), sv_r b, sv_i y1, sv_r x]) rfl ?_
  refine sv_sld C hX hbl hbA (by omega) (j := (i + 2).toNat) (by decide +kernel) (by omega) (by omega) ?_
  rw [ey2]
  refine sv_go C.1 C.2.1 [(.aload_n 0, 1), (.iload_n 3, 1), (.iconst 3, 1), (.iadd, 1)] (pc' := 637) (by decide +kernel) rfl (lv' := [(0, sv_r b), (1, sv_r x), (2, sv_r mm), (3, sv_i i)]) (st' := [sv_i (i + 3), sv_r b, sv_i y2, sv_i y1, sv_r x]) rfl ?_
  refine sv_sld C hX hbl hbA (by omega) (j := (i + 3).toNat) (by decide +kernel) (by omega) (by omega) ?_
  rw [ey3]
  refine sv_go C.1 C.2.1 [(.aload_n 0, 1), (.iload_n 3, 1), (.iconst 4, 1), (.iadd, 1)] (pc' := 642) (by decide +kernel) rfl (lv' := [(0, sv_r b), (1, sv_r x), (2, sv_r mm), (3, sv_i i)]) (st' := [sv_i (i + 4), sv_r b, sv_i y3, sv_i y2, sv_i y1, sv_r x]) rfl ?_
  refine sv_sld C hX hbl hbA (by omega) (j := (i + 4).toNat) (by decide +kernel) (by omega) (by omega) ?_
  rw [ey4]
  refine sv_cv C (index := 65) (k := 4) (rest := []) (as := [sv_i y1, sv_i y2, sv_i y3, sv_i y4]) (ci := 8) (r := (RX9, TX9, 6)) (by decide +kernel) (sf_X9_next l g A ty σ hok hTA hI x hx (y1) ⟨by omega, by omega⟩ (y2) ⟨by omega, by omega⟩ (y3) ⟨by omega, by omega⟩ (y4) ⟨by omega, by omega⟩) ⟨lz_co_X9_next, lz_in_X9, ⟨by decide, by decide, by decide +kernel⟩, Nat.le_of_ble_eq_true rfl, Nat.le_of_ble_eq_true rfl⟩ lz_ml_65 lz_im_X9_next lz_se_X9_next (by rw [hx]; rfl) rfl rfl rfl (Nat.le_of_ble_eq_true rfl) ⟨Nat.le_of_ble_eq_true rfl, Nat.le_of_ble_eq_true rfl⟩ (fun r1 σ1 hp1 hk1 => ?_)
  obtain ⟨⟨v1, rfl, hv1⟩, hI1, hF1⟩ := hp1
  refine sv_same (st2 := [sv_i v1]) (lv2 := [(0, sv_r b), (1, sv_r x), (2, sv_r mm), (3, sv_i i)]) rfl rfl ?_
  refine sv_go C.1 C.2.1 [(.pop, 1), (.aload_n 2, 1), (.aload_n 0, 1), (.iload_n 3, 1), (.iconst 1, 1), (.iadd, 1)] (pc' := 652) (by decide +kernel) rfl (lv' := [(0, sv_r b), (1, sv_r x), (2, sv_r mm), (3, sv_i i)]) (st' := [sv_i (i + 1), sv_r b, sv_r mm]) rfl ?_
  refine sv_sld C hX hbl hbA (by omega) (j := (i + 1).toNat) (by decide +kernel) (by omega) (by omega) ?_
  rw [ey1]
  refine sv_go C.1 C.2.1 [(.aload_n 0, 1), (.iload_n 3, 1), (.iconst 2, 1), (.iadd, 1)] (pc' := 657) (by decide +kernel) rfl (lv' := [(0, sv_r b), (1, sv_r x), (2, sv_r mm), (3, sv_i i)]) (st' := [sv_i (i + 2), sv_r b, sv_i y1, sv_r mm]) rfl ?_
  refine sv_sld C hX hbl hbA (by omega) (j := (i + 2).toNat) (by decide +kernel) (by omega) (by omega) ?_
  rw [ey2]
  refine sv_go C.1 C.2.1 [(.aload_n 0, 1), (.iload_n 3, 1), (.iconst 3, 1), (.iadd, 1)] (pc' := 662) (by decide +kernel) rfl (lv' := [(0, sv_r b), (1, sv_r x), (2, sv_r mm), (3, sv_i i)]) (st' := [sv_i (i + 3), sv_r b, sv_i y2, sv_i y1, sv_r mm]) rfl ?_
  refine sv_sld C hX hbl hbA (by omega) (j := (i + 3).toNat) (by decide +kernel) (by omega) (by omega) ?_
  rw [ey3]
  refine sv_go C.1 C.2.1 [(.aload_n 0, 1), (.iload_n 3, 1), (.iconst 4, 1), (.iadd, 1)] (pc' := 667) (by decide +kernel) rfl (lv' := [(0, sv_r b), (1, sv_r x), (2, sv_r mm), (3, sv_i i)]) (st' := [sv_i (i + 4), sv_r b, sv_i y3, sv_i y2, sv_i y1, sv_r mm]) rfl ?_
  refine sv_sld C hX hbl hbA (by omega) (j := (i + 4).toNat) (by decide +kernel) (by omega) (by omega) ?_
  rw [ey4]
  refine sv_cv C (index := 68) (k := 4) (rest := []) (as := [sv_i y1, sv_i y2, sv_i y3, sv_i y4]) (ci := 10) (r := (RX11, TX11, 47)) (by decide +kernel) (sf_X11_next l g A ty σ1 hk1 hTA hI1 mm hm (y1) ⟨by omega, by omega⟩ (y2) ⟨by omega, by omega⟩ (y3) ⟨by omega, by omega⟩ (y4) ⟨by omega, by omega⟩) ⟨lz_co_X11_next, lz_in_X11, ⟨by decide, by decide, by decide +kernel⟩, Nat.le_of_ble_eq_true rfl, Nat.le_of_ble_eq_true rfl⟩ lz_ml_68 lz_im_X11_next lz_se_X11_next (by rw [hm]; rfl) rfl rfl rfl (Nat.le_of_ble_eq_true rfl) ⟨Nat.le_of_ble_eq_true rfl, Nat.le_of_ble_eq_true rfl⟩ (fun r2 σ2 hp2 hk2 => ?_)
  obtain ⟨⟨v2, rfl, hv2⟩, hI2, hF2⟩ := hp2
  refine sv_same (st2 := [sv_i v2]) (lv2 := [(0, sv_r b), (1, sv_r x), (2, sv_r mm), (3, sv_i i)]) rfl rfl ?_
  refine sv_go C.1 C.2.1 [(.pop, 1)] (pc' := 672) (by decide +kernel) rfl (lv' := [(0, sv_r b), (1, sv_r x), (2, sv_r mm), (3, sv_i i)]) (st' := []) rfl ?_
  refine sv_goto C.1 C.2.1 (off := 521) (by decide +kernel) (tgt := 1193) rfl ?_
  exact kk σ2 ⟨hk2, hTA, hI2, hx, hm, (lz_keep hx hm hF2 (by decide) (by decide) (by decide) (by decide) (by decide) (by decide) (lz_keep hx hm hF1 (by decide) (by decide) (by decide) (by decide) (by decide) (by decide) hR))⟩
set_option maxHeartbeats 4000000 in
set_option maxRecDepth 100000 in
theorem lz_c13 {p : Program} {l : Launch} {e : Env} {s : State} {m : MethodId} {below : List Frame} {meth : Method} {c : Code} {g : sv_G} {A : Nat → Prop} {b : Nat} {xs : Nat → Int32} {ty : Nat → Nat} {σ : Nat → Nat → Int} {x mm : Nat} {L : Nat} {i : Int} (T : lz_K p s m meth c g A b L xs) (hL : L ≤ 3072) (hi : 0 ≤ i ∧ i + 6 ≤ (L : Int)) (Z : lz_S A ty σ x mm) (kk : ∀ σ2, lz_S A ty σ2 x mm → lz_V p l e s m below meth c b A 433 29939 (sv_H g ty σ2) 1193 [(0, sv_r b), (1, sv_r x), (2, sv_r mm), (3, sv_i i)] []) : lz_V p l e s m below meth c b A 433 29939 (sv_H g ty σ) 675 [(0, sv_r b), (1, sv_r x), (2, sv_r mm), (3, sv_i i)] [] := by
  obtain ⟨C, hX, hbl, hbA, hAs, hr⟩ := T
  obtain ⟨hok, hTA, hI, hx, hm, hR⟩ := Z
  obtain ⟨y1, hy1, ey1⟩ : ∃ z : Int, (-2147483648 ≤ z ∧ z ≤ 2147483647) ∧ (xs (i + 1).toNat).toInt = z := ⟨_, sv_ioin2 _, rfl⟩
  obtain ⟨y2, hy2, ey2⟩ : ∃ z : Int, (-2147483648 ≤ z ∧ z ≤ 2147483647) ∧ (xs (i + 2).toNat).toInt = z := ⟨_, sv_ioin2 _, rfl⟩
  obtain ⟨y3, hy3, ey3⟩ : ∃ z : Int, (-2147483648 ≤ z ∧ z ≤ 2147483647) ∧ (xs (i + 3).toNat).toInt = z := ⟨_, sv_ioin2 _, rfl⟩
  refine sv_go C.1 C.2.1 [(.aload_n 1, 1), (.aload_n 0, 1), (.iload_n 3, 1), (.iconst 1, 1), (.iadd, 1)] (pc' := 680) (by decide +kernel) rfl (lv' := [(0, sv_r b), (1, sv_r x), (2, sv_r mm), (3, sv_i i)]) (st' := [sv_i (i + 1), sv_r b, sv_r x]) rfl ?_
  refine sv_sld C hX hbl hbA (by omega) (j := (i + 1).toNat) (by decide +kernel) (by omega) (by omega) ?_
  rw [ey1]
  refine sv_go C.1 C.2.1 [(.aload_n 0, 1), (.iload_n 3, 1), (.iconst 2, 1), (.iadd, 1)] (pc' := 685) (by decide +kernel) rfl (lv' := [(0, sv_r b), (1, sv_r x), (2, sv_r mm), (3, sv_i i)]) (st' := [sv_i (i + 2), sv_r b, sv_i y1, sv_r x]) rfl ?_
  refine sv_sld C hX hbl hbA (by omega) (j := (i + 2).toNat) (by decide +kernel) (by omega) (by omega) ?_
  rw [ey2]
  refine sv_go C.1 C.2.1 [(.aload_n 0, 1), (.iload_n 3, 1), (.iconst 3, 1), (.iadd, 1)] (pc' := 690) (by decide +kernel) rfl (lv' := [(0, sv_r b), (1, sv_r x), (2, sv_r mm), (3, sv_i i)]) (st' := [sv_i (i + 3), sv_r b, sv_i y2, sv_i y1, sv_r x]) rfl ?_
  refine sv_sld C hX hbl hbA (by omega) (j := (i + 3).toNat) (by decide +kernel) (by omega) (by omega) ?_
  rw [ey3]
  refine sv_cv C (index := 69) (k := 3) (rest := []) (as := [sv_i y1, sv_i y2, sv_i y3]) (ci := 8) (r := (RX9, TX9, 6)) (by decide +kernel) (sf_X9_unlike l g A ty σ hok hTA hI x hx (y1) ⟨by omega, by omega⟩ (y2) ⟨by omega, by omega⟩ (y3) ⟨by omega, by omega⟩) ⟨lz_co_X9_unlike, lz_in_X9, ⟨by decide, by decide, by decide +kernel⟩, Nat.le_of_ble_eq_true rfl, Nat.le_of_ble_eq_true rfl⟩ lz_ml_69 lz_im_X9_unlike lz_se_X9_unlike (by rw [hx]; rfl) rfl rfl rfl (Nat.le_of_ble_eq_true rfl) ⟨Nat.le_of_ble_eq_true rfl, Nat.le_of_ble_eq_true rfl⟩ (fun r1 σ1 hp1 hk1 => ?_)
  obtain ⟨⟨v1, rfl, hv1⟩, hI1, hF1⟩ := hp1
  refine sv_same (st2 := [sv_i v1]) (lv2 := [(0, sv_r b), (1, sv_r x), (2, sv_r mm), (3, sv_i i)]) rfl rfl ?_
  refine sv_go C.1 C.2.1 [(.pop, 1), (.aload_n 2, 1), (.aload_n 0, 1), (.iload_n 3, 1), (.iconst 1, 1), (.iadd, 1)] (pc' := 700) (by decide +kernel) rfl (lv' := [(0, sv_r b), (1, sv_r x), (2, sv_r mm), (3, sv_i i)]) (st' := [sv_i (i + 1), sv_r b, sv_r mm]) rfl ?_
  refine sv_sld C hX hbl hbA (by omega) (j := (i + 1).toNat) (by decide +kernel) (by omega) (by omega) ?_
  rw [ey1]
  refine sv_go C.1 C.2.1 [(.aload_n 0, 1), (.iload_n 3, 1), (.iconst 2, 1), (.iadd, 1)] (pc' := 705) (by decide +kernel) rfl (lv' := [(0, sv_r b), (1, sv_r x), (2, sv_r mm), (3, sv_i i)]) (st' := [sv_i (i + 2), sv_r b, sv_i y1, sv_r mm]) rfl ?_
  refine sv_sld C hX hbl hbA (by omega) (j := (i + 2).toNat) (by decide +kernel) (by omega) (by omega) ?_
  rw [ey2]
  refine sv_go C.1 C.2.1 [(.aload_n 0, 1), (.iload_n 3, 1), (.iconst 3, 1), (.iadd, 1)] (pc' := 710) (by decide +kernel) rfl (lv' := [(0, sv_r b), (1, sv_r x), (2, sv_r mm), (3, sv_i i)]) (st' := [sv_i (i + 3), sv_r b, sv_i y2, sv_i y1, sv_r mm]) rfl ?_
  refine sv_sld C hX hbl hbA (by omega) (j := (i + 3).toNat) (by decide +kernel) (by omega) (by omega) ?_
  rw [ey3]
  refine sv_cv C (index := 72) (k := 3) (rest := []) (as := [sv_i y1, sv_i y2, sv_i y3]) (ci := 10) (r := (RX11, TX11, 47)) (by decide +kernel) (sf_X11_unlike l g A ty σ1 hk1 hTA hI1 mm hm (y1) ⟨by omega, by omega⟩ (y2) ⟨by omega, by omega⟩ (y3) ⟨by omega, by omega⟩) ⟨lz_co_X11_unlike, lz_in_X11, ⟨by decide, by decide, by decide +kernel⟩, Nat.le_of_ble_eq_true rfl, Nat.le_of_ble_eq_true rfl⟩ lz_ml_72 lz_im_X11_unlike lz_se_X11_unlike (by rw [hm]; rfl) rfl rfl rfl (Nat.le_of_ble_eq_true rfl) ⟨Nat.le_of_ble_eq_true rfl, Nat.le_of_ble_eq_true rfl⟩ (fun r2 σ2 hp2 hk2 => ?_)
  obtain ⟨⟨v2, rfl, hv2⟩, hI2, hF2⟩ := hp2
  refine sv_same (st2 := [sv_i v2]) (lv2 := [(0, sv_r b), (1, sv_r x), (2, sv_r mm), (3, sv_i i)]) rfl rfl ?_
  refine sv_go C.1 C.2.1 [(.pop, 1)] (pc' := 715) (by decide +kernel) rfl (lv' := [(0, sv_r b), (1, sv_r x), (2, sv_r mm), (3, sv_i i)]) (st' := []) rfl ?_
  refine sv_goto C.1 C.2.1 (off := 478) (by decide +kernel) (tgt := 1193) rfl ?_
  exact kk σ2 ⟨hk2, hTA, hI2, hx, hm, (lz_keep hx hm hF2 (by decide) (by decide) (by decide) (by decide) (by decide) (by decide) (lz_keep hx hm hF1 (by decide) (by decide) (by decide) (by decide) (by decide) (by decide) hR))⟩
set_option maxHeartbeats 4000000 in
set_option maxRecDepth 100000 in
theorem lz_c14 {p : Program} {l : Launch} {e : Env} {s : State} {m : MethodId} {below : List Frame} {meth : Method} {c : Code} {g : sv_G} {A : Nat → Prop} {b : Nat} {xs : Nat → Int32} {ty : Nat → Nat} {σ : Nat → Nat → Int} {x mm : Nat} {L : Nat} {i : Int} (T : lz_K p s m meth c g A b L xs) (hL : L ≤ 3072) (hi : 0 ≤ i ∧ i + 6 ≤ (L : Int)) (Z : lz_S A ty σ x mm) (kk : ∀ σ2, lz_S A ty σ2 x mm → lz_V p l e s m below meth c b A 433 29939 (sv_H g ty σ2) 1193 [(0, sv_r b), (1, sv_r x), (2, sv_r mm), (3, sv_i i)] []) : lz_V p l e s m below meth c b A 433 29939 (sv_H g ty σ) 718 [(0, sv_r b), (1, sv_r x), (2, sv_r mm), (3, sv_i i)] [] := by
  obtain ⟨C, hX, hbl, hbA, hAs, hr⟩ := T
  obtain ⟨hok, hTA, hI, hx, hm, hR⟩ := Z
  obtain ⟨y1, hy1, ey1⟩ : ∃ z : Int, (-2147483648 ≤ z ∧ z ≤ 2147483647) ∧ (xs (i + 1).toNat).toInt = z := ⟨_, sv_ioin2 _, rfl⟩
  obtain ⟨y2, hy2, ey2⟩ : ∃ z : Int, (-2147483648 ≤ z ∧ z ≤ 2147483647) ∧ (xs (i + 2).toNat).toInt = z := ⟨_, sv_ioin2 _, rfl⟩
  obtain ⟨y3, hy3, ey3⟩ : ∃ z : Int, (-2147483648 ≤ z ∧ z ≤ 2147483647) ∧ (xs (i + 3).toNat).toInt = z := ⟨_, sv_ioin2 _, rfl⟩
  refine sv_go C.1 C.2.1 [(.aload_n 1, 1), (.aload_n 0, 1), (.iload_n 3, 1), (.iconst 1, 1), (.iadd, 1)] (pc' := 723) (by decide +kernel) rfl (lv' := [(0, sv_r b), (1, sv_r x), (2, sv_r mm), (3, sv_i i)]) (st' := [sv_i (i + 1), sv_r b, sv_r x]) rfl ?_
  refine sv_sld C hX hbl hbA (by omega) (j := (i + 1).toNat) (by decide +kernel) (by omega) (by omega) ?_
  rw [ey1]
  refine sv_go C.1 C.2.1 [(.aload_n 0, 1), (.iload_n 3, 1), (.iconst 2, 1), (.iadd, 1)] (pc' := 728) (by decide +kernel) rfl (lv' := [(0, sv_r b), (1, sv_r x), (2, sv_r mm), (3, sv_i i)]) (st' := [sv_i (i + 2), sv_r b, sv_i y1, sv_r x]) rfl ?_
  refine sv_sld C hX hbl hbA (by omega) (j := (i + 2).toNat) (by decide +kernel) (by omega) (by omega) ?_
  rw [ey2]
  refine sv_go C.1 C.2.1 [(.aload_n 0, 1), (.iload_n 3, 1), (.iconst 3, 1), (.iadd, 1)] (pc' := 733) (by decide +kernel) rfl (lv' := [(0, sv_r b), (1, sv_r x), (2, sv_r mm), (3, sv_i i)]) (st' := [sv_i (i + 3), sv_r b, sv_i y2, sv_i y1, sv_r x]) rfl ?_
  refine sv_sld C hX hbl hbA (by omega) (j := (i + 3).toNat) (by decide +kernel) (by omega) (by omega) ?_
  rw [ey3]
  refine sv_if C.1 C.2.1 (cnd := .eq) (off := 7) (by decide +kernel) (tgt := 741) rfl ⟨by omega, by omega⟩ (fun h0 => ?_) (fun h0 => ?_)
  · skip
    refine sv_go C.1 C.2.1 [(.iconst 0, 1)] (pc' := 742) (by decide +kernel) rfl (lv' := [(0, sv_r b), (1, sv_r x), (2, sv_r mm), (3, sv_i i)]) (st' := [sv_i 0, sv_i y2, sv_i y1, sv_r x]) rfl ?_
    refine sv_cv C (index := 73) (k := 3) (rest := []) (as := [sv_i y1, sv_i y2, sv_i 0]) (ci := 8) (r := (RX9, TX9, 6)) (by decide +kernel) (sf_X9_quarrel l g A ty σ hok hTA hI x hx (y1) ⟨by omega, by omega⟩ (y2) ⟨by omega, by omega⟩ (0) ⟨by omega, by omega⟩) ⟨lz_co_X9_quarrel, lz_in_X9, ⟨by decide, by decide, by decide +kernel⟩, Nat.le_of_ble_eq_true rfl, Nat.le_of_ble_eq_true rfl⟩ lz_ml_73 lz_im_X9_quarrel lz_se_X9_quarrel (by rw [hx]; rfl) rfl rfl rfl (Nat.le_of_ble_eq_true rfl) ⟨Nat.le_of_ble_eq_true rfl, Nat.le_of_ble_eq_true rfl⟩ (fun r1 σ1 hp1 hk1 => ?_)
    obtain ⟨⟨v1, rfl, hv1⟩, hI1, hF1⟩ := hp1
    refine sv_same (st2 := [sv_i v1]) (lv2 := [(0, sv_r b), (1, sv_r x), (2, sv_r mm), (3, sv_i i)]) rfl rfl ?_
    refine sv_go C.1 C.2.1 [(.pop, 1), (.aload_n 2, 1), (.aload_n 0, 1), (.iload_n 3, 1), (.iconst 1, 1), (.iadd, 1)] (pc' := 751) (by decide +kernel) rfl (lv' := [(0, sv_r b), (1, sv_r x), (2, sv_r mm), (3, sv_i i)]) (st' := [sv_i (i + 1), sv_r b, sv_r mm]) rfl ?_
    refine sv_sld C hX hbl hbA (by omega) (j := (i + 1).toNat) (by decide +kernel) (by omega) (by omega) ?_
    rw [ey1]
    refine sv_go C.1 C.2.1 [(.aload_n 0, 1), (.iload_n 3, 1), (.iconst 2, 1), (.iadd, 1)] (pc' := 756) (by decide +kernel) rfl (lv' := [(0, sv_r b), (1, sv_r x), (2, sv_r mm), (3, sv_i i)]) (st' := [sv_i (i + 2), sv_r b, sv_i y1, sv_r mm]) rfl ?_
    refine sv_sld C hX hbl hbA (by omega) (j := (i + 2).toNat) (by decide +kernel) (by omega) (by omega) ?_
    rw [ey2]
    refine sv_go C.1 C.2.1 [(.aload_n 0, 1), (.iload_n 3, 1), (.iconst 3, 1), (.iadd, 1)] (pc' := 761) (by decide +kernel) rfl (lv' := [(0, sv_r b), (1, sv_r x), (2, sv_r mm), (3, sv_i i)]) (st' := [sv_i (i + 3), sv_r b, sv_i y2, sv_i y1, sv_r mm]) rfl ?_
    refine sv_sld C hX hbl hbA (by omega) (j := (i + 3).toNat) (by decide +kernel) (by omega) (by omega) ?_
    rw [ey3]
    refine sv_if C.1 C.2.1 (cnd := .eq) (off := 7) (by decide +kernel) (tgt := 769) rfl ⟨by omega, by omega⟩ (fun _ => ?_) (fun h1 => absurd h0 h1)
    refine sv_go C.1 C.2.1 [(.iconst 0, 1)] (pc' := 770) (by decide +kernel) rfl (lv' := [(0, sv_r b), (1, sv_r x), (2, sv_r mm), (3, sv_i i)]) (st' := [sv_i 0, sv_i y2, sv_i y1, sv_r mm]) rfl ?_
    refine sv_cv C (index := 77) (k := 3) (rest := []) (as := [sv_i y1, sv_i y2, sv_i 0]) (ci := 10) (r := (RX11, TX11, 47)) (by decide +kernel) (sf_X11_quarrel l g A ty σ1 hk1 hTA hI1 mm hm (y1) ⟨by omega, by omega⟩ (y2) ⟨by omega, by omega⟩ (0) ⟨by omega, by omega⟩) ⟨lz_co_X11_quarrel, lz_in_X11, ⟨by decide, by decide, by decide +kernel⟩, Nat.le_of_ble_eq_true rfl, Nat.le_of_ble_eq_true rfl⟩ lz_ml_77 lz_im_X11_quarrel lz_se_X11_quarrel (by rw [hm]; rfl) rfl rfl rfl (Nat.le_of_ble_eq_true rfl) ⟨Nat.le_of_ble_eq_true rfl, Nat.le_of_ble_eq_true rfl⟩ (fun r2 σ2 hp2 hk2 => ?_)
    obtain ⟨⟨v2, rfl, hv2⟩, hI2, hF2⟩ := hp2
    refine sv_same (st2 := [sv_i v2]) (lv2 := [(0, sv_r b), (1, sv_r x), (2, sv_r mm), (3, sv_i i)]) rfl rfl ?_
    refine sv_go C.1 C.2.1 [(.pop, 1)] (pc' := 774) (by decide +kernel) rfl (lv' := [(0, sv_r b), (1, sv_r x), (2, sv_r mm), (3, sv_i i)]) (st' := []) rfl ?_
    refine sv_goto C.1 C.2.1 (off := 419) (by decide +kernel) (tgt := 1193) rfl ?_
    exact kk σ2 ⟨hk2, hTA, hI2, hx, hm, (lz_keep hx hm hF2 (by decide) (by decide) (by decide) (by decide) (by decide) (by decide) (lz_keep hx hm hF1 (by decide) (by decide) (by decide) (by decide) (by decide) (by decide) hR))⟩
  · skip
    refine sv_go C.1 C.2.1 [(.iconst 1, 1)] (pc' := 738) (by decide +kernel) rfl (lv' := [(0, sv_r b), (1, sv_r x), (2, sv_r mm), (3, sv_i i)]) (st' := [sv_i 1, sv_i y2, sv_i y1, sv_r x]) rfl ?_
    refine sv_goto C.1 C.2.1 (off := 4) (by decide +kernel) (tgt := 742) rfl ?_
    refine sv_cv C (index := 73) (k := 3) (rest := []) (as := [sv_i y1, sv_i y2, sv_i 1]) (ci := 8) (r := (RX9, TX9, 6)) (by decide +kernel) (sf_X9_quarrel l g A ty σ hok hTA hI x hx (y1) ⟨by omega, by omega⟩ (y2) ⟨by omega, by omega⟩ (1) ⟨by omega, by omega⟩) ⟨lz_co_X9_quarrel, lz_in_X9, ⟨by decide, by decide, by decide +kernel⟩, Nat.le_of_ble_eq_true rfl, Nat.le_of_ble_eq_true rfl⟩ lz_ml_73 lz_im_X9_quarrel lz_se_X9_quarrel (by rw [hx]; rfl) rfl rfl rfl (Nat.le_of_ble_eq_true rfl) ⟨Nat.le_of_ble_eq_true rfl, Nat.le_of_ble_eq_true rfl⟩ (fun r1 σ1 hp1 hk1 => ?_)
    obtain ⟨⟨v1, rfl, hv1⟩, hI1, hF1⟩ := hp1
    refine sv_same (st2 := [sv_i v1]) (lv2 := [(0, sv_r b), (1, sv_r x), (2, sv_r mm), (3, sv_i i)]) rfl rfl ?_
    refine sv_go C.1 C.2.1 [(.pop, 1), (.aload_n 2, 1), (.aload_n 0, 1), (.iload_n 3, 1), (.iconst 1, 1), (.iadd, 1)] (pc' := 751) (by decide +kernel) rfl (lv' := [(0, sv_r b), (1, sv_r x), (2, sv_r mm), (3, sv_i i)]) (st' := [sv_i (i + 1), sv_r b, sv_r mm]) rfl ?_
    refine sv_sld C hX hbl hbA (by omega) (j := (i + 1).toNat) (by decide +kernel) (by omega) (by omega) ?_
    rw [ey1]
    refine sv_go C.1 C.2.1 [(.aload_n 0, 1), (.iload_n 3, 1), (.iconst 2, 1), (.iadd, 1)] (pc' := 756) (by decide +kernel) rfl (lv' := [(0, sv_r b), (1, sv_r x), (2, sv_r mm), (3, sv_i i)]) (st' := [sv_i (i + 2), sv_r b, sv_i y1, sv_r mm]) rfl ?_
    refine sv_sld C hX hbl hbA (by omega) (j := (i + 2).toNat) (by decide +kernel) (by omega) (by omega) ?_
    rw [ey2]
    refine sv_go C.1 C.2.1 [(.aload_n 0, 1), (.iload_n 3, 1), (.iconst 3, 1), (.iadd, 1)] (pc' := 761) (by decide +kernel) rfl (lv' := [(0, sv_r b), (1, sv_r x), (2, sv_r mm), (3, sv_i i)]) (st' := [sv_i (i + 3), sv_r b, sv_i y2, sv_i y1, sv_r mm]) rfl ?_
    refine sv_sld C hX hbl hbA (by omega) (j := (i + 3).toNat) (by decide +kernel) (by omega) (by omega) ?_
    rw [ey3]
    refine sv_if C.1 C.2.1 (cnd := .eq) (off := 7) (by decide +kernel) (tgt := 769) rfl ⟨by omega, by omega⟩ (fun h1 => absurd h1 h0) (fun _ => ?_)
    refine sv_go C.1 C.2.1 [(.iconst 1, 1)] (pc' := 766) (by decide +kernel) rfl (lv' := [(0, sv_r b), (1, sv_r x), (2, sv_r mm), (3, sv_i i)]) (st' := [sv_i 1, sv_i y2, sv_i y1, sv_r mm]) rfl ?_
    refine sv_goto C.1 C.2.1 (off := 4) (by decide +kernel) (tgt := 770) rfl ?_
    refine sv_cv C (index := 77) (k := 3) (rest := []) (as := [sv_i y1, sv_i y2, sv_i 1]) (ci := 10) (r := (RX11, TX11, 47)) (by decide +kernel) (sf_X11_quarrel l g A ty σ1 hk1 hTA hI1 mm hm (y1) ⟨by omega, by omega⟩ (y2) ⟨by omega, by omega⟩ (1) ⟨by omega, by omega⟩) ⟨lz_co_X11_quarrel, lz_in_X11, ⟨by decide, by decide, by decide +kernel⟩, Nat.le_of_ble_eq_true rfl, Nat.le_of_ble_eq_true rfl⟩ lz_ml_77 lz_im_X11_quarrel lz_se_X11_quarrel (by rw [hm]; rfl) rfl rfl rfl (Nat.le_of_ble_eq_true rfl) ⟨Nat.le_of_ble_eq_true rfl, Nat.le_of_ble_eq_true rfl⟩ (fun r2 σ2 hp2 hk2 => ?_)
    obtain ⟨⟨v2, rfl, hv2⟩, hI2, hF2⟩ := hp2
    refine sv_same (st2 := [sv_i v2]) (lv2 := [(0, sv_r b), (1, sv_r x), (2, sv_r mm), (3, sv_i i)]) rfl rfl ?_
    refine sv_go C.1 C.2.1 [(.pop, 1)] (pc' := 774) (by decide +kernel) rfl (lv' := [(0, sv_r b), (1, sv_r x), (2, sv_r mm), (3, sv_i i)]) (st' := []) rfl ?_
    refine sv_goto C.1 C.2.1 (off := 419) (by decide +kernel) (tgt := 1193) rfl ?_
    exact kk σ2 ⟨hk2, hTA, hI2, hx, hm, (lz_keep hx hm hF2 (by decide) (by decide) (by decide) (by decide) (by decide) (by decide) (lz_keep hx hm hF1 (by decide) (by decide) (by decide) (by decide) (by decide) (by decide) hR))⟩
set_option maxHeartbeats 4000000 in
set_option maxRecDepth 100000 in
theorem lz_c15 {p : Program} {l : Launch} {e : Env} {s : State} {m : MethodId} {below : List Frame} {meth : Method} {c : Code} {g : sv_G} {A : Nat → Prop} {b : Nat} {xs : Nat → Int32} {ty : Nat → Nat} {σ : Nat → Nat → Int} {x mm : Nat} {L : Nat} {i : Int} (T : lz_K p s m meth c g A b L xs) (hL : L ≤ 3072) (hi : 0 ≤ i ∧ i + 6 ≤ (L : Int)) (Z : lz_S A ty σ x mm) (kk : ∀ σ2, lz_S A ty σ2 x mm → lz_V p l e s m below meth c b A 433 29939 (sv_H g ty σ2) 1193 [(0, sv_r b), (1, sv_r x), (2, sv_r mm), (3, sv_i i)] []) : lz_V p l e s m below meth c b A 433 29939 (sv_H g ty σ) 777 [(0, sv_r b), (1, sv_r x), (2, sv_r mm), (3, sv_i i)] [] := by
  obtain ⟨C, hX, hbl, hbA, hAs, hr⟩ := T
  obtain ⟨hok, hTA, hI, hx, hm, hR⟩ := Z
  obtain ⟨y1, hy1, ey1⟩ : ∃ z : Int, (-2147483648 ≤ z ∧ z ≤ 2147483647) ∧ (xs (i + 1).toNat).toInt = z := ⟨_, sv_ioin2 _, rfl⟩
  obtain ⟨y2, hy2, ey2⟩ : ∃ z : Int, (-2147483648 ≤ z ∧ z ≤ 2147483647) ∧ (xs (i + 2).toNat).toInt = z := ⟨_, sv_ioin2 _, rfl⟩
  obtain ⟨y3, hy3, ey3⟩ : ∃ z : Int, (-2147483648 ≤ z ∧ z ≤ 2147483647) ∧ (xs (i + 3).toNat).toInt = z := ⟨_, sv_ioin2 _, rfl⟩
  obtain ⟨y4, hy4, ey4⟩ : ∃ z : Int, (-2147483648 ≤ z ∧ z ≤ 2147483647) ∧ (xs (i + 4).toNat).toInt = z := ⟨_, sv_ioin2 _, rfl⟩
  obtain ⟨y5, hy5, ey5⟩ : ∃ z : Int, (-2147483648 ≤ z ∧ z ≤ 2147483647) ∧ (xs (i + 5).toNat).toInt = z := ⟨_, sv_ioin2 _, rfl⟩
  refine sv_go C.1 C.2.1 [(.aload_n 1, 1), (.aload_n 0, 1), (.iload_n 3, 1), (.iconst 1, 1), (.iadd, 1)] (pc' := 782) (by decide +kernel) rfl (lv' := [(0, sv_r b), (1, sv_r x), (2, sv_r mm), (3, sv_i i)]) (st' := [sv_i (i + 1), sv_r b, sv_r x]) rfl ?_
  refine sv_sld C hX hbl hbA (by omega) (j := (i + 1).toNat) (by decide +kernel) (by omega) (by omega) ?_
  rw [ey1]
  refine sv_go C.1 C.2.1 [(.aload_n 0, 1), (.iload_n 3, 1), (.iconst 2, 1), (.iadd, 1)] (pc' := 787) (by decide +kernel) rfl (lv' := [(0, sv_r b), (1, sv_r x), (2, sv_r mm), (3, sv_i i)]) (st' := [sv_i (i + 2), sv_r b, sv_i y1, sv_r x]) rfl ?_
  refine sv_sld C hX hbl hbA (by omega) (j := (i + 2).toNat) (by decide +kernel) (by omega) (by omega) ?_
  rw [ey2]
  refine sv_go C.1 C.2.1 [(.aload_n 0, 1), (.iload_n 3, 1), (.iconst 3, 1), (.iadd, 1)] (pc' := 792) (by decide +kernel) rfl (lv' := [(0, sv_r b), (1, sv_r x), (2, sv_r mm), (3, sv_i i)]) (st' := [sv_i (i + 3), sv_r b, sv_i y2, sv_i y1, sv_r x]) rfl ?_
  refine sv_sld C hX hbl hbA (by omega) (j := (i + 3).toNat) (by decide +kernel) (by omega) (by omega) ?_
  rw [ey3]
  refine sv_go C.1 C.2.1 [(.aload_n 0, 1), (.iload_n 3, 1), (.iconst 4, 1), (.iadd, 1)] (pc' := 797) (by decide +kernel) rfl (lv' := [(0, sv_r b), (1, sv_r x), (2, sv_r mm), (3, sv_i i)]) (st' := [sv_i (i + 4), sv_r b, sv_i y3, sv_i y2, sv_i y1, sv_r x]) rfl ?_
  refine sv_sld C hX hbl hbA (by omega) (j := (i + 4).toNat) (by decide +kernel) (by omega) (by omega) ?_
  rw [ey4]
  refine sv_go C.1 C.2.1 [(.aload_n 0, 1), (.iload_n 3, 1), (.iconst 5, 1), (.iadd, 1)] (pc' := 802) (by decide +kernel) rfl (lv' := [(0, sv_r b), (1, sv_r x), (2, sv_r mm), (3, sv_i i)]) (st' := [sv_i (i + 5), sv_r b, sv_i y4, sv_i y3, sv_i y2, sv_i y1, sv_r x]) rfl ?_
  refine sv_sld C hX hbl hbA (by omega) (j := (i + 5).toNat) (by decide +kernel) (by omega) (by omega) ?_
  rw [ey5]
  refine sv_cv C (index := 78) (k := 5) (rest := []) (as := [sv_i y1, sv_i y2, sv_i y3, sv_i y4, sv_i y5]) (ci := 8) (r := (RX9, TX9, 6)) (by decide +kernel) (sf_X9_rota l g A ty σ hok hTA hI x hx (y1) ⟨by omega, by omega⟩ (y2) ⟨by omega, by omega⟩ (y3) ⟨by omega, by omega⟩ (y4) ⟨by omega, by omega⟩ (y5) ⟨by omega, by omega⟩) ⟨lz_co_X9_rota, lz_in_X9, ⟨by decide, by decide, by decide +kernel⟩, Nat.le_of_ble_eq_true rfl, Nat.le_of_ble_eq_true rfl⟩ lz_ml_78 lz_im_X9_rota lz_se_X9_rota (by rw [hx]; rfl) rfl rfl rfl (Nat.le_of_ble_eq_true rfl) ⟨Nat.le_of_ble_eq_true rfl, Nat.le_of_ble_eq_true rfl⟩ (fun r1 σ1 hp1 hk1 => ?_)
  obtain ⟨⟨v1, rfl, hv1⟩, hI1, hF1⟩ := hp1
  refine sv_same (st2 := [sv_i v1]) (lv2 := [(0, sv_r b), (1, sv_r x), (2, sv_r mm), (3, sv_i i)]) rfl rfl ?_
  refine sv_go C.1 C.2.1 [(.pop, 1), (.aload_n 2, 1), (.aload_n 0, 1), (.iload_n 3, 1), (.iconst 1, 1), (.iadd, 1)] (pc' := 812) (by decide +kernel) rfl (lv' := [(0, sv_r b), (1, sv_r x), (2, sv_r mm), (3, sv_i i)]) (st' := [sv_i (i + 1), sv_r b, sv_r mm]) rfl ?_
  refine sv_sld C hX hbl hbA (by omega) (j := (i + 1).toNat) (by decide +kernel) (by omega) (by omega) ?_
  rw [ey1]
  refine sv_go C.1 C.2.1 [(.aload_n 0, 1), (.iload_n 3, 1), (.iconst 2, 1), (.iadd, 1)] (pc' := 817) (by decide +kernel) rfl (lv' := [(0, sv_r b), (1, sv_r x), (2, sv_r mm), (3, sv_i i)]) (st' := [sv_i (i + 2), sv_r b, sv_i y1, sv_r mm]) rfl ?_
  refine sv_sld C hX hbl hbA (by omega) (j := (i + 2).toNat) (by decide +kernel) (by omega) (by omega) ?_
  rw [ey2]
  refine sv_go C.1 C.2.1 [(.aload_n 0, 1), (.iload_n 3, 1), (.iconst 3, 1), (.iadd, 1)] (pc' := 822) (by decide +kernel) rfl (lv' := [(0, sv_r b), (1, sv_r x), (2, sv_r mm), (3, sv_i i)]) (st' := [sv_i (i + 3), sv_r b, sv_i y2, sv_i y1, sv_r mm]) rfl ?_
  refine sv_sld C hX hbl hbA (by omega) (j := (i + 3).toNat) (by decide +kernel) (by omega) (by omega) ?_
  rw [ey3]
  refine sv_go C.1 C.2.1 [(.aload_n 0, 1), (.iload_n 3, 1), (.iconst 4, 1), (.iadd, 1)] (pc' := 827) (by decide +kernel) rfl (lv' := [(0, sv_r b), (1, sv_r x), (2, sv_r mm), (3, sv_i i)]) (st' := [sv_i (i + 4), sv_r b, sv_i y3, sv_i y2, sv_i y1, sv_r mm]) rfl ?_
  refine sv_sld C hX hbl hbA (by omega) (j := (i + 4).toNat) (by decide +kernel) (by omega) (by omega) ?_
  rw [ey4]
  refine sv_go C.1 C.2.1 [(.aload_n 0, 1), (.iload_n 3, 1), (.iconst 5, 1), (.iadd, 1)] (pc' := 832) (by decide +kernel) rfl (lv' := [(0, sv_r b), (1, sv_r x), (2, sv_r mm), (3, sv_i i)]) (st' := [sv_i (i + 5), sv_r b, sv_i y4, sv_i y3, sv_i y2, sv_i y1, sv_r mm]) rfl ?_
  refine sv_sld C hX hbl hbA (by omega) (j := (i + 5).toNat) (by decide +kernel) (by omega) (by omega) ?_
  rw [ey5]
  refine sv_cv C (index := 81) (k := 5) (rest := []) (as := [sv_i y1, sv_i y2, sv_i y3, sv_i y4, sv_i y5]) (ci := 10) (r := (RX11, TX11, 47)) (by decide +kernel) (sf_X11_rota l g A ty σ1 hk1 hTA hI1 mm hm (y1) ⟨by omega, by omega⟩ (y2) ⟨by omega, by omega⟩ (y3) ⟨by omega, by omega⟩ (y4) ⟨by omega, by omega⟩ (y5) ⟨by omega, by omega⟩) ⟨lz_co_X11_rota, lz_in_X11, ⟨by decide, by decide, by decide +kernel⟩, Nat.le_of_ble_eq_true rfl, Nat.le_of_ble_eq_true rfl⟩ lz_ml_81 lz_im_X11_rota lz_se_X11_rota (by rw [hm]; rfl) rfl rfl rfl (Nat.le_of_ble_eq_true rfl) ⟨Nat.le_of_ble_eq_true rfl, Nat.le_of_ble_eq_true rfl⟩ (fun r2 σ2 hp2 hk2 => ?_)
  obtain ⟨⟨v2, rfl, hv2⟩, hI2, hF2⟩ := hp2
  refine sv_same (st2 := [sv_i v2]) (lv2 := [(0, sv_r b), (1, sv_r x), (2, sv_r mm), (3, sv_i i)]) rfl rfl ?_
  refine sv_go C.1 C.2.1 [(.pop, 1)] (pc' := 837) (by decide +kernel) rfl (lv' := [(0, sv_r b), (1, sv_r x), (2, sv_r mm), (3, sv_i i)]) (st' := []) rfl ?_
  refine sv_goto C.1 C.2.1 (off := 356) (by decide +kernel) (tgt := 1193) rfl ?_
  exact kk σ2 ⟨hk2, hTA, hI2, hx, hm, (lz_keep hx hm hF2 (by decide) (by decide) (by decide) (by decide) (by decide) (by decide) (lz_keep hx hm hF1 (by decide) (by decide) (by decide) (by decide) (by decide) (by decide) hR))⟩
set_option maxHeartbeats 4000000 in
set_option maxRecDepth 100000 in
theorem lz_c16 {p : Program} {l : Launch} {e : Env} {s : State} {m : MethodId} {below : List Frame} {meth : Method} {c : Code} {g : sv_G} {A : Nat → Prop} {b : Nat} {xs : Nat → Int32} {ty : Nat → Nat} {σ : Nat → Nat → Int} {x mm : Nat} {L : Nat} {i : Int} (T : lz_K p s m meth c g A b L xs) (hL : L ≤ 3072) (hi : 0 ≤ i ∧ i + 6 ≤ (L : Int)) (Z : lz_S A ty σ x mm) (kk : ∀ σ2, lz_S A ty σ2 x mm → lz_V p l e s m below meth c b A 433 29939 (sv_H g ty σ2) 1193 [(0, sv_r b), (1, sv_r x), (2, sv_r mm), (3, sv_i i)] []) : lz_V p l e s m below meth c b A 433 29939 (sv_H g ty σ) 840 [(0, sv_r b), (1, sv_r x), (2, sv_r mm), (3, sv_i i)] [] := by
  obtain ⟨C, hX, hbl, hbA, hAs, hr⟩ := T
  obtain ⟨hok, hTA, hI, hx, hm, hR⟩ := Z
  obtain ⟨y1, hy1, ey1⟩ : ∃ z : Int, (-2147483648 ≤ z ∧ z ≤ 2147483647) ∧ (xs (i + 1).toNat).toInt = z := ⟨_, sv_ioin2 _, rfl⟩
  obtain ⟨y2, hy2, ey2⟩ : ∃ z : Int, (-2147483648 ≤ z ∧ z ≤ 2147483647) ∧ (xs (i + 2).toNat).toInt = z := ⟨_, sv_ioin2 _, rfl⟩
  refine sv_go C.1 C.2.1 [(.aload_n 1, 1), (.aload_n 0, 1), (.iload_n 3, 1), (.iconst 1, 1), (.iadd, 1)] (pc' := 845) (by decide +kernel) rfl (lv' := [(0, sv_r b), (1, sv_r x), (2, sv_r mm), (3, sv_i i)]) (st' := [sv_i (i + 1), sv_r b, sv_r x]) rfl ?_
  refine sv_sld C hX hbl hbA (by omega) (j := (i + 1).toNat) (by decide +kernel) (by omega) (by omega) ?_
  rw [ey1]
  refine sv_go C.1 C.2.1 [(.aload_n 0, 1), (.iload_n 3, 1), (.iconst 2, 1), (.iadd, 1)] (pc' := 850) (by decide +kernel) rfl (lv' := [(0, sv_r b), (1, sv_r x), (2, sv_r mm), (3, sv_i i)]) (st' := [sv_i (i + 2), sv_r b, sv_i y1, sv_r x]) rfl ?_
  refine sv_sld C hX hbl hbA (by omega) (j := (i + 2).toNat) (by decide +kernel) (by omega) (by omega) ?_
  rw [ey2]
  refine sv_cv C (index := 82) (k := 2) (rest := []) (as := [sv_i y1, sv_i y2]) (ci := 8) (r := (RX9, TX9, 6)) (by decide +kernel) (sf_X9_turn l g A ty σ hok hTA hI x hx (y1) ⟨by omega, by omega⟩ (y2) ⟨by omega, by omega⟩) ⟨lz_co_X9_turn, lz_in_X9, ⟨by decide, by decide, by decide +kernel⟩, Nat.le_of_ble_eq_true rfl, Nat.le_of_ble_eq_true rfl⟩ lz_ml_82 lz_im_X9_turn lz_se_X9_turn (by rw [hx]; rfl) rfl rfl rfl (Nat.le_of_ble_eq_true rfl) ⟨Nat.le_of_ble_eq_true rfl, Nat.le_of_ble_eq_true rfl⟩ (fun r1 σ1 hp1 hk1 => ?_)
  obtain ⟨hs1, ⟨v1, rfl, hv1⟩⟩ := hp1
  subst hs1
  refine sv_same (st2 := [sv_i v1]) (lv2 := [(0, sv_r b), (1, sv_r x), (2, sv_r mm), (3, sv_i i)]) rfl rfl ?_
  refine sv_go C.1 C.2.1 [(.pop, 1), (.aload_n 2, 1), (.aload_n 0, 1), (.iload_n 3, 1), (.iconst 1, 1), (.iadd, 1)] (pc' := 860) (by decide +kernel) rfl (lv' := [(0, sv_r b), (1, sv_r x), (2, sv_r mm), (3, sv_i i)]) (st' := [sv_i (i + 1), sv_r b, sv_r mm]) rfl ?_
  refine sv_sld C hX hbl hbA (by omega) (j := (i + 1).toNat) (by decide +kernel) (by omega) (by omega) ?_
  rw [ey1]
  refine sv_go C.1 C.2.1 [(.aload_n 0, 1), (.iload_n 3, 1), (.iconst 2, 1), (.iadd, 1)] (pc' := 865) (by decide +kernel) rfl (lv' := [(0, sv_r b), (1, sv_r x), (2, sv_r mm), (3, sv_i i)]) (st' := [sv_i (i + 2), sv_r b, sv_i y1, sv_r mm]) rfl ?_
  refine sv_sld C hX hbl hbA (by omega) (j := (i + 2).toNat) (by decide +kernel) (by omega) (by omega) ?_
  rw [ey2]
  refine sv_cv C (index := 86) (k := 2) (rest := []) (as := [sv_i y1, sv_i y2]) (ci := 10) (r := (RX11, TX11, 47)) (by decide +kernel) (sf_X11_turn l g A ty σ hk1 hTA hI mm hm (y1) ⟨by omega, by omega⟩ (y2) ⟨by omega, by omega⟩) ⟨lz_co_X11_turn, lz_in_X11, ⟨by decide, by decide, by decide +kernel⟩, Nat.le_of_ble_eq_true rfl, Nat.le_of_ble_eq_true rfl⟩ lz_ml_86 lz_im_X11_turn lz_se_X11_turn (by rw [hm]; rfl) rfl rfl rfl (Nat.le_of_ble_eq_true rfl) ⟨Nat.le_of_ble_eq_true rfl, Nat.le_of_ble_eq_true rfl⟩ (fun r2 σ2 hp2 hk2 => ?_)
  obtain ⟨hs2, ⟨v2, rfl, hv2⟩⟩ := hp2
  subst hs2
  refine sv_same (st2 := [sv_i v2]) (lv2 := [(0, sv_r b), (1, sv_r x), (2, sv_r mm), (3, sv_i i)]) rfl rfl ?_
  refine sv_go C.1 C.2.1 [(.pop, 1)] (pc' := 870) (by decide +kernel) rfl (lv' := [(0, sv_r b), (1, sv_r x), (2, sv_r mm), (3, sv_i i)]) (st' := []) rfl ?_
  refine sv_goto C.1 C.2.1 (off := 323) (by decide +kernel) (tgt := 1193) rfl ?_
  exact kk σ ⟨hk2, hTA, hI, hx, hm, hR⟩
set_option maxHeartbeats 4000000 in
set_option maxRecDepth 100000 in
theorem lz_c17 {p : Program} {l : Launch} {e : Env} {s : State} {m : MethodId} {below : List Frame} {meth : Method} {c : Code} {g : sv_G} {A : Nat → Prop} {b : Nat} {xs : Nat → Int32} {ty : Nat → Nat} {σ : Nat → Nat → Int} {x mm : Nat} {L : Nat} {i : Int} (T : lz_K p s m meth c g A b L xs) (hL : L ≤ 3072) (hi : 0 ≤ i ∧ i + 6 ≤ (L : Int)) (Z : lz_S A ty σ x mm) (kk : ∀ σ2, lz_S A ty σ2 x mm → lz_V p l e s m below meth c b A 433 29939 (sv_H g ty σ2) 1193 [(0, sv_r b), (1, sv_r x), (2, sv_r mm), (3, sv_i i)] []) : lz_V p l e s m below meth c b A 433 29939 (sv_H g ty σ) 873 [(0, sv_r b), (1, sv_r x), (2, sv_r mm), (3, sv_i i)] [] := by
  obtain ⟨C, hX, hbl, hbA, hAs, hr⟩ := T
  obtain ⟨hok, hTA, hI, hx, hm, hR⟩ := Z
  obtain ⟨y1, hy1, ey1⟩ : ∃ z : Int, (-2147483648 ≤ z ∧ z ≤ 2147483647) ∧ (xs (i + 1).toNat).toInt = z := ⟨_, sv_ioin2 _, rfl⟩
  refine sv_go C.1 C.2.1 [(.aload_n 1, 1), (.aload_n 0, 1), (.iload_n 3, 1), (.iconst 1, 1), (.iadd, 1)] (pc' := 878) (by decide +kernel) rfl (lv' := [(0, sv_r b), (1, sv_r x), (2, sv_r mm), (3, sv_i i)]) (st' := [sv_i (i + 1), sv_r b, sv_r x]) rfl ?_
  refine sv_sld C hX hbl hbA (by omega) (j := (i + 1).toNat) (by decide +kernel) (by omega) (by omega) ?_
  rw [ey1]
  refine sv_cv C (index := 87) (k := 1) (rest := []) (as := [sv_i y1]) (ci := 8) (r := (RX9, TX9, 6)) (by decide +kernel) (sf_X9_carried l g A ty σ hok hTA hI x hx (y1) ⟨by omega, by omega⟩) ⟨lz_co_X9_carried, lz_in_X9, ⟨by decide, by decide, by decide +kernel⟩, Nat.le_of_ble_eq_true rfl, Nat.le_of_ble_eq_true rfl⟩ lz_ml_87 lz_im_X9_carried lz_se_X9_carried (by rw [hx]; rfl) rfl rfl rfl (Nat.le_of_ble_eq_true rfl) ⟨Nat.le_of_ble_eq_true rfl, Nat.le_of_ble_eq_true rfl⟩ (fun r1 σ1 hp1 hk1 => ?_)
  obtain ⟨hs1, ⟨v1, rfl, hv1⟩⟩ := hp1
  subst hs1
  refine sv_same (st2 := [sv_i v1]) (lv2 := [(0, sv_r b), (1, sv_r x), (2, sv_r mm), (3, sv_i i)]) rfl rfl ?_
  refine sv_go C.1 C.2.1 [(.pop, 1), (.aload_n 2, 1), (.aload_n 0, 1), (.iload_n 3, 1), (.iconst 1, 1), (.iadd, 1)] (pc' := 888) (by decide +kernel) rfl (lv' := [(0, sv_r b), (1, sv_r x), (2, sv_r mm), (3, sv_i i)]) (st' := [sv_i (i + 1), sv_r b, sv_r mm]) rfl ?_
  refine sv_sld C hX hbl hbA (by omega) (j := (i + 1).toNat) (by decide +kernel) (by omega) (by omega) ?_
  rw [ey1]
  refine sv_cv C (index := 90) (k := 1) (rest := []) (as := [sv_i y1]) (ci := 10) (r := (RX11, TX11, 47)) (by decide +kernel) (sf_X11_carried l g A ty σ hk1 hTA hI mm hm (y1) ⟨by omega, by omega⟩) ⟨lz_co_X11_carried, lz_in_X11, ⟨by decide, by decide, by decide +kernel⟩, Nat.le_of_ble_eq_true rfl, Nat.le_of_ble_eq_true rfl⟩ lz_ml_90 lz_im_X11_carried lz_se_X11_carried (by rw [hm]; rfl) rfl rfl rfl (Nat.le_of_ble_eq_true rfl) ⟨Nat.le_of_ble_eq_true rfl, Nat.le_of_ble_eq_true rfl⟩ (fun r2 σ2 hp2 hk2 => ?_)
  obtain ⟨hs2, ⟨v2, rfl, hv2⟩⟩ := hp2
  subst hs2
  refine sv_same (st2 := [sv_i v2]) (lv2 := [(0, sv_r b), (1, sv_r x), (2, sv_r mm), (3, sv_i i)]) rfl rfl ?_
  refine sv_go C.1 C.2.1 [(.pop, 1)] (pc' := 893) (by decide +kernel) rfl (lv' := [(0, sv_r b), (1, sv_r x), (2, sv_r mm), (3, sv_i i)]) (st' := []) rfl ?_
  refine sv_goto C.1 C.2.1 (off := 300) (by decide +kernel) (tgt := 1193) rfl ?_
  exact kk σ ⟨hk2, hTA, hI, hx, hm, hR⟩
set_option maxHeartbeats 4000000 in
set_option maxRecDepth 100000 in
theorem lz_c18 {p : Program} {l : Launch} {e : Env} {s : State} {m : MethodId} {below : List Frame} {meth : Method} {c : Code} {g : sv_G} {A : Nat → Prop} {b : Nat} {xs : Nat → Int32} {ty : Nat → Nat} {σ : Nat → Nat → Int} {x mm : Nat} {L : Nat} {i : Int} (T : lz_K p s m meth c g A b L xs) (hL : L ≤ 3072) (hi : 0 ≤ i ∧ i + 6 ≤ (L : Int)) (Z : lz_S A ty σ x mm) (kk : ∀ σ2, lz_S A ty σ2 x mm → lz_V p l e s m below meth c b A 433 29939 (sv_H g ty σ2) 1193 [(0, sv_r b), (1, sv_r x), (2, sv_r mm), (3, sv_i i)] []) : lz_V p l e s m below meth c b A 433 29939 (sv_H g ty σ) 896 [(0, sv_r b), (1, sv_r x), (2, sv_r mm), (3, sv_i i)] [] := by
  obtain ⟨C, hX, hbl, hbA, hAs, hr⟩ := T
  obtain ⟨hok, hTA, hI, hx, hm, hR⟩ := Z
  obtain ⟨y1, hy1, ey1⟩ : ∃ z : Int, (-2147483648 ≤ z ∧ z ≤ 2147483647) ∧ (xs (i + 1).toNat).toInt = z := ⟨_, sv_ioin2 _, rfl⟩
  obtain ⟨y2, hy2, ey2⟩ : ∃ z : Int, (-2147483648 ≤ z ∧ z ≤ 2147483647) ∧ (xs (i + 2).toNat).toInt = z := ⟨_, sv_ioin2 _, rfl⟩
  obtain ⟨y3, hy3, ey3⟩ : ∃ z : Int, (-2147483648 ≤ z ∧ z ≤ 2147483647) ∧ (xs (i + 3).toNat).toInt = z := ⟨_, sv_ioin2 _, rfl⟩
  refine sv_go C.1 C.2.1 [(.aload_n 1, 1), (.aload_n 0, 1), (.iload_n 3, 1), (.iconst 1, 1), (.iadd, 1)] (pc' := 901) (by decide +kernel) rfl (lv' := [(0, sv_r b), (1, sv_r x), (2, sv_r mm), (3, sv_i i)]) (st' := [sv_i (i + 1), sv_r b, sv_r x]) rfl ?_
  refine sv_sld C hX hbl hbA (by omega) (j := (i + 1).toNat) (by decide +kernel) (by omega) (by omega) ?_
  rw [ey1]
  refine sv_go C.1 C.2.1 [(.aload_n 0, 1), (.iload_n 3, 1), (.iconst 2, 1), (.iadd, 1)] (pc' := 906) (by decide +kernel) rfl (lv' := [(0, sv_r b), (1, sv_r x), (2, sv_r mm), (3, sv_i i)]) (st' := [sv_i (i + 2), sv_r b, sv_i y1, sv_r x]) rfl ?_
  refine sv_sld C hX hbl hbA (by omega) (j := (i + 2).toNat) (by decide +kernel) (by omega) (by omega) ?_
  rw [ey2]
  refine sv_go C.1 C.2.1 [(.aload_n 0, 1), (.iload_n 3, 1), (.iconst 3, 1), (.iadd, 1)] (pc' := 911) (by decide +kernel) rfl (lv' := [(0, sv_r b), (1, sv_r x), (2, sv_r mm), (3, sv_i i)]) (st' := [sv_i (i + 3), sv_r b, sv_i y2, sv_i y1, sv_r x]) rfl ?_
  refine sv_sld C hX hbl hbA (by omega) (j := (i + 3).toNat) (by decide +kernel) (by omega) (by omega) ?_
  rw [ey3]
  obtain ⟨tq, bq, mq, sq, s1, s2, s3, s4, s5, hn, hD, hst, hv⟩ := id hR
  obtain ⟨⟨et, kt⟩, ⟨eb, kb⟩, ⟨em, km⟩, ⟨es0, ks0⟩, ⟨es1, ks1⟩, ⟨es2, ks2⟩, ⟨es3, ks3⟩, ⟨es4, ks4⟩, es5, ks5⟩ := id hn
  refine sv_cv C (index := 91) (k := 3) (rest := []) (as := [sv_i y1, sv_i y2, sv_i y3]) (ci := 8) (r := (RX9, TX9, 6)) (by decide +kernel) (ct_X9_street l g A ty σ hok hTA hI x hx (y1) ⟨by omega, by omega⟩ (y2) ⟨by omega, by omega⟩ (y3) ⟨by omega, by omega⟩ tq kt mq km et em) ⟨lz_co_X9_street, lz_in_X9, ⟨by decide, by decide, by decide +kernel⟩, Nat.le_of_ble_eq_true rfl, Nat.le_of_ble_eq_true rfl⟩ lz_ml_91 lz_im_X9_street lz_se_X9_street (by rw [hx]; rfl) rfl rfl rfl (Nat.le_of_ble_eq_true rfl) ⟨Nat.le_of_ble_eq_true rfl, Nat.le_of_ble_eq_true rfl⟩ (fun r1 σ1 hp1 hk1 => ?_)
  obtain ⟨⟨v1, rfl, hv1, im1_0⟩, hI1, hF1⟩ := hp1
  refine sv_same (st2 := [sv_i v1]) (lv2 := [(0, sv_r b), (1, sv_r x), (2, sv_r mm), (3, sv_i i)]) rfl rfl ?_
  refine sv_go C.1 C.2.1 [(.pop, 1), (.aload_n 2, 1), (.aload_n 0, 1), (.iload_n 3, 1), (.iconst 1, 1), (.iadd, 1)] (pc' := 921) (by decide +kernel) rfl (lv' := [(0, sv_r b), (1, sv_r x), (2, sv_r mm), (3, sv_i i)]) (st' := [sv_i (i + 1), sv_r b, sv_r mm]) rfl ?_
  refine sv_sld C hX hbl hbA (by omega) (j := (i + 1).toNat) (by decide +kernel) (by omega) (by omega) ?_
  rw [ey1]
  refine sv_go C.1 C.2.1 [(.aload_n 0, 1), (.iload_n 3, 1), (.iconst 2, 1), (.iadd, 1)] (pc' := 926) (by decide +kernel) rfl (lv' := [(0, sv_r b), (1, sv_r x), (2, sv_r mm), (3, sv_i i)]) (st' := [sv_i (i + 2), sv_r b, sv_i y1, sv_r mm]) rfl ?_
  refine sv_sld C hX hbl hbA (by omega) (j := (i + 2).toNat) (by decide +kernel) (by omega) (by omega) ?_
  rw [ey2]
  refine sv_go C.1 C.2.1 [(.aload_n 0, 1), (.iload_n 3, 1), (.iconst 3, 1), (.iadd, 1)] (pc' := 931) (by decide +kernel) rfl (lv' := [(0, sv_r b), (1, sv_r x), (2, sv_r mm), (3, sv_i i)]) (st' := [sv_i (i + 3), sv_r b, sv_i y2, sv_i y1, sv_r mm]) rfl ?_
  refine sv_sld C hX hbl hbA (by omega) (j := (i + 3).toNat) (by decide +kernel) (by omega) (by omega) ?_
  rw [ey3]
  have hn1 := zn_of hx hm hF1 (by decide) (by decide) hn
  clear et eb em es0 es1 es2 es3 es4 es5
  obtain ⟨⟨et, kt⟩, ⟨eb, kb⟩, ⟨em, km⟩, ⟨es0, ks0⟩, ⟨es1, ks1⟩, ⟨es2, ks2⟩, ⟨es3, ks3⟩, ⟨es4, ks4⟩, es5, ks5⟩ := id hn1
  refine sv_cv C (index := 94) (k := 3) (rest := []) (as := [sv_i y1, sv_i y2, sv_i y3]) (ci := 10) (r := (RX11, TX11, 47)) (by decide +kernel) (ct_X11_street l g A ty σ1 hk1 hTA hI1 mm hm (y1) ⟨by omega, by omega⟩ (y2) ⟨by omega, by omega⟩ (y3) ⟨by omega, by omega⟩ sq ks0 es0) ⟨lz_co_X11_street, lz_in_X11, ⟨by decide, by decide, by decide +kernel⟩, Nat.le_of_ble_eq_true rfl, Nat.le_of_ble_eq_true rfl⟩ lz_ml_94 lz_im_X11_street lz_se_X11_street (by rw [hm]; rfl) rfl rfl rfl (Nat.le_of_ble_eq_true rfl) ⟨Nat.le_of_ble_eq_true rfl, Nat.le_of_ble_eq_true rfl⟩ (fun r2 σ2 hp2 hk2 => ?_)
  obtain ⟨⟨v2, rfl, hv2, im2_0⟩, hI2, hF2⟩ := hp2
  have hst2 := lz_str hx hm hn hD hst hv hF1 hF2 (by decide) (by decide) (by decide) (by decide) (im1_0 (by omega) (by omega)) (im2_0 (by omega) (by omega))
  refine sv_same (st2 := [sv_i v2]) (lv2 := [(0, sv_r b), (1, sv_r x), (2, sv_r mm), (3, sv_i i)]) rfl rfl ?_
  refine sv_go C.1 C.2.1 [(.pop, 1)] (pc' := 936) (by decide +kernel) rfl (lv' := [(0, sv_r b), (1, sv_r x), (2, sv_r mm), (3, sv_i i)]) (st' := []) rfl ?_
  refine sv_goto C.1 C.2.1 (off := 257) (by decide +kernel) (tgt := 1193) rfl ?_
  exact kk σ2 ⟨hk2, hTA, hI2, hx, hm, hst2.2⟩
set_option maxHeartbeats 4000000 in
set_option maxRecDepth 100000 in
theorem lz_c19 {p : Program} {l : Launch} {e : Env} {s : State} {m : MethodId} {below : List Frame} {meth : Method} {c : Code} {g : sv_G} {A : Nat → Prop} {b : Nat} {xs : Nat → Int32} {ty : Nat → Nat} {σ : Nat → Nat → Int} {x mm : Nat} {L : Nat} {i : Int} (T : lz_K p s m meth c g A b L xs) (hL : L ≤ 3072) (hi : 0 ≤ i ∧ i + 6 ≤ (L : Int)) (Z : lz_S A ty σ x mm) (kk : ∀ σ2, lz_S A ty σ2 x mm → lz_V p l e s m below meth c b A 433 29939 (sv_H g ty σ2) 1193 [(0, sv_r b), (1, sv_r x), (2, sv_r mm), (3, sv_i i)] []) : lz_V p l e s m below meth c b A 433 29939 (sv_H g ty σ) 939 [(0, sv_r b), (1, sv_r x), (2, sv_r mm), (3, sv_i i)] [] := by
  obtain ⟨C, hX, hbl, hbA, hAs, hr⟩ := T
  obtain ⟨hok, hTA, hI, hx, hm, hR⟩ := Z
  obtain ⟨y1, hy1, ey1⟩ : ∃ z : Int, (-2147483648 ≤ z ∧ z ≤ 2147483647) ∧ (xs (i + 1).toNat).toInt = z := ⟨_, sv_ioin2 _, rfl⟩
  obtain ⟨y2, hy2, ey2⟩ : ∃ z : Int, (-2147483648 ≤ z ∧ z ≤ 2147483647) ∧ (xs (i + 2).toNat).toInt = z := ⟨_, sv_ioin2 _, rfl⟩
  obtain ⟨y3, hy3, ey3⟩ : ∃ z : Int, (-2147483648 ≤ z ∧ z ≤ 2147483647) ∧ (xs (i + 3).toNat).toInt = z := ⟨_, sv_ioin2 _, rfl⟩
  obtain ⟨y4, hy4, ey4⟩ : ∃ z : Int, (-2147483648 ≤ z ∧ z ≤ 2147483647) ∧ (xs (i + 4).toNat).toInt = z := ⟨_, sv_ioin2 _, rfl⟩
  refine sv_go C.1 C.2.1 [(.aload_n 1, 1), (.aload_n 0, 1), (.iload_n 3, 1), (.iconst 1, 1), (.iadd, 1)] (pc' := 944) (by decide +kernel) rfl (lv' := [(0, sv_r b), (1, sv_r x), (2, sv_r mm), (3, sv_i i)]) (st' := [sv_i (i + 1), sv_r b, sv_r x]) rfl ?_
  refine sv_sld C hX hbl hbA (by omega) (j := (i + 1).toNat) (by decide +kernel) (by omega) (by omega) ?_
  rw [ey1]
  refine sv_go C.1 C.2.1 [(.aload_n 0, 1), (.iload_n 3, 1), (.iconst 2, 1), (.iadd, 1)] (pc' := 949) (by decide +kernel) rfl (lv' := [(0, sv_r b), (1, sv_r x), (2, sv_r mm), (3, sv_i i)]) (st' := [sv_i (i + 2), sv_r b, sv_i y1, sv_r x]) rfl ?_
  refine sv_sld C hX hbl hbA (by omega) (j := (i + 2).toNat) (by decide +kernel) (by omega) (by omega) ?_
  rw [ey2]
  refine sv_go C.1 C.2.1 [(.aload_n 0, 1), (.iload_n 3, 1), (.iconst 3, 1), (.iadd, 1)] (pc' := 954) (by decide +kernel) rfl (lv' := [(0, sv_r b), (1, sv_r x), (2, sv_r mm), (3, sv_i i)]) (st' := [sv_i (i + 3), sv_r b, sv_i y2, sv_i y1, sv_r x]) rfl ?_
  refine sv_sld C hX hbl hbA (by omega) (j := (i + 3).toNat) (by decide +kernel) (by omega) (by omega) ?_
  rw [ey3]
  refine sv_go C.1 C.2.1 [(.aload_n 0, 1), (.iload_n 3, 1), (.iconst 4, 1), (.iadd, 1)] (pc' := 959) (by decide +kernel) rfl (lv' := [(0, sv_r b), (1, sv_r x), (2, sv_r mm), (3, sv_i i)]) (st' := [sv_i (i + 4), sv_r b, sv_i y3, sv_i y2, sv_i y1, sv_r x]) rfl ?_
  refine sv_sld C hX hbl hbA (by omega) (j := (i + 4).toNat) (by decide +kernel) (by omega) (by omega) ?_
  rw [ey4]
  obtain ⟨tq, bq, mq, sq, s1, s2, s3, s4, s5, hn, hD, hst, hv⟩ := id hR
  obtain ⟨⟨et, kt⟩, ⟨eb, kb⟩, ⟨em, km⟩, ⟨es0, ks0⟩, ⟨es1, ks1⟩, ⟨es2, ks2⟩, ⟨es3, ks3⟩, ⟨es4, ks4⟩, es5, ks5⟩ := id hn
  refine sv_cv C (index := 95) (k := 4) (rest := []) (as := [sv_i y1, sv_i y2, sv_i y3, sv_i y4]) (ci := 8) (r := (RX9, TX9, 6)) (by decide +kernel) (ct_X9_begin l g A ty σ hok hTA hI x hx (y1) ⟨by omega, by omega⟩ (y2) ⟨by omega, by omega⟩ (y3) ⟨by omega, by omega⟩ (y4) ⟨by omega, by omega⟩ tq kt bq kb et eb) ⟨lz_co_X9_begin, lz_in_X9, ⟨by decide, by decide, by decide +kernel⟩, Nat.le_of_ble_eq_true rfl, Nat.le_of_ble_eq_true rfl⟩ lz_ml_95 lz_im_X9_begin lz_se_X9_begin (by rw [hx]; rfl) rfl rfl rfl (Nat.le_of_ble_eq_true rfl) ⟨Nat.le_of_ble_eq_true rfl, Nat.le_of_ble_eq_true rfl⟩ (fun r1 σ1 hp1 hk1 => ?_)
  obtain ⟨⟨v1, rfl, hv1, im1_0⟩, hI1, hF1⟩ := hp1
  refine sv_same (st2 := [sv_i v1]) (lv2 := [(0, sv_r b), (1, sv_r x), (2, sv_r mm), (3, sv_i i)]) rfl rfl ?_
  refine sv_go C.1 C.2.1 [(.pop, 1), (.aload_n 2, 1), (.aload_n 0, 1), (.iload_n 3, 1), (.iconst 1, 1), (.iadd, 1)] (pc' := 969) (by decide +kernel) rfl (lv' := [(0, sv_r b), (1, sv_r x), (2, sv_r mm), (3, sv_i i)]) (st' := [sv_i (i + 1), sv_r b, sv_r mm]) rfl ?_
  refine sv_sld C hX hbl hbA (by omega) (j := (i + 1).toNat) (by decide +kernel) (by omega) (by omega) ?_
  rw [ey1]
  refine sv_go C.1 C.2.1 [(.aload_n 0, 1), (.iload_n 3, 1), (.iconst 2, 1), (.iadd, 1)] (pc' := 974) (by decide +kernel) rfl (lv' := [(0, sv_r b), (1, sv_r x), (2, sv_r mm), (3, sv_i i)]) (st' := [sv_i (i + 2), sv_r b, sv_i y1, sv_r mm]) rfl ?_
  refine sv_sld C hX hbl hbA (by omega) (j := (i + 2).toNat) (by decide +kernel) (by omega) (by omega) ?_
  rw [ey2]
  refine sv_go C.1 C.2.1 [(.aload_n 0, 1), (.iload_n 3, 1), (.iconst 3, 1), (.iadd, 1)] (pc' := 979) (by decide +kernel) rfl (lv' := [(0, sv_r b), (1, sv_r x), (2, sv_r mm), (3, sv_i i)]) (st' := [sv_i (i + 3), sv_r b, sv_i y2, sv_i y1, sv_r mm]) rfl ?_
  refine sv_sld C hX hbl hbA (by omega) (j := (i + 3).toNat) (by decide +kernel) (by omega) (by omega) ?_
  rw [ey3]
  refine sv_go C.1 C.2.1 [(.aload_n 0, 1), (.iload_n 3, 1), (.iconst 4, 1), (.iadd, 1)] (pc' := 984) (by decide +kernel) rfl (lv' := [(0, sv_r b), (1, sv_r x), (2, sv_r mm), (3, sv_i i)]) (st' := [sv_i (i + 4), sv_r b, sv_i y3, sv_i y2, sv_i y1, sv_r mm]) rfl ?_
  refine sv_sld C hX hbl hbA (by omega) (j := (i + 4).toNat) (by decide +kernel) (by omega) (by omega) ?_
  rw [ey4]
  have hn1 := zn_of hx hm hF1 (by decide) (by decide) hn
  clear et eb em es0 es1 es2 es3 es4 es5
  obtain ⟨⟨et, kt⟩, ⟨eb, kb⟩, ⟨em, km⟩, ⟨es0, ks0⟩, ⟨es1, ks1⟩, ⟨es2, ks2⟩, ⟨es3, ks3⟩, ⟨es4, ks4⟩, es5, ks5⟩ := id hn1
  refine sv_cv C (index := 98) (k := 4) (rest := []) (as := [sv_i y1, sv_i y2, sv_i y3, sv_i y4]) (ci := 10) (r := (RX11, TX11, 47)) (by decide +kernel) (ct_X11_begin l g A ty σ1 hk1 hTA hI1 mm hm (y1) ⟨by omega, by omega⟩ (y2) ⟨by omega, by omega⟩ (y3) ⟨by omega, by omega⟩ (y4) ⟨by omega, by omega⟩ s1 ks1 s2 ks2 s3 ks3 s4 ks4 s5 ks5 es1 es2 es3 es4 es5) ⟨lz_co_X11_begin, lz_in_X11, ⟨by decide, by decide, by decide +kernel⟩, Nat.le_of_ble_eq_true rfl, Nat.le_of_ble_eq_true rfl⟩ lz_ml_98 lz_im_X11_begin lz_se_X11_begin (by rw [hm]; rfl) rfl rfl rfl (Nat.le_of_ble_eq_true rfl) ⟨Nat.le_of_ble_eq_true rfl, Nat.le_of_ble_eq_true rfl⟩ (fun r2 σ2 hp2 hk2 => ?_)
  obtain ⟨⟨v2, rfl, hv2, im2_0⟩, hI2, hF2⟩ := hp2
  have hst2 := lz_begin hx hm hn hD hst hv (sv_ofx.rf.tr hF1 (by decide) (by decide)) (sv_ofx.rf.tr hF2 (by decide) (by decide)) (im1_0 (by omega) (by omega)) (im2_0 (by omega) (by omega))
  refine sv_same (st2 := [sv_i v2]) (lv2 := [(0, sv_r b), (1, sv_r x), (2, sv_r mm), (3, sv_i i)]) rfl rfl ?_
  refine sv_go C.1 C.2.1 [(.pop, 1)] (pc' := 989) (by decide +kernel) rfl (lv' := [(0, sv_r b), (1, sv_r x), (2, sv_r mm), (3, sv_i i)]) (st' := []) rfl ?_
  refine sv_goto C.1 C.2.1 (off := 204) (by decide +kernel) (tgt := 1193) rfl ?_
  exact kk σ2 ⟨hk2, hTA, hI2, hx, hm, hst2.2⟩
set_option maxHeartbeats 4000000 in
set_option maxRecDepth 100000 in
theorem lz_c20 {p : Program} {l : Launch} {e : Env} {s : State} {m : MethodId} {below : List Frame} {meth : Method} {c : Code} {g : sv_G} {A : Nat → Prop} {b : Nat} {xs : Nat → Int32} {ty : Nat → Nat} {σ : Nat → Nat → Int} {x mm : Nat} {L : Nat} {i : Int} (T : lz_K p s m meth c g A b L xs) (hL : L ≤ 3072) (hi : 0 ≤ i ∧ i + 6 ≤ (L : Int)) (Z : lz_S A ty σ x mm) (kk : ∀ σ2, lz_S A ty σ2 x mm → lz_V p l e s m below meth c b A 433 29939 (sv_H g ty σ2) 1193 [(0, sv_r b), (1, sv_r x), (2, sv_r mm), (3, sv_i i)] []) : lz_V p l e s m below meth c b A 433 29939 (sv_H g ty σ) 992 [(0, sv_r b), (1, sv_r x), (2, sv_r mm), (3, sv_i i)] [] := by
  obtain ⟨C, hX, hbl, hbA, hAs, hr⟩ := T
  obtain ⟨hok, hTA, hI, hx, hm, hR⟩ := Z
  obtain ⟨y1, hy1, ey1⟩ : ∃ z : Int, (-2147483648 ≤ z ∧ z ≤ 2147483647) ∧ (xs (i + 1).toNat).toInt = z := ⟨_, sv_ioin2 _, rfl⟩
  obtain ⟨y2, hy2, ey2⟩ : ∃ z : Int, (-2147483648 ≤ z ∧ z ≤ 2147483647) ∧ (xs (i + 2).toNat).toInt = z := ⟨_, sv_ioin2 _, rfl⟩
  refine sv_go C.1 C.2.1 [(.aload_n 1, 1), (.aload_n 0, 1), (.iload_n 3, 1), (.iconst 1, 1), (.iadd, 1)] (pc' := 997) (by decide +kernel) rfl (lv' := [(0, sv_r b), (1, sv_r x), (2, sv_r mm), (3, sv_i i)]) (st' := [sv_i (i + 1), sv_r b, sv_r x]) rfl ?_
  refine sv_sld C hX hbl hbA (by omega) (j := (i + 1).toNat) (by decide +kernel) (by omega) (by omega) ?_
  rw [ey1]
  refine sv_go C.1 C.2.1 [(.aload_n 0, 1), (.iload_n 3, 1), (.iconst 2, 1), (.iadd, 1)] (pc' := 1002) (by decide +kernel) rfl (lv' := [(0, sv_r b), (1, sv_r x), (2, sv_r mm), (3, sv_i i)]) (st' := [sv_i (i + 2), sv_r b, sv_i y1, sv_r x]) rfl ?_
  refine sv_sld C hX hbl hbA (by omega) (j := (i + 2).toNat) (by decide +kernel) (by omega) (by omega) ?_
  rw [ey2]
  obtain ⟨tq, bq, mq, sq, s1, s2, s3, s4, s5, hn, hD, hst, hv⟩ := id hR
  obtain ⟨⟨et, kt⟩, ⟨eb, kb⟩, ⟨em, km⟩, ⟨es0, ks0⟩, ⟨es1, ks1⟩, ⟨es2, ks2⟩, ⟨es3, ks3⟩, ⟨es4, ks4⟩, es5, ks5⟩ := id hn
  refine sv_cv C (index := 99) (k := 2) (rest := []) (as := [sv_i y1, sv_i y2]) (ci := 8) (r := (RX9, TX9, 6)) (by decide +kernel) (ct_X9_goes l g A ty σ hok hTA hI x hx (y1) ⟨by omega, by omega⟩ (y2) ⟨by omega, by omega⟩ tq kt bq kb mq km et eb em) ⟨lz_co_X9_goes, lz_in_X9, ⟨by decide, by decide, by decide +kernel⟩, Nat.le_of_ble_eq_true rfl, Nat.le_of_ble_eq_true rfl⟩ lz_ml_99 lz_im_X9_goes lz_se_X9_goes (by rw [hx]; rfl) rfl rfl rfl (Nat.le_of_ble_eq_true rfl) ⟨Nat.le_of_ble_eq_true rfl, Nat.le_of_ble_eq_true rfl⟩ (fun r1 σ1 hp1 hk1 => ?_)
  obtain ⟨⟨v1, rfl, hv1, im1_0⟩, hI1, hF1⟩ := hp1
  refine sv_same (st2 := [sv_i v1]) (lv2 := [(0, sv_r b), (1, sv_r x), (2, sv_r mm), (3, sv_i i)]) rfl rfl ?_
  refine sv_go C.1 C.2.1 [(.aload_n 2, 1), (.aload_n 0, 1), (.iload_n 3, 1), (.iconst 1, 1), (.iadd, 1)] (pc' := 1011) (by decide +kernel) rfl (lv' := [(0, sv_r b), (1, sv_r x), (2, sv_r mm), (3, sv_i i)]) (st' := [sv_i (i + 1), sv_r b, sv_r mm, sv_i v1]) rfl ?_
  refine sv_sld C hX hbl hbA (by omega) (j := (i + 1).toNat) (by decide +kernel) (by omega) (by omega) ?_
  rw [ey1]
  refine sv_go C.1 C.2.1 [(.aload_n 0, 1), (.iload_n 3, 1), (.iconst 2, 1), (.iadd, 1)] (pc' := 1016) (by decide +kernel) rfl (lv' := [(0, sv_r b), (1, sv_r x), (2, sv_r mm), (3, sv_i i)]) (st' := [sv_i (i + 2), sv_r b, sv_i y1, sv_r mm, sv_i v1]) rfl ?_
  refine sv_sld C hX hbl hbA (by omega) (j := (i + 2).toNat) (by decide +kernel) (by omega) (by omega) ?_
  rw [ey2]
  have hn1 := zn_of hx hm hF1 (by decide) (by decide) hn
  clear et eb em es0 es1 es2 es3 es4 es5
  obtain ⟨⟨et, kt⟩, ⟨eb, kb⟩, ⟨em, km⟩, ⟨es0, ks0⟩, ⟨es1, ks1⟩, ⟨es2, ks2⟩, ⟨es3, ks3⟩, ⟨es4, ks4⟩, es5, ks5⟩ := id hn1
  refine sv_cv C (index := 102) (k := 2) (rest := [sv_i v1]) (as := [sv_i y1, sv_i y2]) (ci := 10) (r := (RX11, TX11, 47)) (by decide +kernel) (ct_X11_goes l g A ty σ1 hk1 hTA hI1 mm hm (y1) ⟨by omega, by omega⟩ (y2) ⟨by omega, by omega⟩ sq ks0 s1 ks1 s4 ks4 s5 ks5 es0 es1 es4 es5) ⟨lz_co_X11_goes, lz_in_X11, ⟨by decide, by decide, by decide +kernel⟩, Nat.le_of_ble_eq_true rfl, Nat.le_of_ble_eq_true rfl⟩ lz_ml_102 lz_im_X11_goes lz_se_X11_goes (by rw [hm]; rfl) rfl rfl rfl (Nat.le_of_ble_eq_true rfl) ⟨Nat.le_of_ble_eq_true rfl, Nat.le_of_ble_eq_true rfl⟩ (fun r2 σ2 hp2 hk2 => ?_)
  obtain ⟨⟨v2, rfl, hv2, im2_0⟩, hI2, hF2⟩ := hp2
  have hst2 := lz_goes hx hm hI hn hD hst hv (sv_ofx.rf.tr hF1 (by decide) (by decide)) (sv_ofx.rf.tr hF2 (by decide) (by decide)) (im1_0 (by omega) (by omega)) (im2_0 (by omega) (by omega))
  refine sv_same (st2 := [sv_i v2, sv_i v1]) (lv2 := [(0, sv_r b), (1, sv_r x), (2, sv_r mm), (3, sv_i i)]) rfl rfl ?_
  refine sv_icmp_t C.1 C.2.1 (cnd := .eq) (off := 173) (by decide +kernel) (tgt := 1193) rfl ⟨by omega, by omega⟩ ⟨by omega, by omega⟩ (show v1 = v2 from hst2.1) ?_
  exact kk σ2 ⟨hk2, hTA, hI2, hx, hm, hst2.2⟩
set_option maxHeartbeats 4000000 in
set_option maxRecDepth 100000 in
theorem lz_c21 {p : Program} {l : Launch} {e : Env} {s : State} {m : MethodId} {below : List Frame} {meth : Method} {c : Code} {g : sv_G} {A : Nat → Prop} {b : Nat} {xs : Nat → Int32} {ty : Nat → Nat} {σ : Nat → Nat → Int} {x mm : Nat} {L : Nat} {i : Int} (T : lz_K p s m meth c g A b L xs) (hL : L ≤ 3072) (hi : 0 ≤ i ∧ i + 6 ≤ (L : Int)) (Z : lz_S A ty σ x mm) (kk : ∀ σ2, lz_S A ty σ2 x mm → lz_V p l e s m below meth c b A 433 29939 (sv_H g ty σ2) 1193 [(0, sv_r b), (1, sv_r x), (2, sv_r mm), (3, sv_i i)] []) : lz_V p l e s m below meth c b A 433 29939 (sv_H g ty σ) 1025 [(0, sv_r b), (1, sv_r x), (2, sv_r mm), (3, sv_i i)] [] := by
  obtain ⟨C, hX, hbl, hbA, hAs, hr⟩ := T
  obtain ⟨hok, hTA, hI, hx, hm, hR⟩ := Z
  obtain ⟨y1, hy1, ey1⟩ : ∃ z : Int, (-2147483648 ≤ z ∧ z ≤ 2147483647) ∧ (xs (i + 1).toNat).toInt = z := ⟨_, sv_ioin2 _, rfl⟩
  obtain ⟨y2, hy2, ey2⟩ : ∃ z : Int, (-2147483648 ≤ z ∧ z ≤ 2147483647) ∧ (xs (i + 2).toNat).toInt = z := ⟨_, sv_ioin2 _, rfl⟩
  refine sv_go C.1 C.2.1 [(.aload_n 1, 1), (.aload_n 0, 1), (.iload_n 3, 1), (.iconst 1, 1), (.iadd, 1)] (pc' := 1030) (by decide +kernel) rfl (lv' := [(0, sv_r b), (1, sv_r x), (2, sv_r mm), (3, sv_i i)]) (st' := [sv_i (i + 1), sv_r b, sv_r x]) rfl ?_
  refine sv_sld C hX hbl hbA (by omega) (j := (i + 1).toNat) (by decide +kernel) (by omega) (by omega) ?_
  rw [ey1]
  refine sv_go C.1 C.2.1 [(.aload_n 0, 1), (.iload_n 3, 1), (.iconst 2, 1), (.iadd, 1)] (pc' := 1035) (by decide +kernel) rfl (lv' := [(0, sv_r b), (1, sv_r x), (2, sv_r mm), (3, sv_i i)]) (st' := [sv_i (i + 2), sv_r b, sv_i y1, sv_r x]) rfl ?_
  refine sv_sld C hX hbl hbA (by omega) (j := (i + 2).toNat) (by decide +kernel) (by omega) (by omega) ?_
  rw [ey2]
  obtain ⟨tq, bq, mq, sq, s1, s2, s3, s4, s5, hn, hD, hst, hv⟩ := id hR
  obtain ⟨⟨et, kt⟩, ⟨eb, kb⟩, ⟨em, km⟩, ⟨es0, ks0⟩, ⟨es1, ks1⟩, ⟨es2, ks2⟩, ⟨es3, ks3⟩, ⟨es4, ks4⟩, es5, ks5⟩ := id hn
  refine sv_cv C (index := 103) (k := 2) (rest := []) (as := [sv_i y1, sv_i y2]) (ci := 8) (r := (RX9, TX9, 6)) (by decide +kernel) (ct_X9_late l g A ty σ hok hTA hI x hx (y1) ⟨by omega, by omega⟩ (y2) ⟨by omega, by omega⟩ tq kt bq kb et eb) ⟨lz_co_X9_late, lz_in_X9, ⟨by decide, by decide, by decide +kernel⟩, Nat.le_of_ble_eq_true rfl, Nat.le_of_ble_eq_true rfl⟩ lz_ml_103 lz_im_X9_late lz_se_X9_late (by rw [hx]; rfl) rfl rfl rfl (Nat.le_of_ble_eq_true rfl) ⟨Nat.le_of_ble_eq_true rfl, Nat.le_of_ble_eq_true rfl⟩ (fun r1 σ1 hp1 hk1 => ?_)
  obtain ⟨⟨v1, rfl, hv1, im1_0⟩, hI1, hF1⟩ := hp1
  refine sv_same (st2 := [sv_i v1]) (lv2 := [(0, sv_r b), (1, sv_r x), (2, sv_r mm), (3, sv_i i)]) rfl rfl ?_
  refine sv_go C.1 C.2.1 [(.pop, 1), (.aload_n 2, 1), (.aload_n 0, 1), (.iload_n 3, 1), (.iconst 1, 1), (.iadd, 1)] (pc' := 1045) (by decide +kernel) rfl (lv' := [(0, sv_r b), (1, sv_r x), (2, sv_r mm), (3, sv_i i)]) (st' := [sv_i (i + 1), sv_r b, sv_r mm]) rfl ?_
  refine sv_sld C hX hbl hbA (by omega) (j := (i + 1).toNat) (by decide +kernel) (by omega) (by omega) ?_
  rw [ey1]
  refine sv_go C.1 C.2.1 [(.aload_n 0, 1), (.iload_n 3, 1), (.iconst 2, 1), (.iadd, 1)] (pc' := 1050) (by decide +kernel) rfl (lv' := [(0, sv_r b), (1, sv_r x), (2, sv_r mm), (3, sv_i i)]) (st' := [sv_i (i + 2), sv_r b, sv_i y1, sv_r mm]) rfl ?_
  refine sv_sld C hX hbl hbA (by omega) (j := (i + 2).toNat) (by decide +kernel) (by omega) (by omega) ?_
  rw [ey2]
  have hn1 := zn_of hx hm hF1 (by decide) (by decide) hn
  clear et eb em es0 es1 es2 es3 es4 es5
  obtain ⟨⟨et, kt⟩, ⟨eb, kb⟩, ⟨em, km⟩, ⟨es0, ks0⟩, ⟨es1, ks1⟩, ⟨es2, ks2⟩, ⟨es3, ks3⟩, ⟨es4, ks4⟩, es5, ks5⟩ := id hn1
  refine sv_cv C (index := 106) (k := 2) (rest := []) (as := [sv_i y1, sv_i y2]) (ci := 10) (r := (RX11, TX11, 47)) (by decide +kernel) (ct_X11_late l g A ty σ1 hk1 hTA hI1 mm hm (y1) ⟨by omega, by omega⟩ (y2) ⟨by omega, by omega⟩ s1 ks1 s2 ks2 es1 es2) ⟨lz_co_X11_late, lz_in_X11, ⟨by decide, by decide, by decide +kernel⟩, Nat.le_of_ble_eq_true rfl, Nat.le_of_ble_eq_true rfl⟩ lz_ml_106 lz_im_X11_late lz_se_X11_late (by rw [hm]; rfl) rfl rfl rfl (Nat.le_of_ble_eq_true rfl) ⟨Nat.le_of_ble_eq_true rfl, Nat.le_of_ble_eq_true rfl⟩ (fun r2 σ2 hp2 hk2 => ?_)
  obtain ⟨⟨v2, rfl, hv2, im2_0⟩, hI2, hF2⟩ := hp2
  have hst2 := lz_late hx hm hn hD hst hv (sv_ofx.rf.tr hF1 (by decide) (by decide)) (sv_ofx.rf.tr hF2 (by decide) (by decide)) (im1_0 (by omega) (by omega)) (im2_0 (by omega) (by omega))
  refine sv_same (st2 := [sv_i v2]) (lv2 := [(0, sv_r b), (1, sv_r x), (2, sv_r mm), (3, sv_i i)]) rfl rfl ?_
  refine sv_go C.1 C.2.1 [(.pop, 1)] (pc' := 1055) (by decide +kernel) rfl (lv' := [(0, sv_r b), (1, sv_r x), (2, sv_r mm), (3, sv_i i)]) (st' := []) rfl ?_
  refine sv_goto C.1 C.2.1 (off := 138) (by decide +kernel) (tgt := 1193) rfl ?_
  exact kk σ2 ⟨hk2, hTA, hI2, hx, hm, hst2.2⟩
set_option maxHeartbeats 4000000 in
set_option maxRecDepth 100000 in
theorem lz_c22 {p : Program} {l : Launch} {e : Env} {s : State} {m : MethodId} {below : List Frame} {meth : Method} {c : Code} {g : sv_G} {A : Nat → Prop} {b : Nat} {xs : Nat → Int32} {ty : Nat → Nat} {σ : Nat → Nat → Int} {x mm : Nat} {L : Nat} {i : Int} (T : lz_K p s m meth c g A b L xs) (hL : L ≤ 3072) (hi : 0 ≤ i ∧ i + 6 ≤ (L : Int)) (Z : lz_S A ty σ x mm) (kk : ∀ σ2, lz_S A ty σ2 x mm → lz_V p l e s m below meth c b A 433 29939 (sv_H g ty σ2) 1193 [(0, sv_r b), (1, sv_r x), (2, sv_r mm), (3, sv_i i)] []) : lz_V p l e s m below meth c b A 433 29939 (sv_H g ty σ) 1058 [(0, sv_r b), (1, sv_r x), (2, sv_r mm), (3, sv_i i)] [] := by
  obtain ⟨C, hX, hbl, hbA, hAs, hr⟩ := T
  obtain ⟨hok, hTA, hI, hx, hm, hR⟩ := Z
  obtain ⟨y1, hy1, ey1⟩ : ∃ z : Int, (-2147483648 ≤ z ∧ z ≤ 2147483647) ∧ (xs (i + 1).toNat).toInt = z := ⟨_, sv_ioin2 _, rfl⟩
  obtain ⟨y2, hy2, ey2⟩ : ∃ z : Int, (-2147483648 ≤ z ∧ z ≤ 2147483647) ∧ (xs (i + 2).toNat).toInt = z := ⟨_, sv_ioin2 _, rfl⟩
  refine sv_go C.1 C.2.1 [(.aload_n 1, 1), (.aload_n 0, 1), (.iload_n 3, 1), (.iconst 1, 1), (.iadd, 1)] (pc' := 1063) (by decide +kernel) rfl (lv' := [(0, sv_r b), (1, sv_r x), (2, sv_r mm), (3, sv_i i)]) (st' := [sv_i (i + 1), sv_r b, sv_r x]) rfl ?_
  refine sv_sld C hX hbl hbA (by omega) (j := (i + 1).toNat) (by decide +kernel) (by omega) (by omega) ?_
  rw [ey1]
  refine sv_go C.1 C.2.1 [(.aload_n 0, 1), (.iload_n 3, 1), (.iconst 2, 1), (.iadd, 1)] (pc' := 1068) (by decide +kernel) rfl (lv' := [(0, sv_r b), (1, sv_r x), (2, sv_r mm), (3, sv_i i)]) (st' := [sv_i (i + 2), sv_r b, sv_i y1, sv_r x]) rfl ?_
  refine sv_sld C hX hbl hbA (by omega) (j := (i + 2).toNat) (by decide +kernel) (by omega) (by omega) ?_
  rw [ey2]
  obtain ⟨tq, bq, mq, sq, s1, s2, s3, s4, s5, hn, hD, hst, hv⟩ := id hR
  obtain ⟨⟨et, kt⟩, ⟨eb, kb⟩, ⟨em, km⟩, ⟨es0, ks0⟩, ⟨es1, ks1⟩, ⟨es2, ks2⟩, ⟨es3, ks3⟩, ⟨es4, ks4⟩, es5, ks5⟩ := id hn
  refine sv_cv C (index := 107) (k := 2) (rest := []) (as := [sv_i y1, sv_i y2]) (ci := 8) (r := (RX9, TX9, 6)) (by decide +kernel) (ct_X9_procession l g A ty σ hok hTA hI x hx (y1) ⟨by omega, by omega⟩ (y2) ⟨by omega, by omega⟩ tq kt bq kb et eb) ⟨lz_co_X9_procession, lz_in_X9, ⟨by decide, by decide, by decide +kernel⟩, Nat.le_of_ble_eq_true rfl, Nat.le_of_ble_eq_true rfl⟩ lz_ml_107 lz_im_X9_procession lz_se_X9_procession (by rw [hx]; rfl) rfl rfl rfl (Nat.le_of_ble_eq_true rfl) ⟨Nat.le_of_ble_eq_true rfl, Nat.le_of_ble_eq_true rfl⟩ (fun r1 σ1 hp1 hk1 => ?_)
  obtain ⟨hs1, ⟨v1, rfl, hv1, im1_0⟩⟩ := hp1
  subst hs1
  refine sv_same (st2 := [sv_i v1]) (lv2 := [(0, sv_r b), (1, sv_r x), (2, sv_r mm), (3, sv_i i)]) rfl rfl ?_
  refine sv_go C.1 C.2.1 [(.pop, 1), (.aload_n 2, 1), (.aload_n 0, 1), (.iload_n 3, 1), (.iconst 1, 1), (.iadd, 1)] (pc' := 1078) (by decide +kernel) rfl (lv' := [(0, sv_r b), (1, sv_r x), (2, sv_r mm), (3, sv_i i)]) (st' := [sv_i (i + 1), sv_r b, sv_r mm]) rfl ?_
  refine sv_sld C hX hbl hbA (by omega) (j := (i + 1).toNat) (by decide +kernel) (by omega) (by omega) ?_
  rw [ey1]
  refine sv_go C.1 C.2.1 [(.aload_n 0, 1), (.iload_n 3, 1), (.iconst 2, 1), (.iadd, 1)] (pc' := 1083) (by decide +kernel) rfl (lv' := [(0, sv_r b), (1, sv_r x), (2, sv_r mm), (3, sv_i i)]) (st' := [sv_i (i + 2), sv_r b, sv_i y1, sv_r mm]) rfl ?_
  refine sv_sld C hX hbl hbA (by omega) (j := (i + 2).toNat) (by decide +kernel) (by omega) (by omega) ?_
  rw [ey2]
  refine sv_cv C (index := 110) (k := 2) (rest := []) (as := [sv_i y1, sv_i y2]) (ci := 10) (r := (RX11, TX11, 47)) (by decide +kernel) (ct_X11_procession l g A ty σ hk1 hTA hI mm hm (y1) ⟨by omega, by omega⟩ (y2) ⟨by omega, by omega⟩ s1 ks1 s2 ks2 s3 ks3 s4 ks4 s5 ks5 es1 es2 es3 es4 es5) ⟨lz_co_X11_procession, lz_in_X11, ⟨by decide, by decide, by decide +kernel⟩, Nat.le_of_ble_eq_true rfl, Nat.le_of_ble_eq_true rfl⟩ lz_ml_110 lz_im_X11_procession lz_se_X11_procession (by rw [hm]; rfl) rfl rfl rfl (Nat.le_of_ble_eq_true rfl) ⟨Nat.le_of_ble_eq_true rfl, Nat.le_of_ble_eq_true rfl⟩ (fun r2 σ2 hp2 hk2 => ?_)
  obtain ⟨hs2, ⟨v2, rfl, hv2, im2_0⟩⟩ := hp2
  subst hs2
  have hst2 := lz_tell hI hn hD hv (im1_0 (by omega) (by omega)) (im2_0 (by omega) (by omega))
  refine sv_same (st2 := [sv_i v2]) (lv2 := [(0, sv_r b), (1, sv_r x), (2, sv_r mm), (3, sv_i i)]) rfl rfl ?_
  refine sv_go C.1 C.2.1 [(.pop, 1)] (pc' := 1088) (by decide +kernel) rfl (lv' := [(0, sv_r b), (1, sv_r x), (2, sv_r mm), (3, sv_i i)]) (st' := []) rfl ?_
  refine sv_goto C.1 C.2.1 (off := 105) (by decide +kernel) (tgt := 1193) rfl ?_
  exact kk σ ⟨hk2, hTA, hI, hx, hm, hR⟩
set_option maxHeartbeats 4000000 in
set_option maxRecDepth 100000 in
theorem lz_c23 {p : Program} {l : Launch} {e : Env} {s : State} {m : MethodId} {below : List Frame} {meth : Method} {c : Code} {g : sv_G} {A : Nat → Prop} {b : Nat} {xs : Nat → Int32} {ty : Nat → Nat} {σ : Nat → Nat → Int} {x mm : Nat} {L : Nat} {i : Int} (T : lz_K p s m meth c g A b L xs) (hL : L ≤ 3072) (hi : 0 ≤ i ∧ i + 6 ≤ (L : Int)) (Z : lz_S A ty σ x mm) (kk : ∀ σ2, lz_S A ty σ2 x mm → lz_V p l e s m below meth c b A 433 29939 (sv_H g ty σ2) 1193 [(0, sv_r b), (1, sv_r x), (2, sv_r mm), (3, sv_i i)] []) : lz_V p l e s m below meth c b A 433 29939 (sv_H g ty σ) 1091 [(0, sv_r b), (1, sv_r x), (2, sv_r mm), (3, sv_i i)] [] := by
  obtain ⟨C, hX, hbl, hbA, hAs, hr⟩ := T
  obtain ⟨hok, hTA, hI, hx, hm, hR⟩ := Z
  refine sv_go C.1 C.2.1 [(.aload_n 1, 1)] (pc' := 1092) (by decide +kernel) rfl (lv' := [(0, sv_r b), (1, sv_r x), (2, sv_r mm), (3, sv_i i)]) (st' := [sv_r x]) rfl ?_
  refine sv_cv C (index := 111) (k := 0) (rest := []) (as := []) (ci := 8) (r := (RX9, TX9, 6)) (by decide +kernel) (sf_X9_meets l g A ty σ hok hTA hI x hx ) ⟨lz_co_X9_meets, lz_in_X9, ⟨by decide, by decide, by decide +kernel⟩, Nat.le_of_ble_eq_true rfl, Nat.le_of_ble_eq_true rfl⟩ lz_ml_111 lz_im_X9_meets lz_se_X9_meets (by rw [hx]; rfl) rfl rfl rfl (Nat.le_of_ble_eq_true rfl) ⟨Nat.le_of_ble_eq_true rfl, Nat.le_of_ble_eq_true rfl⟩ (fun r1 σ1 hp1 hk1 => ?_)
  obtain ⟨hs1, ⟨v1, rfl, hv1⟩⟩ := hp1
  subst hs1
  refine sv_same (st2 := [sv_i v1]) (lv2 := [(0, sv_r b), (1, sv_r x), (2, sv_r mm), (3, sv_i i)]) rfl rfl ?_
  refine sv_go C.1 C.2.1 [(.pop, 1), (.aload_n 2, 1)] (pc' := 1097) (by decide +kernel) rfl (lv' := [(0, sv_r b), (1, sv_r x), (2, sv_r mm), (3, sv_i i)]) (st' := [sv_r mm]) rfl ?_
  refine sv_cv C (index := 115) (k := 0) (rest := []) (as := []) (ci := 10) (r := (RX11, TX11, 47)) (by decide +kernel) (sf_X11_meets l g A ty σ hk1 hTA hI mm hm ) ⟨lz_co_X11_meets, lz_in_X11, ⟨by decide, by decide, by decide +kernel⟩, Nat.le_of_ble_eq_true rfl, Nat.le_of_ble_eq_true rfl⟩ lz_ml_115 lz_im_X11_meets lz_se_X11_meets (by rw [hm]; rfl) rfl rfl rfl (Nat.le_of_ble_eq_true rfl) ⟨Nat.le_of_ble_eq_true rfl, Nat.le_of_ble_eq_true rfl⟩ (fun r2 σ2 hp2 hk2 => ?_)
  obtain ⟨hs2, ⟨v2, rfl, hv2⟩⟩ := hp2
  subst hs2
  refine sv_same (st2 := [sv_i v2]) (lv2 := [(0, sv_r b), (1, sv_r x), (2, sv_r mm), (3, sv_i i)]) rfl rfl ?_
  refine sv_go C.1 C.2.1 [(.pop, 1)] (pc' := 1101) (by decide +kernel) rfl (lv' := [(0, sv_r b), (1, sv_r x), (2, sv_r mm), (3, sv_i i)]) (st' := []) rfl ?_
  refine sv_goto C.1 C.2.1 (off := 92) (by decide +kernel) (tgt := 1193) rfl ?_
  exact kk σ ⟨hk2, hTA, hI, hx, hm, hR⟩
set_option maxHeartbeats 4000000 in
set_option maxRecDepth 100000 in
theorem lz_c24 {p : Program} {l : Launch} {e : Env} {s : State} {m : MethodId} {below : List Frame} {meth : Method} {c : Code} {g : sv_G} {A : Nat → Prop} {b : Nat} {xs : Nat → Int32} {ty : Nat → Nat} {σ : Nat → Nat → Int} {x mm : Nat} {L : Nat} {i : Int} (T : lz_K p s m meth c g A b L xs) (hL : L ≤ 3072) (hi : 0 ≤ i ∧ i + 6 ≤ (L : Int)) (Z : lz_S A ty σ x mm) (kk : ∀ σ2, lz_S A ty σ2 x mm → lz_V p l e s m below meth c b A 433 29939 (sv_H g ty σ2) 1193 [(0, sv_r b), (1, sv_r x), (2, sv_r mm), (3, sv_i i)] []) : lz_V p l e s m below meth c b A 433 29939 (sv_H g ty σ) 1104 [(0, sv_r b), (1, sv_r x), (2, sv_r mm), (3, sv_i i)] [] := by
  obtain ⟨C, hX, hbl, hbA, hAs, hr⟩ := T
  obtain ⟨hok, hTA, hI, hx, hm, hR⟩ := Z
  obtain ⟨y1, hy1, ey1⟩ : ∃ z : Int, (-2147483648 ≤ z ∧ z ≤ 2147483647) ∧ (xs (i + 1).toNat).toInt = z := ⟨_, sv_ioin2 _, rfl⟩
  obtain ⟨y2, hy2, ey2⟩ : ∃ z : Int, (-2147483648 ≤ z ∧ z ≤ 2147483647) ∧ (xs (i + 2).toNat).toInt = z := ⟨_, sv_ioin2 _, rfl⟩
  refine sv_go C.1 C.2.1 [(.aload_n 1, 1), (.aload_n 0, 1), (.iload_n 3, 1), (.iconst 1, 1), (.iadd, 1)] (pc' := 1109) (by decide +kernel) rfl (lv' := [(0, sv_r b), (1, sv_r x), (2, sv_r mm), (3, sv_i i)]) (st' := [sv_i (i + 1), sv_r b, sv_r x]) rfl ?_
  refine sv_sld C hX hbl hbA (by omega) (j := (i + 1).toNat) (by decide +kernel) (by omega) (by omega) ?_
  rw [ey1]
  refine sv_go C.1 C.2.1 [(.aload_n 0, 1), (.iload_n 3, 1), (.iconst 2, 1), (.iadd, 1)] (pc' := 1114) (by decide +kernel) rfl (lv' := [(0, sv_r b), (1, sv_r x), (2, sv_r mm), (3, sv_i i)]) (st' := [sv_i (i + 2), sv_r b, sv_i y1, sv_r x]) rfl ?_
  refine sv_sld C hX hbl hbA (by omega) (j := (i + 2).toNat) (by decide +kernel) (by omega) (by omega) ?_
  rw [ey2]
  refine sv_cv C (index := 116) (k := 2) (rest := []) (as := [sv_i y1, sv_i y2]) (ci := 8) (r := (RX9, TX9, 6)) (by decide +kernel) (sf_X9_meeting l g A ty σ hok hTA hI x hx (y1) ⟨by omega, by omega⟩ (y2) ⟨by omega, by omega⟩) ⟨lz_co_X9_meeting, lz_in_X9, ⟨by decide, by decide, by decide +kernel⟩, Nat.le_of_ble_eq_true rfl, Nat.le_of_ble_eq_true rfl⟩ lz_ml_116 lz_im_X9_meeting lz_se_X9_meeting (by rw [hx]; rfl) rfl rfl rfl (Nat.le_of_ble_eq_true rfl) ⟨Nat.le_of_ble_eq_true rfl, Nat.le_of_ble_eq_true rfl⟩ (fun r1 σ1 hp1 hk1 => ?_)
  obtain ⟨hs1, ⟨v1, rfl, hv1⟩⟩ := hp1
  subst hs1
  refine sv_same (st2 := [sv_i v1]) (lv2 := [(0, sv_r b), (1, sv_r x), (2, sv_r mm), (3, sv_i i)]) rfl rfl ?_
  refine sv_go C.1 C.2.1 [(.pop, 1), (.aload_n 2, 1), (.aload_n 0, 1), (.iload_n 3, 1), (.iconst 1, 1), (.iadd, 1)] (pc' := 1124) (by decide +kernel) rfl (lv' := [(0, sv_r b), (1, sv_r x), (2, sv_r mm), (3, sv_i i)]) (st' := [sv_i (i + 1), sv_r b, sv_r mm]) rfl ?_
  refine sv_sld C hX hbl hbA (by omega) (j := (i + 1).toNat) (by decide +kernel) (by omega) (by omega) ?_
  rw [ey1]
  refine sv_go C.1 C.2.1 [(.aload_n 0, 1), (.iload_n 3, 1), (.iconst 2, 1), (.iadd, 1)] (pc' := 1129) (by decide +kernel) rfl (lv' := [(0, sv_r b), (1, sv_r x), (2, sv_r mm), (3, sv_i i)]) (st' := [sv_i (i + 2), sv_r b, sv_i y1, sv_r mm]) rfl ?_
  refine sv_sld C hX hbl hbA (by omega) (j := (i + 2).toNat) (by decide +kernel) (by omega) (by omega) ?_
  rw [ey2]
  refine sv_cv C (index := 119) (k := 2) (rest := []) (as := [sv_i y1, sv_i y2]) (ci := 10) (r := (RX11, TX11, 47)) (by decide +kernel) (sf_X11_meeting l g A ty σ hk1 hTA hI mm hm (y1) ⟨by omega, by omega⟩ (y2) ⟨by omega, by omega⟩) ⟨lz_co_X11_meeting, lz_in_X11, ⟨by decide, by decide, by decide +kernel⟩, Nat.le_of_ble_eq_true rfl, Nat.le_of_ble_eq_true rfl⟩ lz_ml_119 lz_im_X11_meeting lz_se_X11_meeting (by rw [hm]; rfl) rfl rfl rfl (Nat.le_of_ble_eq_true rfl) ⟨Nat.le_of_ble_eq_true rfl, Nat.le_of_ble_eq_true rfl⟩ (fun r2 σ2 hp2 hk2 => ?_)
  obtain ⟨hs2, ⟨v2, rfl, hv2⟩⟩ := hp2
  subst hs2
  refine sv_same (st2 := [sv_i v2]) (lv2 := [(0, sv_r b), (1, sv_r x), (2, sv_r mm), (3, sv_i i)]) rfl rfl ?_
  refine sv_go C.1 C.2.1 [(.pop, 1)] (pc' := 1134) (by decide +kernel) rfl (lv' := [(0, sv_r b), (1, sv_r x), (2, sv_r mm), (3, sv_i i)]) (st' := []) rfl ?_
  refine sv_goto C.1 C.2.1 (off := 59) (by decide +kernel) (tgt := 1193) rfl ?_
  exact kk σ ⟨hk2, hTA, hI, hx, hm, hR⟩
set_option maxHeartbeats 4000000 in
set_option maxRecDepth 100000 in
theorem lz_c25 {p : Program} {l : Launch} {e : Env} {s : State} {m : MethodId} {below : List Frame} {meth : Method} {c : Code} {g : sv_G} {A : Nat → Prop} {b : Nat} {xs : Nat → Int32} {ty : Nat → Nat} {σ : Nat → Nat → Int} {x mm : Nat} {L : Nat} {i : Int} (T : lz_K p s m meth c g A b L xs) (hL : L ≤ 3072) (hi : 0 ≤ i ∧ i + 6 ≤ (L : Int)) (Z : lz_S A ty σ x mm) (kk : ∀ σ2, lz_S A ty σ2 x mm → lz_V p l e s m below meth c b A 433 29939 (sv_H g ty σ2) 1193 [(0, sv_r b), (1, sv_r x), (2, sv_r mm), (3, sv_i i)] []) : lz_V p l e s m below meth c b A 433 29939 (sv_H g ty σ) 1137 [(0, sv_r b), (1, sv_r x), (2, sv_r mm), (3, sv_i i)] [] := by
  obtain ⟨C, hX, hbl, hbA, hAs, hr⟩ := T
  obtain ⟨hok, hTA, hI, hx, hm, hR⟩ := Z
  obtain ⟨y1, hy1, ey1⟩ : ∃ z : Int, (-2147483648 ≤ z ∧ z ≤ 2147483647) ∧ (xs (i + 1).toNat).toInt = z := ⟨_, sv_ioin2 _, rfl⟩
  obtain ⟨y2, hy2, ey2⟩ : ∃ z : Int, (-2147483648 ≤ z ∧ z ≤ 2147483647) ∧ (xs (i + 2).toNat).toInt = z := ⟨_, sv_ioin2 _, rfl⟩
  refine sv_go C.1 C.2.1 [(.aload_n 1, 1), (.aload_n 0, 1), (.iload_n 3, 1), (.iconst 1, 1), (.iadd, 1)] (pc' := 1142) (by decide +kernel) rfl (lv' := [(0, sv_r b), (1, sv_r x), (2, sv_r mm), (3, sv_i i)]) (st' := [sv_i (i + 1), sv_r b, sv_r x]) rfl ?_
  refine sv_sld C hX hbl hbA (by omega) (j := (i + 1).toNat) (by decide +kernel) (by omega) (by omega) ?_
  rw [ey1]
  refine sv_go C.1 C.2.1 [(.aload_n 0, 1), (.iload_n 3, 1), (.iconst 2, 1), (.iadd, 1)] (pc' := 1147) (by decide +kernel) rfl (lv' := [(0, sv_r b), (1, sv_r x), (2, sv_r mm), (3, sv_i i)]) (st' := [sv_i (i + 2), sv_r b, sv_i y1, sv_r x]) rfl ?_
  refine sv_sld C hX hbl hbA (by omega) (j := (i + 2).toNat) (by decide +kernel) (by omega) (by omega) ?_
  rw [ey2]
  refine sv_cv C (index := 120) (k := 2) (rest := []) (as := [sv_i y1, sv_i y2]) (ci := 8) (r := (RX9, TX9, 6)) (by decide +kernel) (sf_X9_timed l g A ty σ hok hTA hI x hx (y1) ⟨by omega, by omega⟩ (y2) ⟨by omega, by omega⟩) ⟨lz_co_X9_timed, lz_in_X9, ⟨by decide, by decide, by decide +kernel⟩, Nat.le_of_ble_eq_true rfl, Nat.le_of_ble_eq_true rfl⟩ lz_ml_120 lz_im_X9_timed lz_se_X9_timed (by rw [hx]; rfl) rfl rfl rfl (Nat.le_of_ble_eq_true rfl) ⟨Nat.le_of_ble_eq_true rfl, Nat.le_of_ble_eq_true rfl⟩ (fun r1 σ1 hp1 hk1 => ?_)
  obtain ⟨⟨v1, rfl, hv1⟩, hI1, hF1⟩ := hp1
  refine sv_same (st2 := [sv_i v1]) (lv2 := [(0, sv_r b), (1, sv_r x), (2, sv_r mm), (3, sv_i i)]) rfl rfl ?_
  refine sv_go C.1 C.2.1 [(.pop, 1), (.aload_n 2, 1), (.aload_n 0, 1), (.iload_n 3, 1), (.iconst 1, 1), (.iadd, 1)] (pc' := 1157) (by decide +kernel) rfl (lv' := [(0, sv_r b), (1, sv_r x), (2, sv_r mm), (3, sv_i i)]) (st' := [sv_i (i + 1), sv_r b, sv_r mm]) rfl ?_
  refine sv_sld C hX hbl hbA (by omega) (j := (i + 1).toNat) (by decide +kernel) (by omega) (by omega) ?_
  rw [ey1]
  refine sv_go C.1 C.2.1 [(.aload_n 0, 1), (.iload_n 3, 1), (.iconst 2, 1), (.iadd, 1)] (pc' := 1162) (by decide +kernel) rfl (lv' := [(0, sv_r b), (1, sv_r x), (2, sv_r mm), (3, sv_i i)]) (st' := [sv_i (i + 2), sv_r b, sv_i y1, sv_r mm]) rfl ?_
  refine sv_sld C hX hbl hbA (by omega) (j := (i + 2).toNat) (by decide +kernel) (by omega) (by omega) ?_
  rw [ey2]
  obtain ⟨s2, es2, ks2⟩ := hI1.ref (k := 43) hm rfl
  refine sv_cv C (index := 123) (k := 2) (rest := []) (as := [sv_i y1, sv_i y2]) (ci := 10) (r := (RX11, TX11, 47)) (by decide +kernel) (ct_X11_timed l g A ty σ1 hk1 hTA hI1 mm hm (y1) ⟨by omega, by omega⟩ (y2) ⟨by omega, by omega⟩ s2 ks2 es2) ⟨lz_co_X11_timed, lz_in_X11, ⟨by decide, by decide, by decide +kernel⟩, Nat.le_of_ble_eq_true rfl, Nat.le_of_ble_eq_true rfl⟩ lz_ml_123 lz_im_X11_timed lz_se_X11_timed (by rw [hm]; rfl) rfl rfl rfl (Nat.le_of_ble_eq_true rfl) ⟨Nat.le_of_ble_eq_true rfl, Nat.le_of_ble_eq_true rfl⟩ (fun r2 σ2 hp2 hk2 => ?_)
  obtain ⟨⟨v2, rfl, hv2⟩, hI2, hF2, xp2⟩ := hp2
  refine sv_same (st2 := [sv_i v2]) (lv2 := [(0, sv_r b), (1, sv_r x), (2, sv_r mm), (3, sv_i i)]) rfl rfl ?_
  refine sv_go C.1 C.2.1 [(.pop, 1)] (pc' := 1167) (by decide +kernel) rfl (lv' := [(0, sv_r b), (1, sv_r x), (2, sv_r mm), (3, sv_i i)]) (st' := []) rfl ?_
  refine sv_goto C.1 C.2.1 (off := 26) (by decide +kernel) (tgt := 1193) rfl ?_
  exact kk σ2 ⟨hk2, hTA, hI2, hx, hm, (lz_keep0 hx hm hF2 (by decide) (by decide) (by decide) (by decide) (fun z e _ j => by have tz : s2 = z := (by omega); subst tz; exact xp2 j) (lz_keep hx hm hF1 (by decide) (by decide) (by decide) (by decide) (by decide) (by decide) hR))⟩
set_option maxHeartbeats 4000000 in
set_option maxRecDepth 100000 in
theorem lz_c26 {p : Program} {l : Launch} {e : Env} {s : State} {m : MethodId} {below : List Frame} {meth : Method} {c : Code} {g : sv_G} {A : Nat → Prop} {b : Nat} {xs : Nat → Int32} {ty : Nat → Nat} {σ : Nat → Nat → Int} {x mm : Nat} {L : Nat} {i : Int} (T : lz_K p s m meth c g A b L xs) (hL : L ≤ 3072) (hi : 0 ≤ i ∧ i + 6 ≤ (L : Int)) (Z : lz_S A ty σ x mm) (kk : ∀ σ2, lz_S A ty σ2 x mm → lz_V p l e s m below meth c b A 433 29939 (sv_H g ty σ2) 1193 [(0, sv_r b), (1, sv_r x), (2, sv_r mm), (3, sv_i i)] []) : lz_V p l e s m below meth c b A 433 29939 (sv_H g ty σ) 1170 [(0, sv_r b), (1, sv_r x), (2, sv_r mm), (3, sv_i i)] [] := by
  obtain ⟨C, hX, hbl, hbA, hAs, hr⟩ := T
  obtain ⟨hok, hTA, hI, hx, hm, hR⟩ := Z
  obtain ⟨y1, hy1, ey1⟩ : ∃ z : Int, (-2147483648 ≤ z ∧ z ≤ 2147483647) ∧ (xs (i + 1).toNat).toInt = z := ⟨_, sv_ioin2 _, rfl⟩
  refine sv_go C.1 C.2.1 [(.aload_n 1, 1), (.aload_n 0, 1), (.iload_n 3, 1), (.iconst 1, 1), (.iadd, 1)] (pc' := 1175) (by decide +kernel) rfl (lv' := [(0, sv_r b), (1, sv_r x), (2, sv_r mm), (3, sv_i i)]) (st' := [sv_i (i + 1), sv_r b, sv_r x]) rfl ?_
  refine sv_sld C hX hbl hbA (by omega) (j := (i + 1).toNat) (by decide +kernel) (by omega) (by omega) ?_
  rw [ey1]
  refine sv_cv C (index := 124) (k := 1) (rest := []) (as := [sv_i y1]) (ci := 8) (r := (RX9, TX9, 6)) (by decide +kernel) (sf_X9_count l g A ty σ hok hTA hI x hx (y1) ⟨by omega, by omega⟩) ⟨lz_co_X9_count, lz_in_X9, ⟨by decide, by decide, by decide +kernel⟩, Nat.le_of_ble_eq_true rfl, Nat.le_of_ble_eq_true rfl⟩ lz_ml_124 lz_im_X9_count lz_se_X9_count (by rw [hx]; rfl) rfl rfl rfl (Nat.le_of_ble_eq_true rfl) ⟨Nat.le_of_ble_eq_true rfl, Nat.le_of_ble_eq_true rfl⟩ (fun r1 σ1 hp1 hk1 => ?_)
  obtain ⟨hs1, ⟨v1, rfl, hv1⟩⟩ := hp1
  subst hs1
  refine sv_same (st2 := [sv_i v1]) (lv2 := [(0, sv_r b), (1, sv_r x), (2, sv_r mm), (3, sv_i i)]) rfl rfl ?_
  refine sv_go C.1 C.2.1 [(.pop, 1), (.aload_n 2, 1), (.aload_n 0, 1), (.iload_n 3, 1), (.iconst 1, 1), (.iadd, 1)] (pc' := 1185) (by decide +kernel) rfl (lv' := [(0, sv_r b), (1, sv_r x), (2, sv_r mm), (3, sv_i i)]) (st' := [sv_i (i + 1), sv_r b, sv_r mm]) rfl ?_
  refine sv_sld C hX hbl hbA (by omega) (j := (i + 1).toNat) (by decide +kernel) (by omega) (by omega) ?_
  rw [ey1]
  refine sv_cv C (index := 127) (k := 1) (rest := []) (as := [sv_i y1]) (ci := 10) (r := (RX11, TX11, 47)) (by decide +kernel) (sf_X11_count l g A ty σ hk1 hTA hI mm hm (y1) ⟨by omega, by omega⟩) ⟨lz_co_X11_count, lz_in_X11, ⟨by decide, by decide, by decide +kernel⟩, Nat.le_of_ble_eq_true rfl, Nat.le_of_ble_eq_true rfl⟩ lz_ml_127 lz_im_X11_count lz_se_X11_count (by rw [hm]; rfl) rfl rfl rfl (Nat.le_of_ble_eq_true rfl) ⟨Nat.le_of_ble_eq_true rfl, Nat.le_of_ble_eq_true rfl⟩ (fun r2 σ2 hp2 hk2 => ?_)
  obtain ⟨hs2, ⟨v2, rfl, hv2⟩⟩ := hp2
  subst hs2
  refine sv_same (st2 := [sv_i v2]) (lv2 := [(0, sv_r b), (1, sv_r x), (2, sv_r mm), (3, sv_i i)]) rfl rfl ?_
  refine sv_go C.1 C.2.1 [(.pop, 1)] (pc' := 1190) (by decide +kernel) rfl (lv' := [(0, sv_r b), (1, sv_r x), (2, sv_r mm), (3, sv_i i)]) (st' := []) rfl ?_
  refine sv_goto C.1 C.2.1 (off := 3) (by decide +kernel) (tgt := 1193) rfl ?_
  exact kk σ ⟨hk2, hTA, hI, hx, hm, hR⟩
set_option maxHeartbeats 4000000 in
set_option maxRecDepth 100000 in
theorem lz_switch {p : Program} {l : Launch} {e : Env} {s : State} {m : MethodId} {below : List Frame} {meth : Method} {c : Code} {g : sv_G} {A : Nat → Prop} {b : Nat} {xs : Nat → Int32} {ty : Nat → Nat} {σ : Nat → Nat → Int} {x mm : Nat} {L : Nat} {i : Int} (T : lz_K p s m meth c g A b L xs) (hL : L ≤ 3072) (hi : 0 ≤ i ∧ i + 6 ≤ (L : Int)) (Z : lz_S A ty σ x mm) (kk : ∀ σ2, lz_S A ty σ2 x mm → lz_V p l e s m below meth c b A 433 29939 (sv_H g ty σ2) 1193 [(0, sv_r b), (1, sv_r x), (2, sv_r mm), (3, sv_i i)] []) (z : Int) (hz : sv_in z) : lz_V p l e s m below meth c b A 433 29939 (sv_H g ty σ) 33 [(0, sv_r b), (1, sv_r x), (2, sv_r mm), (3, sv_i i)] [sv_i z] := by
  by_cases h0 : z = 0
  · exact sv_tsI T.1.1 T.1.2.1 (dflt := 1160) (lo := 0) (hi := 26) (offs := #[123, 186, 209, 232, 255, 298, 321, 364, 407, 450, 493, 536, 589, 642, 685, 744, 807, 840, 863, 906, 959, 992, 1025, 1058, 1071, 1104, 1137]) (off := 123) (len := 123) (by decide +kernel) 0 h0 (by decide) (by decide +kernel) (tgt := 156) rfl (lz_c0 T hL hi Z kk)
  by_cases h1 : z = 1
  · exact sv_tsI T.1.1 T.1.2.1 (dflt := 1160) (lo := 0) (hi := 26) (offs := #[123, 186, 209, 232, 255, 298, 321, 364, 407, 450, 493, 536, 589, 642, 685, 744, 807, 840, 863, 906, 959, 992, 1025, 1058, 1071, 1104, 1137]) (off := 186) (len := 123) (by decide +kernel) 1 h1 (by decide) (by decide +kernel) (tgt := 219) rfl (lz_c1 T hL hi Z kk)
  by_cases h2 : z = 2
  · exact sv_tsI T.1.1 T.1.2.1 (dflt := 1160) (lo := 0) (hi := 26) (offs := #[123, 186, 209, 232, 255, 298, 321, 364, 407, 450, 493, 536, 589, 642, 685, 744, 807, 840, 863, 906, 959, 992, 1025, 1058, 1071, 1104, 1137]) (off := 209) (len := 123) (by decide +kernel) 2 h2 (by decide) (by decide +kernel) (tgt := 242) rfl (lz_c2 T hL hi Z kk)
  by_cases h3 : z = 3
  · exact sv_tsI T.1.1 T.1.2.1 (dflt := 1160) (lo := 0) (hi := 26) (offs := #[123, 186, 209, 232, 255, 298, 321, 364, 407, 450, 493, 536, 589, 642, 685, 744, 807, 840, 863, 906, 959, 992, 1025, 1058, 1071, 1104, 1137]) (off := 232) (len := 123) (by decide +kernel) 3 h3 (by decide) (by decide +kernel) (tgt := 265) rfl (lz_c3 T hL hi Z kk)
  by_cases h4 : z = 4
  · exact sv_tsI T.1.1 T.1.2.1 (dflt := 1160) (lo := 0) (hi := 26) (offs := #[123, 186, 209, 232, 255, 298, 321, 364, 407, 450, 493, 536, 589, 642, 685, 744, 807, 840, 863, 906, 959, 992, 1025, 1058, 1071, 1104, 1137]) (off := 255) (len := 123) (by decide +kernel) 4 h4 (by decide) (by decide +kernel) (tgt := 288) rfl (lz_c4 T hL hi Z kk)
  by_cases h5 : z = 5
  · exact sv_tsI T.1.1 T.1.2.1 (dflt := 1160) (lo := 0) (hi := 26) (offs := #[123, 186, 209, 232, 255, 298, 321, 364, 407, 450, 493, 536, 589, 642, 685, 744, 807, 840, 863, 906, 959, 992, 1025, 1058, 1071, 1104, 1137]) (off := 298) (len := 123) (by decide +kernel) 5 h5 (by decide) (by decide +kernel) (tgt := 331) rfl (lz_c5 T hL hi Z kk)
  by_cases h6 : z = 6
  · exact sv_tsI T.1.1 T.1.2.1 (dflt := 1160) (lo := 0) (hi := 26) (offs := #[123, 186, 209, 232, 255, 298, 321, 364, 407, 450, 493, 536, 589, 642, 685, 744, 807, 840, 863, 906, 959, 992, 1025, 1058, 1071, 1104, 1137]) (off := 321) (len := 123) (by decide +kernel) 6 h6 (by decide) (by decide +kernel) (tgt := 354) rfl (lz_c6 T hL hi Z kk)
  by_cases h7 : z = 7
  · exact sv_tsI T.1.1 T.1.2.1 (dflt := 1160) (lo := 0) (hi := 26) (offs := #[123, 186, 209, 232, 255, 298, 321, 364, 407, 450, 493, 536, 589, 642, 685, 744, 807, 840, 863, 906, 959, 992, 1025, 1058, 1071, 1104, 1137]) (off := 364) (len := 123) (by decide +kernel) 7 h7 (by decide) (by decide +kernel) (tgt := 397) rfl (lz_c7 T hL hi Z kk)
  by_cases h8 : z = 8
  · exact sv_tsI T.1.1 T.1.2.1 (dflt := 1160) (lo := 0) (hi := 26) (offs := #[123, 186, 209, 232, 255, 298, 321, 364, 407, 450, 493, 536, 589, 642, 685, 744, 807, 840, 863, 906, 959, 992, 1025, 1058, 1071, 1104, 1137]) (off := 407) (len := 123) (by decide +kernel) 8 h8 (by decide) (by decide +kernel) (tgt := 440) rfl (lz_c8 T hL hi Z kk)
  by_cases h9 : z = 9
  · exact sv_tsI T.1.1 T.1.2.1 (dflt := 1160) (lo := 0) (hi := 26) (offs := #[123, 186, 209, 232, 255, 298, 321, 364, 407, 450, 493, 536, 589, 642, 685, 744, 807, 840, 863, 906, 959, 992, 1025, 1058, 1071, 1104, 1137]) (off := 450) (len := 123) (by decide +kernel) 9 h9 (by decide) (by decide +kernel) (tgt := 483) rfl (lz_c9 T hL hi Z kk)
  by_cases h10 : z = 10
  · exact sv_tsI T.1.1 T.1.2.1 (dflt := 1160) (lo := 0) (hi := 26) (offs := #[123, 186, 209, 232, 255, 298, 321, 364, 407, 450, 493, 536, 589, 642, 685, 744, 807, 840, 863, 906, 959, 992, 1025, 1058, 1071, 1104, 1137]) (off := 493) (len := 123) (by decide +kernel) 10 h10 (by decide) (by decide +kernel) (tgt := 526) rfl (lz_c10 T hL hi Z kk)
  by_cases h11 : z = 11
  · exact sv_tsI T.1.1 T.1.2.1 (dflt := 1160) (lo := 0) (hi := 26) (offs := #[123, 186, 209, 232, 255, 298, 321, 364, 407, 450, 493, 536, 589, 642, 685, 744, 807, 840, 863, 906, 959, 992, 1025, 1058, 1071, 1104, 1137]) (off := 536) (len := 123) (by decide +kernel) 11 h11 (by decide) (by decide +kernel) (tgt := 569) rfl (lz_c11 T hL hi Z kk)
  by_cases h12 : z = 12
  · exact sv_tsI T.1.1 T.1.2.1 (dflt := 1160) (lo := 0) (hi := 26) (offs := #[123, 186, 209, 232, 255, 298, 321, 364, 407, 450, 493, 536, 589, 642, 685, 744, 807, 840, 863, 906, 959, 992, 1025, 1058, 1071, 1104, 1137]) (off := 589) (len := 123) (by decide +kernel) 12 h12 (by decide) (by decide +kernel) (tgt := 622) rfl (lz_c12 T hL hi Z kk)
  by_cases h13 : z = 13
  · exact sv_tsI T.1.1 T.1.2.1 (dflt := 1160) (lo := 0) (hi := 26) (offs := #[123, 186, 209, 232, 255, 298, 321, 364, 407, 450, 493, 536, 589, 642, 685, 744, 807, 840, 863, 906, 959, 992, 1025, 1058, 1071, 1104, 1137]) (off := 642) (len := 123) (by decide +kernel) 13 h13 (by decide) (by decide +kernel) (tgt := 675) rfl (lz_c13 T hL hi Z kk)
  by_cases h14 : z = 14
  · exact sv_tsI T.1.1 T.1.2.1 (dflt := 1160) (lo := 0) (hi := 26) (offs := #[123, 186, 209, 232, 255, 298, 321, 364, 407, 450, 493, 536, 589, 642, 685, 744, 807, 840, 863, 906, 959, 992, 1025, 1058, 1071, 1104, 1137]) (off := 685) (len := 123) (by decide +kernel) 14 h14 (by decide) (by decide +kernel) (tgt := 718) rfl (lz_c14 T hL hi Z kk)
  by_cases h15 : z = 15
  · exact sv_tsI T.1.1 T.1.2.1 (dflt := 1160) (lo := 0) (hi := 26) (offs := #[123, 186, 209, 232, 255, 298, 321, 364, 407, 450, 493, 536, 589, 642, 685, 744, 807, 840, 863, 906, 959, 992, 1025, 1058, 1071, 1104, 1137]) (off := 744) (len := 123) (by decide +kernel) 15 h15 (by decide) (by decide +kernel) (tgt := 777) rfl (lz_c15 T hL hi Z kk)
  by_cases h16 : z = 16
  · exact sv_tsI T.1.1 T.1.2.1 (dflt := 1160) (lo := 0) (hi := 26) (offs := #[123, 186, 209, 232, 255, 298, 321, 364, 407, 450, 493, 536, 589, 642, 685, 744, 807, 840, 863, 906, 959, 992, 1025, 1058, 1071, 1104, 1137]) (off := 807) (len := 123) (by decide +kernel) 16 h16 (by decide) (by decide +kernel) (tgt := 840) rfl (lz_c16 T hL hi Z kk)
  by_cases h17 : z = 17
  · exact sv_tsI T.1.1 T.1.2.1 (dflt := 1160) (lo := 0) (hi := 26) (offs := #[123, 186, 209, 232, 255, 298, 321, 364, 407, 450, 493, 536, 589, 642, 685, 744, 807, 840, 863, 906, 959, 992, 1025, 1058, 1071, 1104, 1137]) (off := 840) (len := 123) (by decide +kernel) 17 h17 (by decide) (by decide +kernel) (tgt := 873) rfl (lz_c17 T hL hi Z kk)
  by_cases h18 : z = 18
  · exact sv_tsI T.1.1 T.1.2.1 (dflt := 1160) (lo := 0) (hi := 26) (offs := #[123, 186, 209, 232, 255, 298, 321, 364, 407, 450, 493, 536, 589, 642, 685, 744, 807, 840, 863, 906, 959, 992, 1025, 1058, 1071, 1104, 1137]) (off := 863) (len := 123) (by decide +kernel) 18 h18 (by decide) (by decide +kernel) (tgt := 896) rfl (lz_c18 T hL hi Z kk)
  by_cases h19 : z = 19
  · exact sv_tsI T.1.1 T.1.2.1 (dflt := 1160) (lo := 0) (hi := 26) (offs := #[123, 186, 209, 232, 255, 298, 321, 364, 407, 450, 493, 536, 589, 642, 685, 744, 807, 840, 863, 906, 959, 992, 1025, 1058, 1071, 1104, 1137]) (off := 906) (len := 123) (by decide +kernel) 19 h19 (by decide) (by decide +kernel) (tgt := 939) rfl (lz_c19 T hL hi Z kk)
  by_cases h20 : z = 20
  · exact sv_tsI T.1.1 T.1.2.1 (dflt := 1160) (lo := 0) (hi := 26) (offs := #[123, 186, 209, 232, 255, 298, 321, 364, 407, 450, 493, 536, 589, 642, 685, 744, 807, 840, 863, 906, 959, 992, 1025, 1058, 1071, 1104, 1137]) (off := 959) (len := 123) (by decide +kernel) 20 h20 (by decide) (by decide +kernel) (tgt := 992) rfl (lz_c20 T hL hi Z kk)
  by_cases h21 : z = 21
  · exact sv_tsI T.1.1 T.1.2.1 (dflt := 1160) (lo := 0) (hi := 26) (offs := #[123, 186, 209, 232, 255, 298, 321, 364, 407, 450, 493, 536, 589, 642, 685, 744, 807, 840, 863, 906, 959, 992, 1025, 1058, 1071, 1104, 1137]) (off := 992) (len := 123) (by decide +kernel) 21 h21 (by decide) (by decide +kernel) (tgt := 1025) rfl (lz_c21 T hL hi Z kk)
  by_cases h22 : z = 22
  · exact sv_tsI T.1.1 T.1.2.1 (dflt := 1160) (lo := 0) (hi := 26) (offs := #[123, 186, 209, 232, 255, 298, 321, 364, 407, 450, 493, 536, 589, 642, 685, 744, 807, 840, 863, 906, 959, 992, 1025, 1058, 1071, 1104, 1137]) (off := 1025) (len := 123) (by decide +kernel) 22 h22 (by decide) (by decide +kernel) (tgt := 1058) rfl (lz_c22 T hL hi Z kk)
  by_cases h23 : z = 23
  · exact sv_tsI T.1.1 T.1.2.1 (dflt := 1160) (lo := 0) (hi := 26) (offs := #[123, 186, 209, 232, 255, 298, 321, 364, 407, 450, 493, 536, 589, 642, 685, 744, 807, 840, 863, 906, 959, 992, 1025, 1058, 1071, 1104, 1137]) (off := 1058) (len := 123) (by decide +kernel) 23 h23 (by decide) (by decide +kernel) (tgt := 1091) rfl (lz_c23 T hL hi Z kk)
  by_cases h24 : z = 24
  · exact sv_tsI T.1.1 T.1.2.1 (dflt := 1160) (lo := 0) (hi := 26) (offs := #[123, 186, 209, 232, 255, 298, 321, 364, 407, 450, 493, 536, 589, 642, 685, 744, 807, 840, 863, 906, 959, 992, 1025, 1058, 1071, 1104, 1137]) (off := 1071) (len := 123) (by decide +kernel) 24 h24 (by decide) (by decide +kernel) (tgt := 1104) rfl (lz_c24 T hL hi Z kk)
  by_cases h25 : z = 25
  · exact sv_tsI T.1.1 T.1.2.1 (dflt := 1160) (lo := 0) (hi := 26) (offs := #[123, 186, 209, 232, 255, 298, 321, 364, 407, 450, 493, 536, 589, 642, 685, 744, 807, 840, 863, 906, 959, 992, 1025, 1058, 1071, 1104, 1137]) (off := 1104) (len := 123) (by decide +kernel) 25 h25 (by decide) (by decide +kernel) (tgt := 1137) rfl (lz_c25 T hL hi Z kk)
  by_cases h26 : z = 26
  · exact sv_tsI T.1.1 T.1.2.1 (dflt := 1160) (lo := 0) (hi := 26) (offs := #[123, 186, 209, 232, 255, 298, 321, 364, 407, 450, 493, 536, 589, 642, 685, 744, 807, 840, 863, 906, 959, 992, 1025, 1058, 1071, 1104, 1137]) (off := 1137) (len := 123) (by decide +kernel) 26 h26 (by decide) (by decide +kernel) (tgt := 1170) rfl (lz_c26 T hL hi Z kk)
  exact sv_tsO T.1.1 T.1.2.1 (dflt := 1160) (lo := 0) (hi := 26) (offs := #[123, 186, 209, 232, 255, 298, 321, 364, 407, 450, 493, 536, 589, 642, 685, 744, 807, 840, 863, 906, 959, 992, 1025, 1058, 1071, 1104, 1137]) (len := 123) (by decide +kernel) hz (by omega) (tgt := 1193) rfl (kk σ Z)
set_option maxHeartbeats 4000000 in
theorem lz_loop {p : Program} {l : Launch} {e : Env} {s : State} {m : MethodId} {below : List Frame} {meth : Method} {c : Code} {g : sv_G} {A : Nat → Prop} {b L : Nat} {xs : Nat → Int32} {ty : Nat → Nat} {x mm : Nat} (T : lz_K p s m meth c g A b L xs) (hL : L ≤ 3072) : ∀ (n : Nat) (i : Int) (σ : Nat → Nat → Int), 0 ≤ i → i ≤ (L : Int) + 6 → lz_S A ty σ x mm → (L : Int) + 6 - i < n → lz_V p l e s m below meth c b A 433 29939 (sv_H g ty σ) 18 [(0, sv_r b), (1, sv_r x), (2, sv_r mm), (3, sv_i i)] [] := by
  have T0 := T
  obtain ⟨C, hX, hbl, hbA, hAs, hr⟩ := T
  intro n
  induction n with
  | zero => intro i σ h0 h1 Z hn; exact absurd hn (by omega)
  | succ n ih =>
    intro i σ h0 h1 Z hn
    refine sv_go C.1 C.2.1 [(.iload_n 3, 1), (.aload_n 0, 1)] (pc' := 20) (by decide +kernel) rfl (lv' := [(0, sv_r b), (1, sv_r x), (2, sv_r mm), (3, sv_i i)]) (st' := [sv_r b, sv_i i]) rfl ?_
    refine sv_sln C hX hbl hbA (by decide +kernel) ?_
    refine sv_go C.1 C.2.1 [(.bipush 6, 2), (.isub, 1)] (pc' := 24) (by decide +kernel) rfl (lv' := [(0, sv_r b), (1, sv_r x), (2, sv_r mm), (3, sv_i i)]) (st' := [sv_i ((L : Int) - 6), sv_i i]) rfl ?_
    refine sv_icmp C.1 C.2.1 (cnd := .gt) (off := 1175) (by decide +kernel) (tgt := 1199) rfl ⟨by omega, by omega⟩ ⟨by omega, by omega⟩ (fun _ => lz_out T0 (by decide) (by decide)) (fun h => ?_)
    have hi6 : i + 6 ≤ (L : Int) := by simp only [sv_cmp] at h; omega
    refine sv_go C.1 C.2.1 [(.aload_n 0, 1), (.iload_n 3, 1)] (pc' := 29) (by decide +kernel) rfl (lv' := [(0, sv_r b), (1, sv_r x), (2, sv_r mm), (3, sv_i i)]) (st' := [sv_i i, sv_r b]) rfl ?_
    refine sv_sld C hX hbl hbA (by omega) (j := i.toNat) (by decide +kernel) (by omega) (by omega) ?_
    refine sv_go C.1 C.2.1 [(.bipush 31, 2), (.iand, 1)] (pc' := 33) (by decide +kernel) rfl (lv' := [(0, sv_r b), (1, sv_r x), (2, sv_r mm), (3, sv_i i)]) (st' := [sv_i (Int32.ofInt (xs i.toNat).toInt &&& Int32.ofInt 31).toInt]) rfl ?_
    refine lz_switch T0 hL ⟨h0, hi6⟩ Z (fun σ2 Z2 => ?_) _ (sv_ioin _)
    refine sv_go C.1 C.2.1 [(.iinc 3 6, 3)] (pc' := 1196) (by decide +kernel) rfl (lv' := [(0, sv_r b), (1, sv_r x), (2, sv_r mm), (3, sv_i (i + 6))]) (st' := []) rfl ?_
    refine sv_goto C.1 C.2.1 (off := -1178) (by decide +kernel) (tgt := 18) rfl ?_
    exact ih (i + 6) σ2 (by omega) (by omega) Z2 (by omega)
