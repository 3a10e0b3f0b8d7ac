/-! methods that may throw: contracts, ends, calls, a catch -/
def st_FE (first t : State) (L : List Loc) : Prop := first.WarmedH t.vm ∧ first.sameButNew ({ t with vm := first.vm } : State) L 0 0
def st_TM (l : Launch) (y : MethodName) (ws : List Cond) (rm : Room) (Pc : Array Value → State → Prop) (Qc : Array Value → State → Outcome → State → Prop) (free : Addr → Prop) : Prop :=
  MetFree l y (headSpec ws rm) Pc (fun _ _ _ _ _ => True) (fun a st o t => Qc a st o t ∧ ∃ L, st_FE st t L ∧ ∀ q ∈ L, free q.base)
def st_TQ (below : List Frame) (Qc : Array Value → State → Outcome → State → Prop) (a : Array Value) (s : State) (free : Addr → Prop) : State → Prop := fun t =>
  ∃ o, t.status = .running ∧ Ended t below o ∧ Qc a s o t ∧ ∃ L, st_FE s t L ∧ ∀ q ∈ L, free q.base
def st_Q (g : sv_G) (A : Nat → Prop) (ty : Nat → Nat) (po : List sv_T → (Nat → Nat → Int) → Prop) (pt : Nat → (Nat → Nat → Int) → Prop) : Array Value → State → Outcome → State → Prop := fun a st oc t =>
  sv_Q g A ty po a st oc t ∨ ∃ (x : Nat) (σ' : Nat → Nat → Int), oc = .threw x ∧ pt x σ' ∧ sv_ok ty σ' ∧ sv_H g ty σ' t.heap ∧ va_F A st t
/-- a contract: it returns and po holds, or it throws x and pt holds -/
def st_M (l : Launch) (y : MethodName) (cc : ByteArray) (n : Nat) (ret : Option FieldType) (rm : Room) (g : sv_G) (A : Nat → Prop) (ty : Nat → Nat) (σ : Nat → Nat → Int) (av : List sv_T) (po : List sv_T → (Nat → Nat → Int) → Prop) (pt : Nat → (Nat → Nat → Int) → Prop) : Prop :=
  st_TM l y (Cond.code y cc n ret :: lw_good) rm (sv_P g A ty σ av) (st_Q g A ty po pt) A
def st_E (p : Program) (l : Launch) (e : Env) (R : Room) (s : State) (m : MethodId) (args : Array Value) (below : List Frame) (meth : Method) (c : Code) (nL : Nat) (g : sv_G) (A : Nat → Prop) (ty : Nat → Nat) (po : List sv_T → (Nat → Nat → Int) → Prop) (pt : Nat → (Nat → Nat → Int) → Prop) (σ : Nat → Nat → Int) (pc : Nat) (lv : sv_L) (st : List sv_T) : Prop :=
  sv_V p l e R s m args below meth c nL A 0 0 (st_TQ below (st_Q g A ty po pt) args s A) (sv_H g ty σ) pc lv st
/-- x is being thrown at pc -/
def st_VT (p : Program) (l : Launch) (e : Env) (R : Room) (s : State) (m : MethodId) (args : Array Value) (below : List Frame) (meth : Method) (c : Code) (nL : Nat) (A : Nat → Prop) (cells slots : Nat) (Q : State → Prop) (Hp : Heap → Prop) (pc : Nat) (lv : sv_L) (st : List sv_T) (x : Nat) : Prop :=
  ∀ (H : Heap) (locs : List Loc) (ls : Array Slot), Hp H → va_S A s.heap H locs → lv_has ls nL (sv_lm lv) → ∀ T : State, T.heap = H → Stand p l e R s m args below meth c T locs cells slots → ∃ t, Steps p.tables e below ((T.setTop (F0 m pc ls (st.map sv_den))).pushFrame (.throwing x)) t ∧ Q t
theorem st_enter {l : Launch} {y : MethodName} {cc : ByteArray} {n : Nat} {ret : Option FieldType} {fr lo : Nat} {g : sv_G} {A : Nat → Prop} {ty : Nat → Nat} {σ : Nat → Nat → Int} {av : List sv_T} {po : List sv_T → (Nat → Nat → Int) → Prop} {pt : Nat → (Nat → Nat → Int) → Prop} (hy : plainName y.cls = true) (hn : (lg_sl (av.map sv_den)).length ≤ n)
    (body : ∀ p e s m args below meth c, sv_C g A y.cls cc n p s m args meth c → meth.sig.returnType = ret → c.exceptionTable.isEmpty = true → st_E p l e { frames := fr, cells := 0, slots := 0, locals := lo } s m args below meth c n g A ty po pt σ 0 (sv_av 0 av) []) : st_M l y cc n ret { frames := fr, cells := 0, slots := 0, locals := lo } g A ty σ av po pt := by
  unfold st_M st_TM
  refine MetFree.of_bodyS (code := cc) (maxLocals := n) (ret := ret) hy ?_ ?_
  · intro args s m h hn
    obtain ⟨meth, c, h1, h2, h3, h4, h5, h6, -, -⟩ := Cond.code_spec hn (atoms_spec (ws := Cond.code y cc n ret :: lw_good) h _ List.mem_cons_self)
    exact ⟨meth, c, h1, h2, h3, h4, h5, h6⟩
  · intro p e s m args below meth c s₁ B hml hP _
    have hh0 : s₁.heap = s.heap := by rw [B.state]; rfl
    obtain ⟨rfl, hH, hK⟩ := hP
    have hts := atoms_spec (ws := Cond.code y cc n ret :: lw_good) B.pre
    have hown : s.vm.findClass y.cls = some m.cls := findClass_of_methodNamed B.named
    have hl := lv_entry (av.map sv_den) (n := n) hn
    have hE := B.noHandlers (hts _ List.mem_cons_self)
    rw [sv_av_eq] at hl
    have K := body p e s m _ below meth c ⟨B.exec, B.bytes, hml, hown, fun w hw => hts w (List.mem_cons_of_mem _ hw), hK, B.notSynchronized⟩ B.returns hE s.heap [] _ hH va_S.rf hl
    rw [List.map_nil, ← lg_entry_eq] at K
    obtain ⟨t, a1, o, b1, b2, b3⟩ := K s₁ hh0 (Stand.of_body B)
    exact ⟨t, o, a1, b1, b2, b3⟩
theorem st_noh {c : Code} (h : c.exceptionTable.isEmpty = true) (pc : Nat) : ∀ x ∈ c.exceptionTable.toList, covers x pc = false := by
  have h0 : c.exceptionTable.size = 0 := by simpa [Array.isEmpty] using h
  have h1 : c.exceptionTable.toList = [] := List.eq_nil_of_length_eq_zero (by simpa using h0)
  intro x hx
  rw [h1] at hx
  cases hx
section STT
variable {p : Program} {l : Launch} {e : Env} {R : Room} {s : State} {m : MethodId} {args : Array Value} {below : List Frame} {meth : Method} {c : Code} {cells slots : Nat} {Q : State → Prop}
variable {cc : ByteArray} {pc nL : Nat} {A : Nat → Prop} {lv lv' : sv_L} {st st' rest : List sv_T} {g : sv_G} {own : String} {ty : Nat → Nat} {σ : Nat → Nat → Int} {po : List sv_T → (Nat → Nat → Int) → Prop} {pt : Nat → (Nat → Nat → Int) → Prop}
/-- an end by a return -/
theorem st_of (k : sv_E p l e R s m args below meth c nL g A ty po σ pc lv st) : st_E p l e R s m args below meth c nL g A ty po pt σ pc lv st := by
  intro H locs ls h1 h2 h3 T hT X
  obtain ⟨t, a1, o, b1, b2, b3, L, ⟨-, b4, b5⟩, b6⟩ := k H locs ls h1 h2 h3 T hT X
  exact ⟨t, a1, o, b1, b2, Or.inl b3, L, ⟨b4, b5⟩, b6⟩
/-- an end by a throw -/
theorem st_throw (C : sv_C g A own cc nL p s m args meth c) (hE : c.exceptionTable.isEmpty = true) {x : Nat} (hd : decode cc pc = .ok (.athrow, 1)) (hok : sv_ok ty σ) (hpt : pt x σ) : st_E p l e R s m args below meth c nL g A ty po pt σ pc lv (sv_r x :: rest) := by
  intro H locs ls hH hS hl T hT X
  obtain ⟨h1, h2, h3, h4, h5⟩ := X.athrowLeaves C.1 (g := F0 m pc ls ((sv_r x :: rest).map sv_den)) rfl rfl rfl (st_noh hE pc) (a := x) (rest := rest.map sv_den) (by simp [sv_den_r]) (by rw [C.2.1]; exact hd) C.2.2.2.2.2.2
  exact ⟨_, h1, .threw x, h2, h3, Or.inr ⟨x, σ, rfl, hpt, hok, by show sv_H g ty σ T.heap; rw [hT]; exact hH, hS.F hT⟩, locs, ⟨h4, h5⟩, hS.2.2⟩
/-- a callee's throw goes through -/
theorem st_out (C : sv_C g A own cc nL p s m args meth c) (hE : c.exceptionTable.isEmpty = true) {x : Nat} (hok : sv_ok ty σ) (hpt : pt x σ) : st_VT p l e R s m args below meth c nL A 0 0 (st_TQ below (st_Q g A ty po pt) args s A) (sv_H g ty σ) pc lv rest x := by
  intro H locs ls hH hS hl T hT X
  obtain ⟨h1, h2, h3, h4, h5⟩ := X.leaveThrown x (g := F0 m pc ls (rest.map sv_den)) rfl rfl rfl (st_noh hE pc) C.2.2.2.2.2.2
  exact ⟨_, h1, .threw x, h2, h3, Or.inr ⟨x, σ, rfl, hpt, hok, by show sv_H g ty σ T.heap; rw [hT]; exact hH, hS.F hT⟩, locs, ⟨h4, h5⟩, hS.2.2⟩
/-- a callee that may throw, at a call -/
theorem st_back {y : MethodName} {ws : List Cond} {rm : Room} {Pc : Array Value → State → Prop} {Qc : Array Value → State → Outcome → State → Prop} {free : Addr → Prop} {bytes : ByteArray} {maxL len W9 : Nat} {ret : Option FieldType}
    (hM : st_TM l y ws rm Pc Qc free) (hblind : FrameBlind Pc) (hrc : rm.cells = 0) (hrs : rm.slots = 0) (hframes : rm.frames + 1 ≤ R.frames) (hlocals : W9 + (maxL + 11) + rm.locals ≤ R.locals)
    (hws : ∀ w ∈ ws, ∀ a' U, s.WarmedH U.vm → w.before a' U = true) (hcode : Cond.code y bytes maxL ret ∈ ws) (hinit : ∀ a' U, s.WarmedH U.vm → (Cond.initialized y.cls).before a' U = true)
    {U : State} {Ls : List Loc} {c0 s0 : Nat} {gf : JFrame} {ig : Instr} {mk : MethodId} {a : Array Value} (X : Stand p l e R s m args below meth c U Ls c0 s0) (hg : gf.method = m) (hsize : gf.locals.size = c.maxLocals) (hdg : decode c.code gf.pc = .ok (ig, len))
    (hW : 2 * gf.monitorRoom + (gf.stack.map fun v => v.category).sum ≤ W9) (hn : U.methodNamed? y = some mk) (h4 : c0 ≤ R.cells) (h5 : s0 ≤ R.slots) (hp : Pc a U) :
    ∃ (o : Outcome) (t T' : State) (L : List Loc), Stand p l e R s m args below meth c T' (Ls ++ L) c0 s0 ∧ T'.heap = t.heap ∧ T'.vm = t.vm ∧ (∀ q ∈ L, free q.base) ∧ Qc a (U.calling gf mk a) o t ∧
      (∀ v, o = .returned v → Steps p.tables e below (doInvoke e (U.setTop gf) [] mk a).1 (T'.setTop { gf with pc := gf.pc + len, stack := v.toList ++ gf.stack })) ∧
      ∀ x, o = .threw x → Steps p.tables e below (doInvoke e (U.setTop gf) [] mk a).1 ((T'.setTop gf).pushFrame (.throwing x)) := by
  obtain ⟨methY, cY, hmY, hcY, -, hlY, -, -, -, -⟩ := Cond.code_spec hn (hws _ hcode a U X.warmed)
  obtain ⟨kY, hkY, -⟩ := className_of_methodNamed hn
  have hinitY : kY.init = .initialized := Cond.initialized_spec (findClass_of_methodNamed hn) hkY (hinit a U X.warmed)
  have h : At U gf.method c below := by rw [hg]; exact X.here
  have happ : (headSpec ws rm).appliesLoose y e.platform (U.calling gf mk a) = true :=
    Spec.appliesLoose_calling (g := gf) h hdg hn hkY hinitY
      (X.room_calling (g := gf) (R' := (headSpec ws rm).room) hsize hmY hcY hframes (by rw [hlY]; exact Nat.le_trans (by show _ ≤ W9 + (maxL + 11) + rm.locals; show 2 * gf.monitorRoom + (gf.stack.map fun v => v.category).sum + (maxL + 11) + rm.locals ≤ _; omega) hlocals) (by show c0 + rm.cells ≤ _; rw [hrc]; exact h4) (by show s0 + rm.slots ≤ _; rw [hrs]; exact h5)) (atoms_intro fun w hw => hws w hw _ _ X.warmed)
  obtain ⟨mid, hmid⟩ := h.above
  have hfr : (U.setTop gf).frames = (.java gf :: mid) ++ below := by rw [State.frames_setTop' gf h.top, hmid]; rfl
  obtain ⟨o, s₂, hsteps, -, hend, hq0⟩ := Steps.callFree hM p X.admits X.cas X.clock (acts := []) hfr happ (hblind _ _ gf mk hp) trivial
  have hq1 : Qc a (U.calling gf mk a) o s₂ ∧ ∃ L, st_FE (U.calling gf mk a) s₂ L ∧ ∀ q ∈ L, free q.base := hq0
  obtain ⟨hq, L, ⟨hW₂, e2, q2, q3, q4, q5, q6⟩, hL⟩ := hq1
  rw [State.frames_setTop' gf h.top] at hend
  have e3 : s₂ = ({ (U.calling gf mk a).setFrames s₂.frames with heap := s₂.heap, slotsUsed := s₂.slotsUsed } : State).setVm s₂.vm := by
    have : s₂ = ({ s₂ with vm := (U.calling gf mk a).vm } : State).setVm s₂.vm := rfl
    rw [e2] at this
    exact this
  have hW' : U.WarmedH s₂.vm := hW₂
  obtain ⟨g₀, hg0⟩ := Option.isSome_iff_exists.mp h.top
  obtain ⟨r, hr⟩ := State.topJava?_eq_some.mp hg0
  have hr' : (({ U with heap := s₂.heap, slotsUsed := s₂.slotsUsed } : State).setVm s₂.vm).frames = .java g₀ :: r := hr
  have hsame : U.sameButNew ({ U with heap := s₂.heap, slotsUsed := s₂.slotsUsed } : State) L 0 0 := by
    refine ⟨?_, q2, q3, q4, q5, q6⟩
    obtain ⟨t, ht, -⟩ := State.frames_cons hr
    show ({ U with heap := s₂.heap, slotsUsed := s₂.slotsUsed } : State) = { U.setFrames U.frames with heap := s₂.heap, slotsUsed := s₂.slotsUsed }
    rw [State.setFrames_self ht]
  subst hg
  refine ⟨o, s₂, (({ U with heap := s₂.heap, slotsUsed := s₂.slotsUsed } : State).setVm s₂.vm), L, ⟨X.admits, X.cas, X.clock, X.frames, X.room, X.hears, X.method, X.code, (X.here.setHeapUsed s₂.heap s₂.slotsUsed).setVm hW'.alike, X.tail, State.WarmedH.trans X.warmed hW', X.limits, X.bytes, X.same.trans (hsame.setVm s.vm)⟩, rfl, rfl, hL, hq, fun v hv => ?_, fun x hx => ?_⟩
  · subst hv
    obtain ⟨c₂, i₂, len₂, hc₂, hd₂, hf₂⟩ := hend
    have hcc : c₂ = c := by
      have h1 : s₂.code? gf.method = U.code? gf.method := by
        rw [State.code?_eq, State.code?_eq, hW'.alike.method?]
      exact Option.some.inj (hc₂.symm.trans (h1.trans h.code))
    subst hcc
    have hlen : len₂ = len := by rw [hdg] at hd₂; cases hd₂; rfl
    subst hlen
    have hs₂ : s₂ = (({ U with heap := s₂.heap, slotsUsed := s₂.slotsUsed } : State).setVm s₂.vm).setTop { gf with pc := gf.pc + len₂, stack := v.toList ++ gf.stack } := by
      refine e3.trans ?_
      rw [hf₂, State.calling_eq h.top, State.setFrames_setFrames, State.setTop_of_frames _ hr', hr]
      rfl
    rw [← hs₂]
    exact hsteps
  · subst hx
    have hf₂ : s₂.frames = .throwing x :: .java gf :: U.frames.tail := hend
    have hs₂ : s₂ = ((({ U with heap := s₂.heap, slotsUsed := s₂.slotsUsed } : State).setVm s₂.vm).setTop gf).pushFrame (.throwing x) := by
      refine e3.trans ?_
      rw [hf₂, State.calling_eq h.top, State.setFrames_setFrames, State.pushFrame, State.frames_setTop _ hr', State.setTop_of_frames _ hr', State.setFrames_setFrames, hr]
      rfl
    rw [← hs₂]
    exact hsteps
/-- a call of an instance method that may throw -/
theorem st_cv (C : sv_C g A own cc nL p s m args meth c) {y : MethodName} {bytes : ByteArray} {n : Nat} {ret : Option FieldType} {fr lo k index a ci : Nat} {r : vw_C} {as : List sv_T} {po' : List sv_T → (Nat → Nat → Int) → Prop} {pt' : Nat → (Nat → Nat → Int) → Prop} (hd : decode cc pc = .ok (.invokevirtual index, 3)) (hM : st_M l y bytes n ret { frames := fr, cells := 0, slots := 0, locals := lo } g A ty σ (sv_r a :: as) po' pt') (hb : sv_cb R y bytes n ret fr lo k) (hl : Cond.methodLink own index y ∈ lw_good) (hi : Cond.instanceMethod y ∈ lw_good) (hs : Cond.selects r.1 y y ∈ lw_good) (hk : sv_kT (ty a) = some (.inl ci)) (hr : vwCl[ci]? = some r) (hn : as.length = k) (hst : st = as.reverse ++ sv_r a :: rest) (hrm : (rest.map fun v => (sv_den v).category).sum ≤ 8) (hcs : cells ≤ R.cells ∧ slots ≤ R.slots)
    (kk : ∀ (r : List sv_T) (σ' : Nat → Nat → Int), po' r σ' → sv_ok ty σ' → sv_V p l e R s m args below meth c nL A cells slots Q (sv_H g ty σ') (pc + 3) lv (r ++ rest))
    (kt : ∀ (x : Nat) (σ' : Nat → Nat → Int), pt' x σ' → sv_ok ty σ' → st_VT p l e R s m args below meth c nL A cells slots Q (sv_H g ty σ') pc lv rest x) : sv_V p l e R s m args below meth c nL A cells slots Q (sv_H g ty σ) pc lv st := by
  intro H locs ls hH hS hll T hT X
  subst hst
  have hts := C.2.2.2.2.1
  obtain ⟨hco, hini, hnm, hfr, hlo⟩ := hb
  obtain ⟨cellB, hcB, hoB, hclB⟩ := sv_rcv C hH hk hr
  obtain ⟨mk, methM, hnamed, hmethM, hstM, habM⟩ := Cond.instanceMethod_spec (hts _ hi)
  obtain ⟨methM', cM, hmethM', -, -, -, -, -, -, hsigM⟩ := Cond.code_spec hnamed (hts _ hco)
  cases hmethM.symm.trans hmethM'
  obtain ⟨c2, r2, m2, q1, q2, q3, q4, kP, hkP, hkPi⟩ := Cond.selects_spec (hts _ hs)
  cases hclB.symm.trans q1
  cases (State.methodFound?_of_named hnamed ⟨hnm.1, hnm.2.1⟩).symm.trans q2
  cases hnamed.symm.trans q3
  have hselP : selectMethod e.platform s.vm cellB.cls mk = .method mk := by rw [Launch.admits_selectMethod X.admits]; exact q4
  obtain ⟨vm₁, X₁, hstep₁⟩ := X.invokevirtual C.1 C.2.2.2.1 (hts _ hl) hnamed hmethM hstM hkP hkPi ⟨hnm.1, hnm.2.1⟩ (a := a) (cell := cellB) (by rw [hT]; exact hcB)
    (fun z h => by rw [h] at hoB; cases hoB) hselP hmethM habM hkP hkPi (g := F0 m pc ls ((as.reverse ++ sv_r a :: rest).map sv_den)) rfl (argsL := as.map sv_den) (rest := rest.map sv_den) (by rw [List.length_map, hn]; have h2 := hnm.2.2; rw [hsigM] at h2; exact (Option.some.inj h2).symm) (by simp [sv_den_r]) (by rw [C.2.1]; exact hd)
  obtain ⟨o, t, T', L, X', e1, e2, hL, hq, sv, sx⟩ := st_back (gf := F0 m pc ls (rest.map sv_den)) (ig := .invokevirtual index) (len := 3) (W9 := 8) (mk := mk) (bytes := bytes) (maxL := n) (ret := ret) hM sv_Pblind rfl rfl hfr hlo (pay_in hts (sv_goodIn hco)) List.mem_cons_self (fun a' U hW => word_at hW (Or.inl (by first | rfl | simp [Cond.onTables, Cond.keeps, Cond.steady])) (hts _ hini)) X₁ rfl (hll.1.trans C.2.2.1.symm) (by rw [C.2.1]; exact hd) (sv_room hrm) (X₁.named hnamed) hcs.1 hcs.2 (sv_Pat (av := sv_r a :: as) C.2.2.2.2.2.1 hH hS (T.setVm vm₁) hT X₁.warmed)
  have st0 : ∀ tg, Steps p.tables e below (doInvoke e ((T.setVm vm₁).setTop (F0 m pc ls (rest.map sv_den))) [] mk (Value.ref a :: as.map sv_den).toArray).1 tg → Steps p.tables e below (T.setTop (F0 m pc ls ((as.reverse ++ sv_r a :: rest).map sv_den))) tg := fun tg h => hstep₁ _ fun acts => by rw [doInvoke_state]; exact h
  have hS' : va_F A ((T.setVm vm₁).calling (F0 m pc ls (rest.map sv_den)) mk (Value.ref a :: as.map sv_den).toArray) t → va_S A s.heap T'.heap (locs ++ L) := fun ⟨hz, hk⟩ => ⟨Nat.le_trans hS.1 (by rw [e1, ← hT]; exact hz), fun q h1 h2 => by rw [e1, hk q (by show q < T.heap.size; rw [hT]; exact Nat.lt_of_lt_of_le h1 hS.1) h2]; show T.heap[q]? = _; rw [hT]; exact hS.2.1 q h1 h2, fun q hq => by
    rcases List.mem_append.mp hq with h | h
    · exact hS.2.2 q h
    · exact hL q h⟩
  rcases hq with ⟨rv, σ', ho, hlen, hp, hok, hH', hF⟩ | ⟨x, σ', ho, hp, hok, hH', hF⟩
  · obtain ⟨t2, a1, b1⟩ := kk rv σ' hp hok T'.heap (locs ++ L) ls (by rw [e1]; exact hH') (hS' hF) hll T' rfl X'
    refine ⟨t2, st0 _ ((sv _ ho).trans ?_), b1⟩
    have hstk : (sv_ret rv).toList ++ rest.map sv_den = (rv ++ rest).map sv_den := by
      rw [List.map_append]
      match rv, hlen with
      | [], _ => rfl
      | [x], _ => rfl
    show Steps p.tables e below (T'.setTop (F0 m (pc + 3) ls ((sv_ret rv).toList ++ rest.map sv_den))) t2
    rw [hstk]
    exact a1
  · obtain ⟨t2, a1, b1⟩ := kt x σ' hp hok T'.heap (locs ++ L) ls (by rw [e1]; exact hH') (hS' hF) hll T' rfl X'
    exact ⟨t2, st0 _ ((sx _ ho).trans a1), b1⟩
end STT
/-! a catch in the method itself, its class's entry cold or warm -/
def st_finds (e : Env) (s : State) (f : JFrame) (a : Addr) (h : Handler) (vm' : Vm) : Prop :=
  ∀ (Q : Handler → Pre) (E : CtlPost) (d : Bool) (acts : List Action), wp (findHandler f a) Q E e d acts s ↔ Q h d acts (s.setVm vm')
theorem st_find {e : Env} {s : State} {f : JFrame} {a : Addr} {meth : Method} {code : Code} (hm : s.vm.method? f.method = some meth) (hc : meth.code = some code) (x : ExceptionTableEntry) (hsplit : code.exceptionTable.toList = [x]) (hx : covers x f.pc = true) (h0 : x.catchType ≠ 0) {c : ClassId} {cell : Cell}
    (hl : s.vm.ClassLinks e.platform f.method.cls x.catchType c) (hcell : s.heap[a]? = some cell) (hobj : ∀ k, cell.vm ≠ .statics k) (hk : ∃ k, s.vm.classes[cell.cls]? = some k) (hcl : ∃ k, s.vm.classes[c]? = some k) (hfit : s.vm.assignable cell.cls c = true) :
    st_finds e s f a (.found x.handlerPc) (s.vm.noted f.method.cls x.catchType (.cls c)) := by
  intro Q E d acts
  rw [Jvm.W.findHandler_eq hm hc, hsplit]
  simp only [covers] at hx
  obtain ⟨ha, ht⟩ := (resolveClass_links e.toSetting hl).op (op := VmOp.resolveClass f.method.cls x.catchType) rfl
  have hal : s.vm.Alike (s.vm.noted f.method.cls x.catchType (.cls c)) := (Vm.Alike.refl s.vm).noted _ _ _
  obtain ⟨k1, hk1⟩ := hk
  obtain ⟨k2, hk2⟩ := hcl
  obtain ⟨k1', hk1', -⟩ := hal.2.2 _ _ hk1
  obtain ⟨k2', hk2', -⟩ := hal.2.2 _ _ hk2
  have hfit' : (s.vm.noted f.method.cls x.catchType (.cls c)).assignable cell.cls c = true := by rw [hal.assignable]; exact hfit
  simp [findHandler.go, hx, h0, ha, ht, hcell, hobj, hk1', hk2', hfit', VmOp.dirties, VmOp.acts]
theorem st_stepC {e : Env} {s : State} {a : Addr} {f : JFrame} {r : List Frame} {pc : Nat} {vm' : Vm} (hfind : st_finds e s f a (.found pc) vm') :
    (stepThrowing e s a (.java f :: r)).Is ((s.setVm vm').setFrames (.java { f with pc := pc, stack := [.ref a] } :: r)) [] := by
  simp only [stepThrowing, searchFrame, vmDo]
  generalize hr : Sem.go _ e false [] s = res
  obtain ⟨as, rfl, ha⟩ := Sem.eq_ok_of hr (a := Handler.found pc) (s' := s.setVm vm') (acts' := []) (by simp [hfind _ _ _ _])
  exact ⟨rfl, ha⟩
theorem st_setF (u : State) (vm' : Vm) (F G : List Frame) : ((u.setFrames F).setVm vm').setFrames G = (u.setVm vm').setFrames G := by
  have h1 : (u.setFrames F).setVm vm' = (u.setVm vm').setFrames F := rfl
  rw [h1, State.setFrames_setFrames]
theorem st_stepsC {tb : Tables} {e : Env} {s target : State} {g : JFrame} {c : Code} {below : List Frame} {a : Addr} (h : At s g.method c below) {pc : Nat} {vm' : Vm}
    (hfind : st_finds e ((s.setTop g).pushFrame (.throwing a)) g a (.found pc) vm') (hrest : Steps tb e below ((s.setVm vm').setTop { g with pc := pc, stack := [.ref a] }) target) :
    Steps tb e below ((s.setTop g).pushFrame (.throwing a)) target := by
  obtain ⟨hgo, hw⟩ := h.throwing a
  refine Steps.head hgo hw ?_
  rw [stepThread_throwing (frames_entered h.top _), (st_stepC (s := (s.setTop g).pushFrame (.throwing a)) hfind).1]
  obtain ⟨g₀, hg⟩ := Option.isSome_iff_exists.mp h.top
  obtain ⟨r, hr⟩ := State.topJava?_eq_some.mp hg
  have hr' : (s.setVm vm').frames = .java g₀ :: r := hr
  rw [State.setTop_of_frames _ hr'] at hrest
  rw [hr, List.tail_cons, State.pushFrame, st_setF, State.setTop_of_frames _ hr, st_setF]
  exact hrest
section STC
variable {p : Program} {l : Launch} {e : Env} {R : Room} {s : State} {m : MethodId} {args : Array Value} {below : List Frame} {meth : Method} {c : Code} {cells slots : Nat} {Q : State → Prop}
variable {cc : ByteArray} {pc nL : Nat} {A : Nat → Prop} {lv : sv_L} {rest : List sv_T} {g : sv_G} {own : String} {ty : Nat → Nat} {σ : Nat → Nat → Int}
theorem st_caught (C : sv_C g A own cc nL p s m args meth c) {x ci : Nat} {r : vw_C} {en : ExceptionTableEntry} (hT : c.exceptionTable.toList = [en]) (hx : covers en pc = true) (h0 : en.catchType ≠ 0) (hl : Cond.classLink own en.catchType r.1 ∈ lw_good) (hk : sv_kT (ty x) = some (.inl ci)) (hr : vwCl[ci]? = some r)
    (kk : sv_V p l e R s m args below meth c nL A cells slots Q (sv_H g ty σ) en.handlerPc lv [sv_r x]) : st_VT p l e R s m args below meth c nL A cells slots Q (sv_H g ty σ) pc lv rest x := by
  intro H locs ls hH hS hll T hT' X
  obtain ⟨cellB, hcB, hoB, hclB⟩ := sv_rcv C hH hk hr
  have hpl : e.platform.magicAccessors = ({} : Platform).magicAccessors := by rw [X.admits.platform]
  obtain ⟨c', hc', hcl⟩ := Cond.classLink_spec C.2.2.2.1 (C.2.2.2.2.1 _ hl) e.platform hpl
  cases hclB.symm.trans hc'
  obtain ⟨dk, _, _, kt, hd, _, _, _, _, hkt, _, hopen⟩ := hcl.here
  have hcl₀ := X.warmed.classLinks hcl
  have hW' : s.WarmedH (T.vm.noted m.cls en.catchType (.cls cellB.cls)) := X.warmed.noted hd hopen (State.rightAt_cls hcl)
  have hal := X.warmed.alike
  obtain ⟨kt', hkt', -⟩ := hal.2.2 _ _ hkt
  obtain ⟨t, a1, b1⟩ := kk H locs ls hH hS hll (T.setVm (T.vm.noted m.cls en.catchType (.cls cellB.cls))) hT' (X.noted hW')
  refine ⟨t, ?_, b1⟩
  exact st_stepsC X.here (st_find (s := (T.setTop (F0 m pc ls (rest.map sv_den))).pushFrame (.throwing x)) (f := F0 m pc ls (rest.map sv_den)) (meth := meth) (code := c) X.method' X.code en hT hx h0 (c := cellB.cls) (cell := cellB) hcl₀ (by show T.heap[x]? = _; rw [hT']; exact hcB) (VmData.ne_statics_of hoB) ⟨kt', hkt'⟩ ⟨kt', hkt'⟩ (va_asg _ _)) a1
end STC
