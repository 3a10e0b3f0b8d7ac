/-! the context of a walk, and the rows that read and write the store -/
def sv_tys (aC : FieldType → ClassId) : List (ClassId × FieldType) := [(aC .int, .int), (aC .byte, .byte), (aC .boolean, .boolean), (aC (.object "SaintsRoad$Feast"), .object "SaintsRoad$Feast"), (aC (.object "SaintsRoad$Place"), .object "SaintsRoad$Place"), (aC (.object "SaintsRoad$Procession"), .object "SaintsRoad$Procession")]
def sv_mon (k : Nat) : Value := .int ([31, 29, 31, 30, 31, 30, 31, 31, 30, 31, 30, 31].getD k 0)
def sv_mst (k : Nat) : Value := .int ([0, 31, 59, 90, 120, 151, 181, 212, 243, 273, 304, 334].getD k 0)
/-- the literals: their classes, entries, texts; their lengths -/
def sq_L : List (String × Nat × String) := [("SaintsRoad$Reader", 105, "fixed"), ("SaintsRoad$Reader", 107, "moved"), ("SaintsRoad$Reader", 109, "sunday"), ("SaintsRoad$Reader", 111, "rank"), ("SaintsRoad$Reader", 113, "vigil"), ("SaintsRoad$Reader", 115, "octave"), ("SaintsRoad$Reader", 117, "from"), ("SaintsRoad$Reader", 119, "till"), ("SaintsRoad$Reader", 121, "yield"), ("SaintsRoad$Reader", 123, "wax"), ("SaintsRoad$Reader", 125, "lent"), ("SaintsRoad$Reader", 127, ""), ("SaintsRoadModel", 221, "yield"), ("SaintsRoadModel", 224, "lent"), ("SaintsRoadModel", 223, "wax"), ("SaintsRoadModel", 206, "fixed"), ("SaintsRoadModel", 212, "moved"), ("SaintsRoadModel", 214, "sunday"), ("SaintsRoadModel", 216, "rank"), ("SaintsRoadModel", 217, "vigil"), ("SaintsRoadModel", 218, "octave"), ("SaintsRoadModel", 219, "from"), ("SaintsRoadModel", 220, "till")]
def sq_n (i : Nat) : Nat := ([5, 5, 6, 4, 5, 6, 4, 4, 5, 3, 4, 0, 5, 4, 3, 5, 5, 6, 4, 5, 6, 4, 4] : List Nat).getD i 0
theorem sq_n_in (i : Nat) : sq_n i ≤ 12 := by
  by_cases h : i < 23
  · have key : ∀ j : Nat, j < 23 → sq_n j ≤ 12 := by decide +kernel
    exact key i h
  · have e : sq_n i = 0 := by
      unfold sq_n
      rw [List.getD_eq_getElem?_getD, List.getElem?_eq_none (by simp; omega)]
      rfl
    omega
/-- the strings, and the two statics that their methods read -/
def sv_KS (g : sv_G) (A : Nat → Prop) (U : State) : Prop :=
  (∀ i : Nat, i < 23 → (∀ q : String × Nat × String, sq_L[i]? = some q → vk_R q.1 q.2.1 q.2.2 (g.2.2.2.2.1 i) U) ∧ va_O "java/lang/String" (g.2.2.2.2.1 i) A U U.heap ∧ va_OF "java/lang/String" "coder" "B" (.int 0) (g.2.2.2.2.1 i) A U U.heap ∧ va_OF "java/lang/String" "value" "[B" (.ref (g.2.2.2.2.2 i)) (g.2.2.2.2.1 i) A U U.heap ∧ ∃ f : Nat → Int32, va_T .byte (g.2.2.2.2.2 i) (sq_n i) (fun j => .int (f j)) A U U.heap) ∧
  va_Z "java/lang/String" "COMPACT_STRINGS" "Z" (.int 1) A U U.heap ∧ va_Zq "jdk/internal/util/Preconditions" "SIOOBE_FORMATTER" "Ljava/util/function/BiFunction;" A U U.heap
theorem sv_KS.warm {g : sv_G} {A : Nat → Prop} {s U : State} (h : sv_KS g A s) (hW : s.WarmedH U.vm) (hq : ∀ a : Nat, a < s.heap.size → ¬ A a → U.heap[a]? = s.heap[a]?) : sv_KS g A U :=
  ⟨fun i hi => ⟨fun q e => ((h.1 i hi).1 q e).warm hW, (va_O.moved hW.alike (h.1 i hi).2.1).kept hq, (va_OF.moved hW.alike (h.1 i hi).2.2.1).kept hq, (va_OF.moved hW.alike (h.1 i hi).2.2.2.1).kept hq, (h.1 i hi).2.2.2.2.imp fun f hf => (va_T.moved hW.alike hf).kept hq⟩, (va_Z.moved hW.alike h.2.1).kept hq, (va_Zq.moved hW.alike h.2.2).kept hq⟩
theorem sv_KS.calling {g : sv_G} {A : Nat → Prop} {U : State} {gf : JFrame} {mk : MethodId} {a : Array Value} (h : sv_KS g A U) : sv_KS g A (U.calling gf mk a) :=
  ⟨fun i hi => ⟨fun q e => vk_R.same (u := U) (U := U.calling gf mk a) rfl ((h.1 i hi).1 q e), va_O.moved (u := U) (U := U.calling gf mk a) (Vm.Alike.refl U.vm) (h.1 i hi).2.1, va_OF.moved (u := U) (U := U.calling gf mk a) (Vm.Alike.refl U.vm) (h.1 i hi).2.2.1, va_OF.moved (u := U) (U := U.calling gf mk a) (Vm.Alike.refl U.vm) (h.1 i hi).2.2.2.1, (h.1 i hi).2.2.2.2.imp fun f hf => va_T.moved (u := U) (U := U.calling gf mk a) (Vm.Alike.refl U.vm) hf⟩, va_Z.moved (u := U) (U := U.calling gf mk a) (Vm.Alike.refl U.vm) h.2.1, va_Zq.moved (u := U) (U := U.calling gf mk a) (Vm.Alike.refl U.vm) h.2.2⟩
/-- the machine's tables, and the two static tables of months -/
def sv_K (g : sv_G) (A : Nat → Prop) (U : State) : Prop := va_K g.1 vwCl (sv_tys g.2.1) U ∧ (∀ w ∈ sv_nest, va_Nw w U) ∧
  (va_Z "SaintsRoad$Days" "MONTH_AT_MOST" "[I" (.ref g.2.2.1) A U U.heap ∧ va_T .int g.2.2.1 12 sv_mon A U U.heap) ∧ va_Z "SaintsRoad$Days" "MONTH_START" "[I" (.ref g.2.2.2.1) A U U.heap ∧ va_T .int g.2.2.2.1 12 sv_mst A U U.heap ∧ sv_KS g A U
theorem sv_nestW {w : Cond} (hw : sv_isNest w = true) {s U : State} (hW : s.WarmedH U.vm) (h : va_Nw w s) : va_Nw w U := by
  cases w <;> first | exact va_Nw.warmF hW h | exact va_Nw.warmM hW h | cases hw
theorem sv_nestS {w : Cond} (hw : sv_isNest w = true) {s U : State} (hW : s.vm = U.vm) (h : va_Nw w s) : va_Nw w U := by
  cases w <;> first | exact va_Nw.same rfl hW h | cases hw
theorem sv_K.warm {g : sv_G} {A : Nat → Prop} {s U : State} (h : sv_K g A s) (hW : s.WarmedH U.vm) (hq : ∀ a : Nat, a < s.heap.size → ¬ A a → U.heap[a]? = s.heap[a]?) : sv_K g A U :=
  ⟨va_K.moved hW.alike h.1, fun w hw => sv_nestW (List.mem_filter.mp hw).2 hW (h.2.1 w hw), ⟨(va_Z.moved hW.alike h.2.2.1.1).kept hq, (va_T.moved hW.alike h.2.2.1.2).kept hq⟩, (va_Z.moved hW.alike h.2.2.2.1).kept hq, (va_T.moved hW.alike h.2.2.2.2.1).kept hq, h.2.2.2.2.2.warm hW hq⟩
theorem sv_K.calling {g : sv_G} {A : Nat → Prop} {U : State} {gf : JFrame} {mk : MethodId} {a : Array Value} (h : sv_K g A U) : sv_K g A (U.calling gf mk a) :=
  ⟨va_K.moved (u := U) (U := U.calling gf mk a) (Vm.Alike.refl U.vm) h.1, fun w hw => sv_nestS (s := U) (U := U.calling gf mk a) (List.mem_filter.mp hw).2 rfl (h.2.1 w hw), ⟨va_Z.moved (u := U) (U := U.calling gf mk a) (Vm.Alike.refl U.vm) h.2.2.1.1, va_T.moved (u := U) (U := U.calling gf mk a) (Vm.Alike.refl U.vm) h.2.2.1.2⟩, va_Z.moved (u := U) (U := U.calling gf mk a) (Vm.Alike.refl U.vm) h.2.2.2.1, va_T.moved (u := U) (U := U.calling gf mk a) (Vm.Alike.refl U.vm) h.2.2.2.2.1, h.2.2.2.2.2.calling⟩
def sv_C (g : sv_G) (A : Nat → Prop) (own : String) (cc : ByteArray) (nL : Nat) (p : Program) (s : State) (m : MethodId) (args : Array Value) (meth : Method) (c : Code) : Prop :=
  p.tables.exec = Jvm.exec ∧ c.code = cc ∧ c.maxLocals = nL ∧ s.vm.findClass own = some m.cls ∧ (∀ w ∈ lw_good, w.before args s = true) ∧ sv_K g A s ∧ meth.locks = false
section SVR
variable {p : Program} {l : Launch} {e : Env} {R : Room} {s : State} {m : MethodId} {args : Array Value} {below : List Frame} {meth : Method} {c : Code} {cells slots : Nat} {Q : State → Prop}
variable {cc : ByteArray} {pc nL : Nat} {A : Nat → Prop} {lv lv' : sv_L} {st st' rest : List sv_T} {g : sv_G} {own : String} {ty : Nat → Nat} {σ : Nat → Nat → Int}
theorem sv_gf (C : sv_C g A own cc nL p s m args meth c) {a ci k index : Nat} {r : vw_C} {v : sv_T} (hd : decode cc pc = .ok (.getfield index, 3)) (hk : sv_kT (ty a) = some (.inl ci)) (hr : vwCl[ci]? = some r) (hkn : k < r.2.2) (hw : Cond.fieldLink own index (r.2.1 k).1 (r.2.1 k).2.1 (r.2.1 k).2.2.1 ∈ lw_good) (hv : sv_of (sv_ft ci k) (σ a k) = v)
    (kk : sv_V p l e R s m args below meth c nL A cells slots Q (sv_H g ty σ) (pc + 3) lv (v :: rest)) : sv_V p l e R s m args below meth c nL A cells slots Q (sv_H g ty σ) pc lv (sv_r a :: rest) := by
  intro H locs ls hH hS hl
  obtain ⟨hx, hb, hml, hown, hts, hK, hlk⟩ := C
  have h1 := hH a
  rw [hk] at h1
  obtain ⟨r', hr', cell, q1, q2, q3, q4⟩ := h1
  cases hr.symm.trans hr'
  obtain ⟨hS', hfc, kC, hkC, hkind⟩ := hK.1.1 ci _ hr
  obtain ⟨cf, kf, fi, f, hi, hsl⟩ := hS' k hkn
  refine W.getf hx hb hown (hts _ hw) hi (u_facts hfc hkC (u_lays hts (sv_cls hr).1 hkn) hi).1 q1 (by rw [q3]; exact fun h => by cases h) (v := sv_den v) ?_ rfl rfl hd (kk H locs ls hH hS hl)
  rw [hsl, q4 k hkn, ← hv, sv_of_den]
/-- what the machine may store in a field: a number in its type's range -/
theorem sv_nar {t : FieldType} {z : Int} (ht : t = .int ∨ t = .boolean ∨ t = .byte ∨ t = .long ∨ (∃ n, t = .object n) ∨ ∃ x, t = .array x) (h : sv_rg t z) : narrow t (sv_dv t z) = sv_dv t z ∧ fits t (sv_dv t z) = true := by
  rcases ht with rfl | rfl | rfl | rfl | ⟨n, rfl⟩ | ⟨x, rfl⟩
  · exact ⟨rfl, rfl⟩
  · have : z = 0 ∨ z = 1 := by have := h.1; have := h.2; omega
    rcases this with rfl | rfl <;> exact ⟨by decide, by decide⟩
  · have hb : (Int32.ofInt z).toInt8.toInt32 = Int32.ofInt z := by
      rw [← Int32.toInt_inj, Int8.toInt_toInt32, Int32.toInt_toInt8, sv_oi ⟨by have := h.1; omega, by have := h.2; omega⟩]
      exact Int.bmod_eq_of_le (by have := h.1; omega) (by have := h.2; omega)
    have e1 := pk_nb (Int32.ofInt z)
    have e2 := pk_fb (Int32.ofInt z)
    rw [hb] at e1 e2
    exact ⟨e1, e2⟩
  · exact ⟨rfl, rfl⟩
  · rcases sv_rf_or z with e | ⟨a, e⟩ <;> simp only [sv_dv, e] <;> exact ⟨rfl, rfl⟩
  · rcases sv_rf_or z with e | ⟨a, e⟩ <;> simp only [sv_dv, e] <;> exact ⟨rfl, rfl⟩
theorem sv_H_up {H H' : Heap} {a ci k : Nat} {r : vw_C} {z : Int} (hH : sv_H g ty σ H) (hk : sv_kT (ty a) = some (.inl ci)) (hr : vwCl[ci]? = some r) (hn : t_OB a (g.1.1 ci) r.2.2 (g.1.2 ci) H' (updV (fun j => sv_dv (sv_ft ci j) (σ a j)) k (sv_dv (sv_ft ci k) z))) (e3 : ∀ q, q ≠ a → H'[q]? = H[q]?) : sv_H g ty (sv_up σ a k z) H' := by
  intro b
  by_cases e : b = a
  · subst e
    rw [hk]
    refine ⟨r, hr, hn.to fun j hj => ?_⟩
    by_cases e2 : j = k
    · subst e2; simp [updV, sv_up_s]
    · simp [updV, e2, sv_up_k e2]
  · rw [sv_up_row e]
    exact (hH b).kept (e3 b e)
theorem sv_pf (C : sv_C g A own cc nL p s m args meth c) {a ci k index : Nat} {r : vw_C} {v : sv_T} {z : Int} (hd : decode cc pc = .ok (.putfield index, 3)) (hk : sv_kT (ty a) = some (.inl ci)) (hr : vwCl[ci]? = some r) (hkn : k < r.2.2) (hfin : (r.2.1 k).2.2.2 = false) (hw : Cond.fieldLink own index (r.2.1 k).1 (r.2.1 k).2.1 (r.2.1 k).2.2.1 ∈ lw_good) (hv : sv_of (sv_ft ci k) z = v)
    (ht : sv_ft ci k = .int ∨ sv_ft ci k = .boolean ∨ sv_ft ci k = .byte ∨ sv_ft ci k = .long ∨ (∃ n, sv_ft ci k = .object n) ∨ ∃ x, sv_ft ci k = .array x) (hz : sv_rg (sv_ft ci k) z) (hA : A a) (hok : sv_ok ty σ)
    (kk : sv_ok ty (sv_up σ a k z) → sv_V p l e R s m args below meth c nL A cells slots Q (sv_H g ty (sv_up σ a k z)) (pc + 3) lv rest) : sv_V p l e R s m args below meth c nL A cells slots Q (sv_H g ty σ) pc lv (v :: sv_r a :: rest) := by
  intro H locs ls hH hS hl
  obtain ⟨hx, hb, hml, hown, hts, hK, hlk⟩ := C
  have h1 := hH a
  rw [hk] at h1
  obtain ⟨r', hr', cell, q1, q2, q3, q4⟩ := h1
  cases hr.symm.trans hr'
  obtain ⟨cw, cn, ct⟩ := sv_cls hr
  have hap := va_apart (own := own) hts cw (sv_ft ci) ct cn hK.1 hr
  obtain ⟨hS', hfc, kC, hkC, hkind⟩ := hK.1.1 ci _ hr
  obtain ⟨cf, kf, fi, f, hi, hsl⟩ := hS' k hkn
  have hlay := hts _ (cw _ (u_in_lay hkn))
  unfold u_lay at hlay
  rw [if_neg (by rw [hfin]; decide)] at hlay
  have hst := (u_facts hfc hkC (u_lays hts cw hkn) hi).1
  obtain ⟨n1, n2⟩ := sv_nar ht hz
  have h6 := u_store hfc hkC hkind hlay hi (ct k hkn) n1 n2
  subst hv
  rw [List.map_cons, sv_of_den]
  refine W.putK hx hb (f := f) ⟨hown, hts _ hw, ⟨_, _, _, hi⟩, hst⟩ (by rw [q2]; exact h6) q1 q3 (by rw [hsl]; exact k2_hasslot (q4 k hkn)) rfl rfl hd fun H' e1 e2 e3 => ?_
  rw [hsl] at e1 ⊢
  exact kk (sv_ok_up hok (by rw [hk]; exact hz)) H' _ ls (sv_H_up hH hk hr ⟨_, e1, q2, q3, t_set q4 hap hkn _⟩ e3) (hS.put e2 e3 hA) hl
/-- an array's element -/
theorem sv_idx {i : Int} {n : Nat} (h0 : 0 ≤ i) (h1 : i < n) (hn : n < 2147483648) : vp_in (Int32.ofInt i) n ∧ (Int32.ofInt i).toNatClampNeg = i.toNat := by
  have e : (Int32.ofInt i).toInt = i := sv_oi ⟨by omega, by omega⟩
  refine ⟨vp_in_iff.mpr ⟨by rw [e]; exact h0, by rw [e]; exact h1⟩, ?_⟩
  rw [← Int32.toNat_toInt, e]
theorem sv_isA {t : FieldType} {U : State} (h : sv_K g A U) (ht : t = .int ∨ t = .byte ∨ t = .boolean ∨ t = .object "SaintsRoad$Feast" ∨ t = .object "SaintsRoad$Place" ∨ t = .object "SaintsRoad$Procession") (n : Nat) (f : Nat → Value) : U.isArrayOf (arrV (g.2.1 t) n f) t := by
  rcases ht with rfl | rfl | rfl | rfl | rfl | rfl
  · exact (h.1.2 0 _ rfl).1 n f
  · exact (h.1.2 1 _ rfl).1 n f
  · exact (h.1.2 2 _ rfl).1 n f
  · exact (h.1.2 3 _ rfl).1 n f
  · exact (h.1.2 4 _ rfl).1 n f
  · exact (h.1.2 5 _ rfl).1 n f
theorem sv_rd {a n : Nat} {t : FieldType} {H : Heap} {i : Int} (hH : sv_H g ty σ H) (hk : sv_kT (ty a) = some (.inr (t, n))) (h0 : 0 ≤ i) (h1 : i < n) (hn : n < 2147483648) :
    H[a]? = some (arrV (g.2.1 t) n (fun i => sv_dv t (σ a i))) ∧ ¬ (Int32.ofInt i < 0 ∨ (arrV (g.2.1 t) n (fun i => sv_dv t (σ a i))).slots.size ≤ (Int32.ofInt i).toNatClampNeg) ∧ (arrV (g.2.1 t) n (fun i => sv_dv t (σ a i))).slots[(Int32.ofInt i).toNatClampNeg]? = some (sv_dv t (σ a i.toNat)) := by
  have h2 := hH a
  rw [hk] at h2
  obtain ⟨e1, e2⟩ := sv_idx h0 h1 hn
  refine ⟨h2, by rw [arrV_size]; exact e1, ?_⟩
  rw [e2, arrV_read _ _ (by omega)]
theorem sv_ia (C : sv_C g A own cc nL p s m args meth c) {a n : Nat} {i : Int} (hd : decode cc pc = .ok (.iaload, 1)) (hk : sv_kT (ty a) = some (.inr (.int, n))) (hn : n < 2147483648) (h0 : 0 ≤ i) (h1 : i < n)
    (kk : sv_V p l e R s m args below meth c nL A cells slots Q (sv_H g ty σ) (pc + 1) lv (sv_i (σ a i.toNat) :: rest)) : sv_V p l e R s m args below meth c nL A cells slots Q (sv_H g ty σ) pc lv (.inl i :: sv_r a :: rest) := by
  intro H locs ls hH hS hl
  obtain ⟨hx, hb, hml, hown, hts, hK, hlk⟩ := C
  obtain ⟨e1, e2, e3⟩ := sv_rd hH hk h0 h1 hn
  exact W.iald hx hb e1 (sv_isA hK (Or.inl rfl) _ _) (fun q => by cases q) e2 e3 rfl rfl hd (kk H locs ls hH hS hl)
theorem sv_ba (C : sv_C g A own cc nL p s m args meth c) {a n : Nat} {i : Int} (hd : decode cc pc = .ok (.baload, 1)) (hk : sv_kT (ty a) = some (.inr (.byte, n))) (hn : n < 2147483648) (h0 : 0 ≤ i) (h1 : i < n)
    (kk : sv_V p l e R s m args below meth c nL A cells slots Q (sv_H g ty σ) (pc + 1) lv (sv_i (σ a i.toNat) :: rest)) : sv_V p l e R s m args below meth c nL A cells slots Q (sv_H g ty σ) pc lv (.inl i :: sv_r a :: rest) := by
  intro H locs ls hH hS hl
  obtain ⟨hx, hb, hml, hown, hts, hK, hlk⟩ := C
  obtain ⟨e1, e2, e3⟩ := sv_rd hH hk h0 h1 hn
  exact W.bald hx hb e1 (sv_isA hK (Or.inr (Or.inl rfl)) _ _) (fun q => by cases q) e2 e3 rfl rfl hd (kk H locs ls hH hS hl)
theorem sv_za (C : sv_C g A own cc nL p s m args meth c) {a n : Nat} {i : Int} (hd : decode cc pc = .ok (.baload, 1)) (hk : sv_kT (ty a) = some (.inr (.boolean, n))) (hn : n < 2147483648) (h0 : 0 ≤ i) (h1 : i < n)
    (kk : sv_V p l e R s m args below meth c nL A cells slots Q (sv_H g ty σ) (pc + 1) lv (sv_i (σ a i.toNat) :: rest)) : sv_V p l e R s m args below meth c nL A cells slots Q (sv_H g ty σ) pc lv (.inl i :: sv_r a :: rest) := by
  intro H locs ls hH hS hl
  obtain ⟨hx, hb, hml, hown, hts, hK, hlk⟩ := C
  obtain ⟨e1, e2, e3⟩ := sv_rd hH hk h0 h1 hn
  exact W.zald hx hb e1 (sv_isA hK (Or.inr (Or.inr (Or.inl rfl))) _ _) (fun q => by cases q) e2 e3 rfl rfl hd (kk H locs ls hH hS hl)
theorem sv_aa (C : sv_C g A own cc nL p s m args meth c) {a n : Nat} {i : Int} {N : String} (hN : N = "SaintsRoad$Feast" ∨ N = "SaintsRoad$Place" ∨ N = "SaintsRoad$Procession") (hd : decode cc pc = .ok (.aaload, 1)) (hk : sv_kT (ty a) = some (.inr (.object N, n))) (hn : n < 2147483648) (h0 : 0 ≤ i) (h1 : i < n)
    (kk : sv_V p l e R s m args below meth c nL A cells slots Q (sv_H g ty σ) (pc + 1) lv (sv_a (σ a i.toNat) :: rest)) : sv_V p l e R s m args below meth c nL A cells slots Q (sv_H g ty σ) pc lv (.inl i :: sv_r a :: rest) := by
  intro H locs ls hH hS hl
  obtain ⟨hx, hb, hml, hown, hts, hK, hlk⟩ := C
  obtain ⟨e1, e2, e3⟩ := sv_rd hH hk h0 h1 hn
  exact W.aald hx hb e1 (sv_isA hK (by rcases hN with rfl | rfl | rfl <;> simp) _ _) rfl (fun q => by cases q) e2 e3 rfl rfl hd (kk H locs ls hH hS hl)
theorem sv_al (C : sv_C g A own cc nL p s m args meth c) {a n : Nat} {t : FieldType} (ht : t = .int ∨ t = .byte ∨ t = .boolean ∨ t = .object "SaintsRoad$Feast" ∨ t = .object "SaintsRoad$Place" ∨ t = .object "SaintsRoad$Procession") (hd : decode cc pc = .ok (.arraylength, 1)) (hk : sv_kT (ty a) = some (.inr (t, n)))
    (kk : sv_V p l e R s m args below meth c nL A cells slots Q (sv_H g ty σ) (pc + 1) lv (sv_i (n : Int) :: rest)) : sv_V p l e R s m args below meth c nL A cells slots Q (sv_H g ty σ) pc lv (sv_r a :: rest) := by
  intro H locs ls hH hS hl
  obtain ⟨hx, hb, hml, hown, hts, hK, hlk⟩ := C
  have h2 := hH a
  rw [hk] at h2
  exact W.alen (n := Int32.ofInt n) hx hb h2 (sv_isA hK ht _ _) (by rw [arrV_size]; rfl) rfl rfl hd (kk H locs ls hH hS hl)
theorem sv_H_st {H H' : Heap} {a n j : Nat} {t : FieldType} {z : Int} (hH : sv_H g ty σ H) (hk : sv_kT (ty a) = some (.inr (t, n))) (e1 : H'[a]? = some ((arrV (g.2.1 t) n (fun i => sv_dv t (σ a i))).setSlot j (sv_dv t z))) (e3 : ∀ q, q ≠ a → H'[q]? = H[q]?) : sv_H g ty (sv_up σ a j z) H' := by
  intro b
  by_cases e : b = a
  · subst e
    rw [hk]
    show H'[b]? = _
    rw [e1, arrV_store]
    congr 2
    funext q
    by_cases e2 : q = j
    · subst e2; simp [updV, sv_up_s]
    · simp [updV, e2, sv_up_k e2]
  · rw [sv_up_row e]
    exact (hH b).kept (e3 b e)
theorem sv_is (C : sv_C g A own cc nL p s m args meth c) {a n : Nat} {i z : Int} (hd : decode cc pc = .ok (.iastore, 1)) (hk : sv_kT (ty a) = some (.inr (.int, n))) (hn : n < 2147483648) (h0 : 0 ≤ i) (h1 : i < n) (hz : sv_in z) (hA : A a) (hok : sv_ok ty σ)
    (kk : sv_ok ty (sv_up σ a i.toNat z) → sv_V p l e R s m args below meth c nL A cells slots Q (sv_H g ty (sv_up σ a i.toNat z)) (pc + 1) lv rest) : sv_V p l e R s m args below meth c nL A cells slots Q (sv_H g ty σ) pc lv (.inl z :: .inl i :: sv_r a :: rest) := by
  intro H locs ls hH hS hl
  obtain ⟨hx, hb, hml, hown, hts, hK, hlk⟩ := C
  obtain ⟨e1, e2, e3⟩ := sv_rd hH hk h0 h1 hn
  refine W.iast hx hb e1 (sv_isA hK (Or.inl rfl) _ _) (fun q => by cases q) e2 rfl rfl hd fun H' f1 f2 f3 => ?_
  rw [(sv_idx h0 h1 hn).2] at f1 ⊢
  exact kk (sv_ok_up hok (by rw [hk]; exact hz)) H' _ ls (sv_H_st hH hk f1 f3) (hS.put f2 f3 hA) hl
theorem sv_bs (C : sv_C g A own cc nL p s m args meth c) {a n : Nat} {i z : Int} (hd : decode cc pc = .ok (.bastore, 1)) (hk : sv_kT (ty a) = some (.inr (.byte, n))) (hn : n < 2147483648) (h0 : 0 ≤ i) (h1 : i < n) (hz : -128 ≤ z ∧ z ≤ 127) (hA : A a) (hok : sv_ok ty σ)
    (kk : sv_ok ty (sv_up σ a i.toNat z) → sv_V p l e R s m args below meth c nL A cells slots Q (sv_H g ty (sv_up σ a i.toNat z)) (pc + 1) lv rest) : sv_V p l e R s m args below meth c nL A cells slots Q (sv_H g ty σ) pc lv (.inl z :: .inl i :: sv_r a :: rest) := by
  intro H locs ls hH hS hl
  obtain ⟨hx, hb, hml, hown, hts, hK, hlk⟩ := C
  obtain ⟨e1, e2, e3⟩ := sv_rd hH hk h0 h1 hn
  refine W.bast hx hb e1 (sv_isA hK (Or.inr (Or.inl rfl)) _ _) (fun q => by cases q) e2 rfl rfl hd fun H' f1 f2 f3 => ?_
  rw [(sv_idx h0 h1 hn).2, show narrow .byte (.int (Int32.ofInt z)) = sv_dv .byte z from (sv_nar (t := .byte) (by simp) hz).1] at f1
  rw [(sv_idx h0 h1 hn).2]
  exact kk (sv_ok_up hok (by rw [hk]; exact hz)) H' _ ls (sv_H_st hH hk f1 f3) (hS.put f2 f3 hA) hl
theorem sv_zs (C : sv_C g A own cc nL p s m args meth c) {a n : Nat} {i z : Int} (hd : decode cc pc = .ok (.bastore, 1)) (hk : sv_kT (ty a) = some (.inr (.boolean, n))) (hn : n < 2147483648) (h0 : 0 ≤ i) (h1 : i < n) (hz : 0 ≤ z ∧ z ≤ 1) (hA : A a) (hok : sv_ok ty σ)
    (kk : sv_ok ty (sv_up σ a i.toNat z) → sv_V p l e R s m args below meth c nL A cells slots Q (sv_H g ty (sv_up σ a i.toNat z)) (pc + 1) lv rest) : sv_V p l e R s m args below meth c nL A cells slots Q (sv_H g ty σ) pc lv (.inl z :: .inl i :: sv_r a :: rest) := by
  intro H locs ls hH hS hl
  obtain ⟨hx, hb, hml, hown, hts, hK, hlk⟩ := C
  obtain ⟨e1, e2, e3⟩ := sv_rd hH hk h0 h1 hn
  refine W.zast hx hb e1 (sv_isA hK (Or.inr (Or.inr (Or.inl rfl))) _ _) (fun q => by cases q) e2 rfl rfl hd fun H' f1 f2 f3 => ?_
  rw [(sv_idx h0 h1 hn).2, show narrow .boolean (.int (Int32.ofInt z)) = sv_dv .boolean z from (sv_nar (t := .boolean) (by simp) hz).1] at f1
  rw [(sv_idx h0 h1 hn).2]
  exact kk (sv_ok_up hok (by rw [hk]; exact hz)) H' _ ls (sv_H_st hH hk f1 f3) (hS.put f2 f3 hA) hl
end SVR
