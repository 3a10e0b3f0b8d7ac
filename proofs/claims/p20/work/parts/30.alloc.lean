/-! making cells -/
def sv_upt (ty : Nat → Nat) (q K : Nat) : Nat → Nat := fun x => if x = q then K else ty x
def sv_zr (σ : Nat → Nat → Int) (q : Nat) : Nat → Nat → Int := fun x k => if x = q then 0 else σ x k
theorem sv_upt_s (ty : Nat → Nat) (q K : Nat) : sv_upt ty q K q = K := if_pos rfl
theorem sv_upt_n {ty : Nat → Nat} {q K x : Nat} (h : x ≠ q) : sv_upt ty q K x = ty x := if_neg h
theorem sv_zr_s (σ : Nat → Nat → Int) (q k : Nat) : sv_zr σ q q k = 0 := if_pos rfl
theorem sv_zr_n {σ : Nat → Nat → Int} {q x : Nat} (h : x ≠ q) : sv_zr σ q x = σ x := funext fun _ => if_neg h
/-- every cell of a kind is one of a known kind, and lies where cells may be written -/
def sv_TT (A : Nat → Prop) (ty : Nat → Nat) : Prop := ∀ q, ty q ≠ 0 → sv_kT (ty q) ≠ none ∧ A q
theorem sv_isat {g : sv_G} {a : Nat} {x : Nat ⊕ (FieldType × Nat)} {f : Nat → Int} {H : Heap} (h : sv_cell g a (some x) f H) : a < H.size := by
  match x, h with
  | .inl ci, ⟨r, _, cl0, q1, _⟩ => exact (Array.getElem?_eq_some_iff.mp q1).1
  | .inr (t, n), h => exact (Array.getElem?_eq_some_iff.mp h).1
theorem sv_fresh {g : sv_G} {A : Nat → Prop} {ty : Nat → Nat} {σ : Nat → Nat → Int} {H : Heap} (hH : sv_H g ty σ H) (hT : sv_TT A ty) : ty H.size = 0 := by
  by_cases h : ty H.size = 0
  · exact h
  · have h1 := hH H.size
    cases hk : sv_kT (ty H.size) with
    | none => exact absurd hk (hT _ h).1
    | some x => rw [hk] at h1; exact absurd (sv_isat h1) (Nat.lt_irrefl _)
theorem sv_H_new {g : sv_G} {ty : Nat → Nat} {σ : Nat → Nat → Int} {H H1 : Heap} {K : Nat} (hH : sv_H g ty σ H) (h1 : sv_cell g H.size (sv_kT K) (fun _ => 0) H1) (o1 : ∀ q, q < H.size → H1[q]? = H[q]?) : sv_H g (sv_upt ty H.size K) (sv_zr σ H.size) H1 := by
  intro b
  by_cases e : b = H.size
  · subst e
    rw [sv_upt_s, show sv_zr σ H.size H.size = fun _ => 0 from funext fun k => sv_zr_s σ _ k]
    exact h1
  · rw [sv_upt_n e, sv_zr_n e]
    have h2 := hH b
    cases hk : sv_kT (ty b) with
    | none => exact trivial
    | some x => rw [hk] at h2; exact h2.kept (o1 b (sv_isat h2))
theorem sv_rg0 (t : FieldType) : sv_rg t 0 := by
  cases t <;> first | exact Int.le_refl 0 | exact ⟨by decide, by decide⟩
theorem sv_ok_new {ty : Nat → Nat} {σ : Nat → Nat → Int} (h : sv_ok ty σ) (q K : Nat) : sv_ok (sv_upt ty q K) (sv_zr σ q) := by
  intro b
  by_cases e : b = q
  · subst e
    rw [sv_upt_s]
    cases hk : sv_kT K with
    | none => exact trivial
    | some x =>
      match x with
      | .inl ci => intro r hr k hk; rw [sv_zr_s]; exact sv_rg0 _
      | .inr (t, n) => intro k hk; rw [sv_zr_s]; exact sv_rg0 _
  · rw [sv_upt_n e, sv_zr_n e]; exact h b
/-- the types of fields that there are -/
def sv_isT : FieldType → Bool
  | .int => true | .boolean => true | .byte => true | .long => true | .object _ => true | .array _ => true | _ => false
theorem sv_dv0 {t : FieldType} (h : sv_isT t = true) : defaultValue t = sv_dv t 0 := by cases t <;> first | rfl | cases h
theorem sv_clT {ci : Nat} {r : vw_C} (h : vwCl[ci]? = some r) : ∀ k, k < r.2.2 → sv_isT (sv_ft ci k) = true := by
  match ci, h with
  | 0, h => cases h; decide +kernel
  | 1, h => cases h; decide +kernel
  | 2, h => cases h; decide +kernel
  | 3, h => cases h; decide +kernel
  | 4, h => cases h; decide +kernel
  | 5, h => cases h; decide +kernel
  | 6, h => cases h; decide +kernel
  | 7, h => cases h; decide +kernel
  | 8, h => cases h; decide +kernel
  | 9, h => cases h; decide +kernel
  | 10, h => cases h; decide +kernel
  | n + 11, h => simp [vwCl] at h
/-- what a maker of cells stands on -/
def sv_J (A : Nat → Prop) (U : State) : Prop := (∀ q : Nat, U.heap.size ≤ q → A q) ∧ (va_AO "SaintsRoad$Feast" U ∧ va_AO "SaintsRoad$Place" U ∧ va_AO "SaintsRoad$Procession" U) ∧ va_Zq "java/lang/Throwable" "UNASSIGNED_STACK" "[Ljava/lang/StackTraceElement;" A U U.heap ∧ va_Zq "java/lang/Throwable" "SUPPRESSED_SENTINEL" "Ljava/util/List;" A U U.heap
theorem sv_J.warm {A : Nat → Prop} {s U : State} (h : sv_J A s) (hW : s.WarmedH U.vm) (hz : s.heap.size ≤ U.heap.size) (hq : ∀ a : Nat, a < s.heap.size → ¬ A a → U.heap[a]? = s.heap[a]?) : sv_J A U :=
  ⟨fun q hq => h.1 q (Nat.le_trans hz hq), ⟨va_AO.moved hW.alike h.2.1.1, va_AO.moved hW.alike h.2.1.2.1, va_AO.moved hW.alike h.2.1.2.2⟩, (va_Zq.moved hW.alike h.2.2.1).kept hq, (va_Zq.moved hW.alike h.2.2.2).kept hq⟩
theorem sv_J.calling {A : Nat → Prop} {U : State} {gf : JFrame} {mk : MethodId} {a : Array Value} (h : sv_J A U) : sv_J A (U.calling gf mk a) :=
  ⟨h.1, ⟨va_AO.moved (u := U) (U := U.calling gf mk a) (Vm.Alike.refl U.vm) h.2.1.1, va_AO.moved (u := U) (U := U.calling gf mk a) (Vm.Alike.refl U.vm) h.2.1.2.1, va_AO.moved (u := U) (U := U.calling gf mk a) (Vm.Alike.refl U.vm) h.2.1.2.2⟩, va_Zq.moved (u := U) (U := U.calling gf mk a) (Vm.Alike.refl U.vm) h.2.2.1, va_Zq.moved (u := U) (U := U.calling gf mk a) (Vm.Alike.refl U.vm) h.2.2.2⟩
section SVN
variable {p : Program} {l : Launch} {e : Env} {R : Room} {s : State} {m : MethodId} {args : Array Value} {below : List Frame} {meth : Method} {c : Code} {cells slots : Nat} {Q : State → Prop}
variable {cc : ByteArray} {pc nL : Nat} {A : Nat → Prop} {lv lv' : sv_L} {st st' rest : List sv_T} {g : sv_G} {own : String} {ty : Nat → Nat} {σ : Nat → Nat → Int}
theorem sv_new (C : sv_C g A own cc nL p s m args meth c) (J : sv_J A s) {K ci index : Nat} {r : vw_C} (hd : decode cc pc = .ok (.new index, 3)) (hK : sv_kT K = some (.inl ci)) (hr : vwCl[ci]? = some r) (hl : Cond.classLink own index r.1 ∈ lw_good) (hi : Cond.instantiable r.1 r.2.2 ∈ lw_good) (hini : Cond.initialized r.1 ∈ lw_good) (hT : sv_TT A ty) (hok : sv_ok ty σ) (hc : cells + 1 ≤ R.cells) (hs : slots + r.2.2 ≤ R.slots)
    (kk : ∀ q : Nat, ty q = 0 → A q → sv_ok (sv_upt ty q K) (sv_zr σ q) → sv_V p l e R s m args below meth c nL A (cells + 1) (slots + r.2.2) Q (sv_H g (sv_upt ty q K) (sv_zr σ q)) (pc + 3) lv (sv_r q :: st)) : sv_V p l e R s m args below meth c nL A cells slots Q (sv_H g ty σ) pc lv st := by
  intro H locs ls hH hS hll
  obtain ⟨hx, hb, hml, hown, hts, hKK, hlk⟩ := C
  have hKn := hKK.1.1 ci _ hr
  obtain ⟨cw, cn, ct⟩ := sv_cls hr
  refine W.newcK hx hb hown (hts _ hl) (hts _ hi) (hts _ hini) rfl hd hc hs hKn.2.1 rfl fun H1 kC hkC e1 z1 o1 => ?_
  refine kk H.size (sv_fresh hH hT) (J.1 _ hS.1) (sv_ok_new hok _ _) H1 locs ls (sv_H_new hH ?_ o1) ⟨Nat.le_trans hS.1 (by omega), fun x h1 h2 => (o1 x (Nat.lt_of_lt_of_le h1 hS.1)).trans (hS.2.1 x h1 h2), hS.2.2⟩ hll
  rw [hK]
  exact ⟨r, hr, (u_born (sv_ft ci) hts cw hKn hkC e1 ct).to fun j hj => sv_dv0 (sv_clT hr j hj)⟩
theorem sv_aC {t : FieldType} {U : State} {cA : ClassId} (h : sv_K g A U) (ht : t = .int ∨ t = .byte ∨ t = .boolean ∨ t = .object "SaintsRoad$Feast" ∨ t = .object "SaintsRoad$Place" ∨ t = .object "SaintsRoad$Procession") (hf : U.vm.findClass ("[" ++ t.toString) = some cA) : cA = g.2.1 t := by
  rcases ht with rfl | rfl | rfl | rfl | rfl | rfl
  · exact Option.some.inj (hf.symm.trans (h.1.2 0 _ rfl).2)
  · exact Option.some.inj (hf.symm.trans (h.1.2 1 _ rfl).2)
  · exact Option.some.inj (hf.symm.trans (h.1.2 2 _ rfl).2)
  · obtain ⟨kA, comp, k1, k2, k3, k4⟩ := (h.1.2 3 _ rfl).2; exact Option.some.inj (hf.symm.trans k4)
  · obtain ⟨kA, comp, k1, k2, k3, k4⟩ := (h.1.2 4 _ rfl).2; exact Option.some.inj (hf.symm.trans k4)
  · obtain ⟨kA, comp, k1, k2, k3, k4⟩ := (h.1.2 5 _ rfl).2; exact Option.some.inj (hf.symm.trans k4)
theorem sv_cnt {n : Nat} (hn : n < 5000) : ¬ Int32.ofInt (n : Int) < 0 ∧ (Int32.ofInt (n : Int)).toNatClampNeg = n := by
  have e : (Int32.ofInt (n : Int)).toInt = n := sv_oi ⟨by omega, by omega⟩
  refine ⟨fun q => ?_, ?_⟩
  · rw [Int32.lt_iff_toInt_lt, e, Int32.toInt_zero] at q; omega
  · rw [← Int32.toNat_toInt, e]; omega
theorem sv_newa (C : sv_C g A own cc nL p s m args meth c) (J : sv_J A s) {K n : Nat} {t : FieldType} {z : Int} {atype : ArrayType} (hd : decode cc pc = .ok (.newarray atype, 2)) (hty : newarray.typeOf atype = t) (ht : t = .int ∨ t = .byte ∨ t = .boolean) (hK : sv_kT K = some (.inr (t, n))) (hz : z = (n : Int)) (hn : n < 5000) (hw : Cond.arrayClass t ∈ lw_good) (hT : sv_TT A ty) (hok : sv_ok ty σ) (hc : cells + 1 ≤ R.cells) (hs : slots + n ≤ R.slots)
    (kk : ∀ q : Nat, ty q = 0 → A q → sv_ok (sv_upt ty q K) (sv_zr σ q) → sv_V p l e R s m args below meth c nL A (cells + 1) (slots + n) Q (sv_H g (sv_upt ty q K) (sv_zr σ q)) (pc + 2) lv (sv_r q :: st)) : sv_V p l e R s m args below meth c nL A cells slots Q (sv_H g ty σ) pc lv (.inl z :: st) := by
  intro H locs ls hH hS hll
  obtain ⟨hx, hb, hml, hown, hts, hKK, hlk⟩ := C
  subst hz
  obtain ⟨c1, c2⟩ := sv_cnt hn
  subst hty
  have hby : n * componentBytes (newarray.typeOf atype) ≤ 536870912 := by
    have : componentBytes (newarray.typeOf atype) ≤ 4 := by rcases ht with h | h | h <;> rw [h] <;> decide
    exact Nat.le_trans (Nat.mul_le_mul (Nat.le_of_lt hn) this) (by decide)
  refine va_newaK hx hb (hts _ hw) rfl hd rfl c1 c2 hby hc hs rfl fun H1 cA e1 z1 o1 hAr hNm => ?_
  have hcA := sv_aC hKK (by rcases ht with h | h | h <;> simp [h]) hNm
  subst hcA
  refine kk H.size (sv_fresh hH hT) (J.1 _ hS.1) (sv_ok_new hok _ _) H1 locs ls (sv_H_new hH ?_ o1) ⟨Nat.le_trans hS.1 (by omega), fun x h1 h2 => (o1 x (Nat.lt_of_lt_of_le h1 hS.1)).trans (hS.2.1 x h1 h2), hS.2.2⟩ hll
  rw [hK]
  show H1[H.size]? = _
  rw [e1]
  congr 2
  funext i
  exact sv_dv0 (by rcases ht with h | h | h <;> rw [h] <;> rfl)
theorem sv_anew (C : sv_C g A own cc nL p s m args meth c) (J : sv_J A s) {K n index : Nat} {N : String} {z : Int} (hN : N = "SaintsRoad$Feast" ∨ N = "SaintsRoad$Place" ∨ N = "SaintsRoad$Procession") (hd : decode cc pc = .ok (.anewarray index, 3)) (hK : sv_kT K = some (.inr (.object N, n))) (hz : z = (n : Int)) (hn : n < 5000) (hw : Cond.classLink own index N ∈ lw_good) (hT : sv_TT A ty) (hok : sv_ok ty σ) (hc : cells + 1 ≤ R.cells) (hs : slots + n ≤ R.slots)
    (kk : ∀ q : Nat, ty q = 0 → A q → sv_ok (sv_upt ty q K) (sv_zr σ q) → sv_V p l e R s m args below meth c nL A (cells + 1) (slots + n) Q (sv_H g (sv_upt ty q K) (sv_zr σ q)) (pc + 3) lv (sv_r q :: st)) : sv_V p l e R s m args below meth c nL A cells slots Q (sv_H g ty σ) pc lv (.inl z :: st) := by
  intro H locs ls hH hS hll
  obtain ⟨hx, hb, hml, hown, hts, hKK, hlk⟩ := C
  subst hz
  obtain ⟨c1, c2⟩ := sv_cnt hn
  have hAO : va_AO N s := by
    rcases hN with rfl | rfl | rfl
    · exact J.2.1.1
    · exact J.2.1.2.1
    · exact J.2.1.2.2
  refine W.anew hx hb hown (hts _ hw) (va_AO.use hAO) rfl hd rfl c1 (by rw [c2]; omega) hc (by rw [c2]; exact hs) fun cA kA comp f1 f2 f3 f4 => ?_
  rw [c2]
  generalize hH1 : H.push ({ cls := cA, slots := Array.replicate n .null, vm := .none } : Cell) = H1
  have z1 : H1.size = H.size + 1 := by rw [← hH1, Array.size_push]
  have e1 : H1[H.size]? = some (arrV cA n (fun _ => .null)) := by rw [← hH1, Array.getElem?_push_size, ← arrV_new]
  have o1 : ∀ q : Nat, q < H.size → H1[q]? = H[q]? := fun q hq => by rw [← hH1, Array.getElem?_push, if_neg (Nat.ne_of_lt hq)]
  have hcA := sv_aC (t := .object N) hKK (by rcases hN with rfl | rfl | rfl <;> simp) f1
  subst hcA
  refine kk H.size (sv_fresh hH hT) (J.1 _ hS.1) (sv_ok_new hok _ _) H1 locs ls (sv_H_new hH ?_ o1) ⟨Nat.le_trans hS.1 (by omega), fun x h1 h2 => (o1 x (Nat.lt_of_lt_of_le h1 hS.1)).trans (hS.2.1 x h1 h2), hS.2.2⟩ hll
  rw [hK]
  show H1[H.size]? = _
  rw [e1]
  rfl
theorem sv_as (C : sv_C g A own cc nL p s m args meth c) {a v n ci : Nat} {i : Int} {r : vw_C} (hr1 : r.1 = "SaintsRoad$Feast" ∨ r.1 = "SaintsRoad$Place" ∨ r.1 = "SaintsRoad$Procession") (hd : decode cc pc = .ok (.aastore, 1)) (hk : sv_kT (ty a) = some (.inr (.object r.1, n))) (hv : sv_kT (ty v) = some (.inl ci)) (hr : vwCl[ci]? = some r) (hn : n < 5000) (h0 : 0 ≤ i) (h1 : i < n) (hA : A a) (hok : sv_ok ty σ)
    (kk : sv_ok ty (sv_up σ a i.toNat ((v : Int) + 1)) → sv_V p l e R s m args below meth c nL A cells slots Q (sv_H g ty (sv_up σ a i.toNat ((v : Int) + 1))) (pc + 1) lv rest) : sv_V p l e R s m args below meth c nL A cells slots Q (sv_H g ty σ) pc lv (sv_r v :: .inl i :: sv_r a :: rest) := by
  intro H locs ls hH hS hl
  obtain ⟨hx, hb, hml, hown, hts, hK, hlk⟩ := C
  have h2 := hH a
  rw [hk] at h2
  obtain ⟨e1, e2⟩ := sv_idx h0 h1 (by omega)
  have h3 := hH v
  rw [hv] at h3
  obtain ⟨r', hr', cellV, g1, g2, g3, -⟩ := h3
  have hcls := (hK.1.1 ci r hr).2
  have hRA : va_RA s (g.2.1 (.object r.1)) (.object r.1) := by
    rcases hr1 with e | e | e <;> rw [e]
    · exact (hK.1.2 3 _ rfl).2
    · exact (hK.1.2 4 _ rfl).2
    · exact (hK.1.2 5 _ rfl).2
  obtain ⟨kA, comp, k1, k2, k3, -⟩ := hRA
  have hcomp : comp = g.1.1 ci := Option.some.inj (k3.symm.trans hcls.1)
  subst hcomp
  obtain ⟨kC, hkC, -⟩ := hcls.2
  refine W.aast hx hb h2 (fun q h => by cases h) (fun h => by cases h) k1 k2 rfl hkC ⟨fun q => e1 (Or.inl q), by rw [arrV_size]; exact Nat.not_le.mp fun q => e1 (Or.inr q)⟩ g1 (fun q h => by rw [g3] at h; cases h) (by rw [g2]; exact hkC) (by rw [g2]; exact va_assign hcls) rfl rfl hd fun H1 f1 f2 f3 => ?_
  rw [e2] at f1 ⊢
  exact kk (sv_ok_up hok (by rw [hk]; show (0 : Int) ≤ _; omega)) H1 _ ls (sv_H_st (z := (v : Int) + 1) hH hk f1 f3) (hS.put f2 f3 hA) hl
theorem sv_pff (C : sv_C g A own cc nL p s m args meth c) (hin : meth.name = "<init>") {a ci k index : Nat} {r : vw_C} {v : sv_T} {z : Int} (hd : decode cc pc = .ok (.putfield index, 3)) (hk : sv_kT (ty a) = some (.inl ci)) (hr : vwCl[ci]? = some r) (hkn : k < r.2.2) (hfin : (r.2.1 k).2.2.2 = true) (hdecl : (r.2.1 k).1 = own) (hw : Cond.fieldLink own index (r.2.1 k).1 (r.2.1 k).2.1 (r.2.1 k).2.2.1 ∈ lw_good) (hv : sv_of (sv_ft ci k) z = v)
    (ht : sv_ft ci k = .int ∨ sv_ft ci k = .boolean ∨ sv_ft ci k = .byte ∨ sv_ft ci k = .long ∨ (∃ n, sv_ft ci k = .object n) ∨ ∃ x, sv_ft ci k = .array x) (hz : sv_rg (sv_ft ci k) z) (hA : A a) (hok : sv_ok ty σ)
    (kk : sv_ok ty (sv_up σ a k z) → sv_V p l e R s m args below meth c nL A cells slots Q (sv_H g ty (sv_up σ a k z)) (pc + 3) lv rest) : sv_V p l e R s m args below meth c nL A cells slots Q (sv_H g ty σ) pc lv (v :: sv_r a :: rest) := by
  intro H locs ls hH hS hl
  obtain ⟨hx, hb, hml, hown, hts, hK, hlk⟩ := C
  have h1 := hH a
  rw [hk] at h1
  obtain ⟨r', hr', cell, q1, q2, q3, q4⟩ := h1
  cases hr.symm.trans hr'
  obtain ⟨cw, cn, ct⟩ := sv_cls hr
  have hap := va_apart (own := own) hts cw (sv_ft ci) ct cn hK.1 hr
  obtain ⟨hS', hfc, kC, hkC, hkind⟩ := hK.1.1 ci _ hr
  obtain ⟨cf, kf, fi, f, hi, hsl⟩ := hS' k hkn
  have hlay := hts _ (cw _ (u_in_lay hkn))
  unfold u_lay at hlay
  rw [if_pos hfin] at hlay
  have hst := (u_facts hfc hkC (u_lays hts cw hkn) hi).1
  have hcf : m.cls = cf := by
    obtain ⟨_, _, c', _, _, _, -, -, hf', -, -, -, hown2, -⟩ := Cond.laysFinal_spec hlay
    have e1 : c' = cf := by have := hi.symm.trans hf'; simp at this; exact this.1.symm
    rw [hdecl] at hown2
    rw [← e1]; exact Option.some.inj (hown.symm.trans hown2)
  obtain ⟨n1, n2⟩ := sv_nar ht hz
  have h6 := u_fits hfc hkC hkind (Or.inr hlay) hi (ct k hkn) n1 n2
  subst hv
  rw [List.map_cons, sv_of_den]
  refine W.putFinK hx hb hown (hts _ hw) hi hst hcf hin (by rw [q2]; exact h6) q1 q3 (by rw [hsl]; exact k2_hasslot (q4 k hkn)) rfl rfl hd fun H' e1 e2 e3 => ?_
  rw [hsl] at e1 ⊢
  exact kk (sv_ok_up hok (by rw [hk]; exact hz)) H' _ ls (sv_H_up hH hk hr ⟨_, e1, q2, q3, t_set q4 hap hkn _⟩ e3) (hS.put e2 e3 hA) hl
theorem sv_oin (C : sv_C g A own cc nL p s m args meth c) {index a : Nat} (hd : decode cc pc = .ok (.invokespecial index, 3)) (hl : Cond.methodLink own index Lib.objectInit ∈ lw_good) (hi : Cond.instanceMethod Lib.objectInit ∈ lw_good) (hco : Cond.code Lib.objectInit ⟨#[0xb1]⟩ 1 none ∈ lw_good) (hf : 1 ≤ R.frames) (hlo : 12 ≤ R.locals) {Hp : Heap → Prop}
    (kk : sv_V p l e R s m args below meth c nL A cells slots Q Hp (pc + 3) lv []) : sv_V p l e R s m args below meth c nL A cells slots Q Hp pc lv [sv_r a] := by
  intro H locs ls hH hS hll
  obtain ⟨hx, hb, hml, hown, hts, hK, hlk⟩ := C
  exact W.objInit hx hb hown (hts _ hl) (hts _ hi) (hts _ hco) rfl (by rw [hml]; exact hll.1) (a := a) rfl hd hf (by simpa [JFrame.monitorRoom] using hlo) (kk H locs ls hH hS hll)
end SVN
