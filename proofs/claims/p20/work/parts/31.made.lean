/-- the numbers of a fresh object -/
def sp_0 : sv_Sp
  | 2, 1 => some (.inl (0, 0)) | 3, 0 => some (.inl (0, 0)) | 3, 1 => some (.inl (-1, -1)) | 4, 10 => some (.inl (0, 0)) | 5, 1 => some (.inl (0, 0)) | 5, 2 => some (.inl (0, 0)) | 6, 1 => some (.inl (0, 0)) | 9, 0 => some (.inl (0, 0))
  | 10, 17 => some (.inl (0, 0)) | 10, 23 => some (.inl (0, 0)) | 10, 24 => some (.inl (-1, -1)) | 10, 40 => some (.inl (0, 0))
  | 30, _ => some (.inl (0, 0)) | 31, _ => some (.inl (0, 0)) | 38, _ => some (.inl (0, 0)) | 60, _ => some (.inl (0, 0)) | 63, _ => some (.inl (0, 0)) | 93, _ => some (.inl (0, 0)) | 98, _ => some (.inl (0, 0)) | 101, _ => some (.inl (0, 0)) | 102, _ => some (.inl (0, 0))
  | _, _ => none
/-! constructors: what they leave, and their contracts -/
def sv_fi (ty : Nat → Nat) (row : Nat → Int) (K : Nat) : Prop := ∀ k, sv_sat ty (sp_1 K k) (row k) ∧ sv_sat ty (sp_0 K k) (row k)
/-- from one store to a later one: kinds stay, old rows stay but those of X, new cells are as a fresh world's but those of X -/
def sv_gx (A : Nat → Prop) (X : Nat → Prop) (ty0 : Nat → Nat) (σ0 : Nat → Nat → Int) (ty : Nat → Nat) (σ : Nat → Nat → Int) : Prop :=
  (∀ x, ty0 x ≠ 0 → ty x = ty0 x) ∧ (∀ x, ty0 x ≠ 0 → ¬ X x → σ x = σ0 x) ∧ (∀ x, ty0 x = 0 → ¬ X x → sv_fi ty (σ x) (ty x)) ∧ sv_TT A ty ∧ sv_ok ty σ
def sv_nz : Option ((Int × Int) ⊕ (Nat × Bool)) → Bool
  | some (.inr (K, _)) => decide (K ≠ 0)
  | _ => true
theorem sp_1_nz (K k : Nat) : sv_nz (sp_1 K k) = true := by
  unfold sp_1
  split <;> (try split) <;> simp [sv_nz]
theorem sp_0_nz (K k : Nat) : sv_nz (sp_0 K k) = true := by
  unfold sp_0
  split <;> rfl
theorem sv_sat.ext {ty ty' : Nat → Nat} (h : ∀ x, ty x ≠ 0 → ty' x = ty x) {o : Option ((Int × Int) ⊕ (Nat × Bool))} {z : Int} (ho : sv_nz o = true) (hs : sv_sat ty o z) : sv_sat ty' o z := by
  match o, ho, hs with
  | none, _, _ => exact trivial
  | some (.inl (lo, hi)), _, hs => exact hs
  | some (.inr (K, nl)), ho, hs =>
    rcases hs with hs | ⟨q, h1, h2⟩
    · exact Or.inl hs
    · have hK : K ≠ 0 := of_decide_eq_true ho
      exact Or.inr ⟨q, h1, by rw [h q (by rw [h2]; exact hK)]; exact h2⟩
theorem sv_fi.ext {ty ty' : Nat → Nat} (h : ∀ x, ty x ≠ 0 → ty' x = ty x) {row : Nat → Int} {K : Nat} (hf : sv_fi ty row K) : sv_fi ty' row K := fun k => ⟨(hf k).1.ext h (sp_1_nz K k), (hf k).2.ext h (sp_0_nz K k)⟩
def sv_zo : Option ((Int × Int) ⊕ (Nat × Bool)) → Bool
  | none => true
  | some (.inl (lo, hi)) => decide (lo ≤ 0 ∧ 0 ≤ hi)
  | some (.inr (_, nl)) => nl
theorem sv_zo.sat {ty : Nat → Nat} {o : Option ((Int × Int) ⊕ (Nat × Bool))} (h : sv_zo o = true) : sv_sat ty o 0 := by
  match o, h with
  | none, _ => exact trivial
  | some (.inl (lo, hi)), h => exact of_decide_eq_true (p := lo ≤ 0 ∧ 0 ≤ hi) h
  | some (.inr (K, nl)), h => exact Or.inl ⟨h, rfl⟩
def sv_zz (K k : Nat) : Bool := sv_zo (sp_1 K k) && sv_zo (sp_0 K k)
theorem sv_zz.sat {ty : Nat → Nat} {K k : Nat} (h : sv_zz K k = true) : sv_sat ty (sp_1 K k) 0 ∧ sv_sat ty (sp_0 K k) 0 := by
  unfold sv_zz at h
  rw [Bool.and_eq_true] at h
  exact ⟨sv_zo.sat h.1, sv_zo.sat h.2⟩
theorem sv_zend {K n : Nat} (h : ∀ k, k < 60 → n ≤ k → sv_zz K k = true) (h2 : ∀ k, sv_zz K (k + 60) = true) (k : Nat) (hk : n ≤ k) : sv_zz K k = true := by
  by_cases e : k < 60
  · exact h k e hk
  · have := h2 (k - 60)
    rw [show k - 60 + 60 = k by omega] at this
    exact this
theorem sv_z10 (k : Nat) : sv_zz 10 (k + 60) = true := by
  unfold sv_zz
  rw [show sp_1 10 (k + 60) = none from rfl]
  rfl
theorem sv_gx.new {A X X' : Nat → Prop} {ty0 ty : Nat → Nat} {σ0 σ : Nat → Nat → Int} {q K : Nat} (h : sv_gx A X ty0 σ0 ty σ) (hq : ty q = 0) (hA : A q) (hk : sv_kT K ≠ none) (hX : ∀ x, X x → X' x) (hf : ¬ X' q → ∀ k, sv_zz K k = true) : sv_gx A X' ty0 σ0 (sv_upt ty q K) (sv_zr σ q) := by
  obtain ⟨h1, h2, h3, h4, h5⟩ := h
  have hx : ∀ y, ty y ≠ 0 → sv_upt ty q K y = ty y := fun y hy => sv_upt_n (fun e => hy (by rw [e]; exact hq))
  have h0 : ∀ x, ty0 x ≠ 0 → x ≠ q := fun x hx e => by
    have := h1 x hx
    rw [e] at this hx
    exact hx (this.symm.trans hq)
  refine ⟨fun x hx0 => ?_, fun x hx0 hn => ?_, fun x hx0 hn => ?_, fun x hx0 => ?_, sv_ok_new h5 _ _⟩
  · rw [sv_upt_n (h0 x hx0)]; exact h1 x hx0
  · rw [sv_zr_n (h0 x hx0)]; exact h2 x hx0 (fun q => hn (hX x q))
  · by_cases e : x = q
    · subst e
      rw [sv_upt_s, show sv_zr σ x x = fun _ => 0 from funext fun k => sv_zr_s σ _ k]
      exact fun k => sv_zz.sat (hf hn k)
    · rw [sv_upt_n e, sv_zr_n e]
      exact (h3 x hx0 (fun q => hn (hX x q))).ext hx
  · by_cases e : x = q
    · subst e
      rw [sv_upt_s]
      exact ⟨hk, hA⟩
    · rw [sv_upt_n e] at hx0 ⊢
      exact h4 x hx0
/-- what a constructor of a leaves -/
def sv_po (A : Nat → Prop) (a K : Nat) (ty : Nat → Nat) (σ : Nat → Nat → Int) (ty' : Nat → Nat) (σ' : Nat → Nat → Int) : Prop := sv_gx A (fun x => x = a) ty σ ty' σ' ∧ ty' a = K ∧ sv_fi ty' (σ' a) K
theorem sv_gx.call {A X : Nat → Prop} {ty0 ty ty' : Nat → Nat} {σ0 σ σ' : Nat → Nat → Int} {q K : Nat} (h : sv_gx A (fun x => X x ∨ x = q) ty0 σ0 ty σ) (h0 : ty0 q = 0) (hc : sv_po A q K ty σ ty' σ') : sv_gx A X ty0 σ0 ty' σ' := by
  obtain ⟨h1, h2, h3, -, -⟩ := h
  obtain ⟨⟨c1, c2, c3, c4, c5⟩, d1, d2⟩ := hc
  refine ⟨fun x hx => ?_, fun x hx hn => ?_, fun x hx hn => ?_, c4, c5⟩
  · rw [c1 x (by rw [h1 x hx]; exact hx)]; exact h1 x hx
  · have e : x ≠ q := fun e => hx (by rw [e]; exact h0)
    rw [c2 x (by rw [h1 x hx]; exact hx) e]
    exact h2 x hx (fun z => z.elim hn e)
  · by_cases e : x = q
    · subst e; rw [d1]; exact d2
    · by_cases e2 : ty x = 0
      · exact c3 x e2 e
      · rw [c2 x e2 e, c1 x e2]
        exact (h3 x hx (fun z => z.elim hn e)).ext c1
theorem sv_gx.put {A X : Nat → Prop} {ty0 ty : Nat → Nat} {σ0 σ : Nat → Nat → Int} {a k : Nat} {z : Int} (h : sv_gx A X ty0 σ0 ty σ) (ha : X a) (hok : sv_ok ty (sv_up σ a k z)) : sv_gx A X ty0 σ0 ty (sv_up σ a k z) := by
  obtain ⟨h1, h2, h3, h4, h5⟩ := h
  refine ⟨h1, fun x hx hn => ?_, fun x hx hn => ?_, h4, hok⟩
  · rw [sv_up_row (fun e => hn (by rw [e]; exact ha))]; exact h2 x hx hn
  · rw [sv_up_row (fun e => hn (by rw [e]; exact ha))]; exact h3 x hx hn
/-- a cell of which the first n places are as they must be, and the rest is 0 -/
def sv_hf (ty : Nat → Nat) (row : Nat → Int) (K n : Nat) : Prop := (∀ k, k < n → sv_sat ty (sp_1 K k) (row k) ∧ sv_sat ty (sp_0 K k) (row k)) ∧ ∀ k, n ≤ k → row k = 0
theorem sv_hf.ext {ty ty' : Nat → Nat} (h : ∀ x, ty x ≠ 0 → ty' x = ty x) {row : Nat → Int} {K n : Nat} (hf : sv_hf ty row K n) : sv_hf ty' row K n := ⟨fun k hk => ⟨(hf.1 k hk).1.ext h (sp_1_nz K k), (hf.1 k hk).2.ext h (sp_0_nz K k)⟩, hf.2⟩
theorem sv_hf.done {ty : Nat → Nat} {row : Nat → Int} {K n : Nat} (hf : sv_hf ty row K n) (h : ∀ k, n ≤ k → sv_zz K k = true) : sv_fi ty row K := fun k => by
  by_cases e : k < n
  · exact hf.1 k e
  · rw [hf.2 k (by omega)]
    exact sv_zz.sat (h k (by omega))
theorem sv_hf.put {ty : Nat → Nat} {σ : Nat → Nat → Int} {a K n k : Nat} {z : Int} (hf : sv_hf ty (σ a) K n) (hk : n ≤ k) (hg : ∀ j, j < k → n ≤ j → sv_zz K j = true) (hs : sv_sat ty (sp_1 K k) z ∧ sv_sat ty (sp_0 K k) z) : sv_hf ty (sv_up σ a k z a) K (k + 1) := by
  refine ⟨fun j hj => ?_, fun j hj => ?_⟩
  · by_cases e : j = k
    · subst e; rw [sv_up_s]; exact hs
    · rw [sv_up_k e]
      by_cases e2 : j < n
      · exact hf.1 j e2
      · rw [hf.2 j (by omega)]
        exact sv_zz.sat (hg j (by omega) (by omega))
  · rw [sv_up_k (by omega)]; exact hf.2 j (by omega)
/-- inside a constructor of a -/
def sv_S (A : Nat → Prop) (a K n : Nat) (X : Nat → Prop) (ty0 : Nat → Nat) (σ0 : Nat → Nat → Int) (ty : Nat → Nat) (σ : Nat → Nat → Int) : Prop :=
  sv_gx A (fun x => x = a ∨ X x) ty0 σ0 ty σ ∧ ty a = K ∧ K ≠ 0 ∧ sv_hf ty (σ a) K n ∧ ∀ x, X x → ty x ≠ 0
theorem sv_S.start {A : Nat → Prop} {a K : Nat} {ty : Nat → Nat} {σ : Nat → Nat → Int} (hT : sv_TT A ty) (hok : sv_ok ty σ) (ha : ty a = K) (hK : K ≠ 0) (hz : ∀ k, σ a k = 0) : sv_S A a K 0 (fun _ => False) ty σ ty σ :=
  ⟨⟨fun _ _ => rfl, fun _ _ _ => rfl, fun x hx _ k => by rw [hx]; exact ⟨trivial, trivial⟩, hT, hok⟩, ha, hK, ⟨fun k hk => absurd hk (Nat.not_lt_zero k), fun k _ => hz k⟩, fun _ h => h.elim⟩
theorem sv_S.done {A : Nat → Prop} {a K n : Nat} {ty0 ty : Nat → Nat} {σ0 σ : Nat → Nat → Int} (h : sv_S A a K n (fun _ => False) ty0 σ0 ty σ) (he : ∀ k, n ≤ k → sv_zz K k = true) : sv_po A a K ty0 σ0 ty σ := by
  obtain ⟨⟨h1, h2, h3, h4, h5⟩, ha, hK, hf, -⟩ := h
  exact ⟨⟨h1, fun x a b => h2 x a (fun q => q.elim b id), fun x a b => h3 x a (fun q => q.elim b id), h4, h5⟩, ha, hf.done he⟩
theorem sv_S.close {A : Nat → Prop} {a K n b : Nat} {ty0 ty : Nat → Nat} {σ0 σ : Nat → Nat → Int} (h : sv_S A a K n (fun x => x = b) ty0 σ0 ty σ) (hb0 : ty0 b = 0) (hb : sv_fi ty (σ b) (ty b)) : sv_S A a K n (fun _ => False) ty0 σ0 ty σ := by
  obtain ⟨⟨h1, h2, h3, h4, h5⟩, ha, hK, hf, -⟩ := h
  refine ⟨⟨h1, fun x hx q => h2 x hx (fun z => z.elim (fun e => q (Or.inl e)) (fun e => hx (by rw [e]; exact hb0))), fun x hx q => ?_, h4, h5⟩, ha, hK, hf, fun _ h => h.elim⟩
  by_cases e : x = b
  · subst e; exact hb
  · exact h3 x hx (fun z => z.elim (fun e => q (Or.inl e)) e)
/-! contracts -/
def sv_PN (g : sv_G) (A : Nat → Prop) (ty : Nat → Nat) (σ : Nat → Nat → Int) (av : List sv_T) : Array Value → State → Prop := fun a U => sv_P g A ty σ av a U ∧ sv_J A U
def sv_QN (g : sv_G) (A : Nat → Prop) (po : (Nat → Nat) → (Nat → Nat → Int) → Prop) : Array Value → State → Outcome → State → Prop := fun _ st oc t => oc = .returned none ∧ (∃ (ty' : Nat → Nat) (σ' : Nat → Nat → Int), po ty' σ' ∧ sv_H g ty' σ' t.heap) ∧ va_F A st t
def sv_NN (l : Launch) (y : MethodName) (cc : ByteArray) (n fr lo mc ms : Nat) (g : sv_G) (A : Nat → Prop) (ty : Nat → Nat) (σ : Nat → Nat → Int) (av : List sv_T) (po : (Nat → Nat) → (Nat → Nat → Int) → Prop) : Prop :=
  Met l y (Cond.code y cc n none :: lw_good) { frames := fr, cells := mc, slots := ms, locals := lo } (sv_PN g A ty σ av) (sv_QN g A po) mc ms A
theorem sv_enterN {l : Launch} {y : MethodName} {cc : ByteArray} {n fr lo mc ms : Nat} {g : sv_G} {A : Nat → Prop} {ty : Nat → Nat} {σ : Nat → Nat → Int} {av : List sv_T} {po : (Nat → Nat) → (Nat → Nat → Int) → Prop} (hy : plainName y.cls = true) (hn : (lg_sl (av.map sv_den)).length ≤ n)
    (body : ∀ p e s m args below meth c, sv_C g A y.cls cc n p s m args meth c → sv_J A s → meth.sig.returnType = none → meth.name = y.name → sv_V p l e { frames := fr, cells := mc, slots := ms, locals := lo } s m args below meth c n A 0 0 (MQ below (sv_QN g A po) args s mc ms A) (sv_H g ty σ) 0 (sv_av 0 av) []) : sv_NN l y cc n fr lo mc ms g A ty σ av po := by
  refine Met.ofW (cc := cc) (maxL := n) (ret := none) hy rfl ?_
  intro p e s m args below meth c s₁ B hml hv
  obtain ⟨⟨rfl, hH, hK⟩, hJ⟩ := hv
  have hts := atoms_spec (ws := Cond.code y cc n none :: lw_good) B.pre
  have hown : s.vm.findClass y.cls = some m.cls := findClass_of_methodNamed B.named
  have hl := lv_entry (av.map sv_den) (n := n) hn
  rw [lg_entry_eq]
  rw [sv_av_eq] at hl
  exact body p e s m _ below meth c ⟨B.exec, B.bytes, hml, hown, fun w hw => hts w (List.mem_cons_of_mem _ hw), hK, B.notSynchronized⟩ hJ B.returns (name_of_methodNamed B.named B.method).1 s.heap [] _ hH va_S.rf hl
section SVM
variable {p : Program} {l : Launch} {e : Env} {R : Room} {s : State} {m : MethodId} {args : Array Value} {below : List Frame} {meth : Method} {c : Code} {cells slots : Nat} {Q : State → Prop}
variable {cc : ByteArray} {pc nL : Nat} {A : Nat → Prop} {lv lv' : sv_L} {st st' rest : List sv_T} {g : sv_G} {own : String} {ty : Nat → Nat} {σ : Nat → Nat → Int} {po : (Nat → Nat) → (Nat → Nat → Int) → Prop}
theorem sv_nret (C : sv_C g A own cc nL p s m args meth c) (hr : meth.sig.returnType = none) {MC MS : Nat} (hd : decode cc pc = .ok (.return_, 1)) (hc : cells = MC) (hs : slots = MS) (hpo : po ty σ) : sv_V p l e R s m args below meth c nL A cells slots (MQ below (sv_QN g A po) args s MC MS A) (sv_H g ty σ) pc lv [] := by
  subst hc; subst hs
  exact fun H locs ls hH hS hl => W.vret C.1 C.2.1 hr (fun t ht _ => ⟨rfl, ⟨ty, σ, hpo, by rw [ht]; exact hH⟩, hS.F ht⟩) hS.2.2 hd C.2.2.2.2.2.2
theorem sv_PNblind {av : List sv_T} : FrameBlind (sv_PN g A ty σ av) := fun a U gf mk q => ⟨⟨q.1.1, q.1.2.1, q.1.2.2.calling⟩, q.2.calling⟩
theorem sv_PNat {H : Heap} {locs : List Loc} {av : List sv_T} (hK : sv_K g A s) (hJ : sv_J A s) (hH : sv_H g ty σ H) (hS : va_S A s.heap H locs) (U : State) (hU : U.heap = H) (hW : s.WarmedH U.vm) : sv_PN g A ty σ av (av.map sv_den).toArray U :=
  ⟨sv_Pat hK hH hS U hU hW, hJ.warm hW (by rw [hU]; exact hS.1) (fun a h1 h2 => by rw [hU]; exact hS.2.1 a h1 h2)⟩
theorem sv_contN {mc ms : Nat} {lv : sv_L} {H : Heap} {locs : List Loc} {ls : Array Slot} {av : Array Value} {st0 : List Value} (hr : va_Run p l e R s m args below meth c H locs cells slots mc ms (F0 m pc ls st0) (rest.map sv_den) (sv_QN g A po av) A) (hS : va_S A s.heap H locs) (hl : lv_has ls nL (sv_lm lv))
    (kk : ∀ (ty' : Nat → Nat) (σ' : Nat → Nat → Int), po ty' σ' → sv_V p l e R s m args below meth c nL A (cells + mc) (slots + ms) Q (sv_H g ty' σ') (pc + 3) lv rest) : W p l e R s m args below meth c H locs cells slots Q (F0 m pc ls st0) := by
  intro T hT X
  obtain ⟨v, st₀, t, T', L, h0, X', hL, e1, e2, ⟨hv, ⟨ty', σ', hp, hH'⟩, hz, hk⟩, stp⟩ := hr T hT X
  rw [h0] at hz hk
  have hv' : v = none := Outcome.returned.inj hv
  subst hv'
  have hS' : va_S A s.heap T'.heap (locs ++ L) := ⟨Nat.le_trans hS.1 (by rw [e1]; exact hz), fun q h1 h2 => by rw [e1, hk q (Nat.lt_of_lt_of_le h1 hS.1) h2]; exact hS.2.1 q h1 h2, fun q hq => by
    rcases List.mem_append.mp hq with h | h
    · exact hS.2.2 q h
    · exact hL q h⟩
  obtain ⟨t2, a1, b1⟩ := kk ty' σ' hp T'.heap (locs ++ L) ls (by rw [e1]; exact hH') hS' hl T' rfl X'
  exact ⟨t2, stp t2 a1, b1⟩
theorem sv_ci (C : sv_C g A own cc nL p s m args meth c) (J : sv_J A s) {y : MethodName} {bytes : ByteArray} {n fr lo mc ms k index a : Nat} {as : List sv_T} (hd : decode cc pc = .ok (.invokespecial index, 3)) (hM : sv_NN l y bytes n fr lo mc ms g A ty σ (sv_r a :: as) po) (hb : sv_cb R y bytes n none fr lo k) (hl : Cond.methodLink own index y ∈ lw_good) (hi : Cond.instanceMethod y ∈ lw_good) (hnm : y.name = "<init>") (hn : as.length = k) (hst : st = as.reverse ++ sv_r a :: rest) (hrm : (rest.map fun v => (sv_den v).category).sum ≤ 8) (hcs : cells + mc ≤ R.cells ∧ slots + ms ≤ R.slots)
    (kk : ∀ (ty' : Nat → Nat) (σ' : Nat → Nat → Int), po ty' σ' → sv_V p l e R s m args below meth c nL A (cells + mc) (slots + ms) Q (sv_H g ty' σ') (pc + 3) lv rest) : sv_V p l e R s m args below meth c nL A cells slots Q (sv_H g ty σ) pc lv st := by
  intro H locs ls hH hS hll
  subst hst
  exact sv_contN (va_runI (b := a) (As := as.map sv_den) ⟨C.1, C.2.1, C.2.2.1, C.2.2.2.1, C.2.2.2.2.1⟩ hM ⟨callB_of k C.2.2.2.2.1 (sv_goodIn hb.1) rfl rfl rfl (C.2.2.2.2.1 _ hb.2.1) (C.2.2.2.2.1 _ hl) hb.2.2.1 ⟨hb.2.2.2.1, hb.2.2.2.2⟩, hnm, C.2.2.2.2.1 _ hi⟩ ⟨sv_PNblind, fun U hU hW => sv_PNat (av := sv_r a :: as) C.2.2.2.2.2.1 J hH hS U hU hW⟩ rfl (by rw [List.length_map]; exact hn) hll.1 (by simp [sv_den_r]) (sv_room hrm) hd hcs) hS hll kk
theorem sv_ciN (C : sv_C g A own cc nL p s m args meth c) (J : sv_J A s) {y : MethodName} {bytes : ByteArray} {n fr lo mc ms k index a : Nat} {host : String} {as : List sv_T} (hd : decode cc pc = .ok (.invokespecial index, 3)) (hM : sv_NN l y bytes n fr lo mc ms g A ty σ (sv_r a :: as) po) (hb : sv_cb R y bytes n none fr lo k) (hl : Cond.methodLinkNest own index y host ∈ sv_nest) (hi : Cond.instanceMethod y ∈ lw_good) (hnm : y.name = "<init>") (hn : as.length = k) (hst : st = as.reverse ++ sv_r a :: rest) (hrm : (rest.map fun v => (sv_den v).category).sum ≤ 8) (hcs : cells + mc ≤ R.cells ∧ slots + ms ≤ R.slots)
    (kk : ∀ (ty' : Nat → Nat) (σ' : Nat → Nat → Int), po ty' σ' → sv_V p l e R s m args below meth c nL A (cells + mc) (slots + ms) Q (sv_H g ty' σ') (pc + 3) lv rest) : sv_V p l e R s m args below meth c nL A cells slots Q (sv_H g ty σ) pc lv st := by
  intro H locs ls hH hS hll
  subst hst
  exact sv_contN (va_runIN (b := a) (As := as.map sv_den) ⟨C.1, C.2.1, C.2.2.1, C.2.2.2.1, C.2.2.2.2.1⟩ hM ⟨va_cnB k C.2.2.2.2.1 (sv_goodIn hb.1) rfl rfl rfl (C.2.2.2.2.2.1.2.1 _ hl) (C.2.2.2.2.1 _ hb.2.1) hb.2.2.1 ⟨hb.2.2.2.1, hb.2.2.2.2⟩, hnm, C.2.2.2.2.1 _ hi⟩ ⟨sv_PNblind, fun U hU hW => sv_PNat (av := sv_r a :: as) C.2.2.2.2.2.1 J hH hS U hU hW⟩ rfl (by rw [List.length_map]; exact hn) hll.1 (by simp [sv_den_r]) (sv_room hrm) hd hcs) hS hll kk
/-! rows inside a constructor -/
variable {a K n : Nat} {X : Nat → Prop} {ty0 : Nat → Nat} {σ0 : Nat → Nat → Int}
/-- what stays when a cell is made -/
abbrev sv_kp (ty : Nat → Nat) (σ : Nat → Nat → Int) (ty' : Nat → Nat) (σ' : Nat → Nat → Int) : Prop := ∀ x, ty x ≠ 0 → ty' x = ty x ∧ σ' x = σ x
theorem sv_S.new {q Kq : Nat} {X' : Nat → Prop} (G : sv_S A a K n X ty0 σ0 ty σ) (hq : ty q = 0) (hA : A q) (hk : sv_kT Kq ≠ none) (hKq : Kq ≠ 0) (hX : ∀ x, X x → X' x) (hX' : ∀ x, X' x → X x ∨ x = q) (hf : ¬ X' q → ∀ k, sv_zz Kq k = true) : sv_S A a K n X' ty0 σ0 (sv_upt ty q Kq) (sv_zr σ q) ∧ sv_kp ty σ (sv_upt ty q Kq) (sv_zr σ q) := by
  obtain ⟨h1, ha, hK, hh, hx⟩ := G
  have hne : ∀ y, ty y ≠ 0 → y ≠ q := fun y hy e => hy (by rw [e]; exact hq)
  have haq : a ≠ q := hne a (by rw [ha]; exact hK)
  refine ⟨⟨h1.new hq hA hk (fun x z => z.imp id (hX x)) (fun z k => hf (fun w => z (Or.inr w)) k), by rw [sv_upt_n haq]; exact ha, hK, ?_, fun x z => ?_⟩, fun x hx0 => ⟨sv_upt_n (hne x hx0), sv_zr_n (hne x hx0)⟩⟩
  · rw [sv_zr_n haq]
    exact hh.ext fun x hx0 => sv_upt_n (hne x hx0)
  · rcases hX' x z with w | w
    · rw [sv_upt_n (hne x (hx x w))]; exact hx x w
    · rw [w, sv_upt_s]; exact hKq
theorem sv_newaG (C : sv_C g A own cc nL p s m args meth c) (J : sv_J A s) (G : sv_S A a K n X ty0 σ0 ty σ) {Kq N : Nat} {t : FieldType} {z : Int} {atype : ArrayType} (hd : decode cc pc = .ok (.newarray atype, 2)) (hty : newarray.typeOf atype = t) (ht : t = .int ∨ t = .byte ∨ t = .boolean) (hK : sv_kT Kq = some (.inr (t, N))) (hz : z = (N : Int)) (hn : N < 5000) (hw : Cond.arrayClass t ∈ lw_good) (hK0 : Kq ≠ 0) (hKq : ∀ k, sv_zz Kq k = true) (hc : cells + 1 ≤ R.cells) (hs : slots + N ≤ R.slots)
    (kk : ∀ (q : Nat) (ty' : Nat → Nat) (σ' : Nat → Nat → Int), sv_S A a K n X ty0 σ0 ty' σ' → ty0 q = 0 → ty' q = Kq → sv_kp ty σ ty' σ' → sv_V p l e R s m args below meth c nL A (cells + 1) (slots + N) Q (sv_H g ty' σ') (pc + 2) lv (sv_r q :: st)) : sv_V p l e R s m args below meth c nL A cells slots Q (sv_H g ty σ) pc lv (.inl z :: st) := by
  refine sv_newa C J hd hty ht hK hz hn hw G.1.2.2.2.1 G.1.2.2.2.2 hc hs fun q hq hA hok => ?_
  obtain ⟨g1, g2⟩ := G.new (X' := X) hq hA (by rw [hK]; exact fun h => by cases h) hK0 (fun _ h => h) (fun _ h => Or.inl h) (fun _ k => hKq k)
  exact kk q _ _ g1 (by
    by_cases h : ty0 q = 0
    · exact h
    · exact absurd ((G.1.1 q h).symm.trans hq) h) (sv_upt_s _ _ _) g2
theorem sv_anewG (C : sv_C g A own cc nL p s m args meth c) (J : sv_J A s) (G : sv_S A a K n (fun _ => False) ty0 σ0 ty σ) {Kq Nn index : Nat} {N : String} {z : Int} (hN : N = "SaintsRoad$Feast" ∨ N = "SaintsRoad$Place" ∨ N = "SaintsRoad$Procession") (hd : decode cc pc = .ok (.anewarray index, 3)) (hK : sv_kT Kq = some (.inr (.object N, Nn))) (hz : z = (Nn : Int)) (hn : Nn < 5000) (hw : Cond.classLink own index N ∈ lw_good) (hKq : Kq ≠ 0) (hc : cells + 1 ≤ R.cells) (hs : slots + Nn ≤ R.slots)
    (kk : ∀ (q : Nat) (ty' : Nat → Nat) (σ' : Nat → Nat → Int), sv_S A a K n (fun x => x = q) ty0 σ0 ty' σ' → ty0 q = 0 → ty' q = Kq → sv_hf ty' (σ' q) Kq 0 → q ≠ a → sv_V p l e R s m args below meth c nL A (cells + 1) (slots + Nn) Q (sv_H g ty' σ') (pc + 3) lv (sv_r q :: st)) : sv_V p l e R s m args below meth c nL A cells slots Q (sv_H g ty σ) pc lv (.inl z :: st) := by
  refine sv_anew C J hN hd hK hz hn hw G.1.2.2.2.1 G.1.2.2.2.2 hc hs fun q hq hA hok => ?_
  obtain ⟨g1, g2⟩ := G.new (X' := fun x => x = q) hq hA (by rw [hK]; exact fun h => by cases h) hKq (fun _ h => h.elim) (fun _ h => Or.inr h) (fun h => absurd rfl h)
  refine kk q _ _ g1 ?_ (sv_upt_s _ _ _) ⟨fun k hk => absurd hk (Nat.not_lt_zero k), fun k _ => sv_zr_s _ _ _⟩ (fun e => ?_)
  · by_cases h : ty0 q = 0
    · exact h
    · exact absurd ((G.1.1 q h).symm.trans hq) h
  · have := G.2.1
    rw [← e, hq] at this
    exact G.2.2.1 this.symm
theorem sv_S.put {k : Nat} {z : Int} (G : sv_S A a K n X ty0 σ0 ty σ) (hk : n ≤ k) (hg : ∀ j, j < k → n ≤ j → sv_zz K j = true) (hs : sv_sat ty (sp_1 K k) z ∧ sv_sat ty (sp_0 K k) z) (hok : sv_ok ty (sv_up σ a k z)) : sv_S A a K (k + 1) X ty0 σ0 ty (sv_up σ a k z) :=
  ⟨G.1.put (Or.inl rfl) hok, G.2.1, G.2.2.1, G.2.2.2.1.put hk hg hs, G.2.2.2.2⟩
theorem sv_S.at (G : sv_S A a K n X ty0 σ0 ty σ) : A a := (G.1.2.2.2.1 a (by rw [G.2.1]; exact G.2.2.1)).2
/-- a field of the object that is made, final or not -/
theorem sv_pfG (C : sv_C g A own cc nL p s m args meth c) (hin : meth.name = "<init>") (G : sv_S A a K n X ty0 σ0 ty σ) {ci k index : Nat} {r : vw_C} {v : sv_T} {z : Int} (hd : decode cc pc = .ok (.putfield index, 3)) (hk : sv_kT K = some (.inl ci)) (hr : vwCl[ci]? = some r) (hkn : k < r.2.2) (hdecl : (r.2.1 k).1 = own) (hw : Cond.fieldLink own index (r.2.1 k).1 (r.2.1 k).2.1 (r.2.1 k).2.2.1 ∈ lw_good) (hv : sv_of (sv_ft ci k) z = v) (hz : sv_rg (sv_ft ci k) z)
    (hnk : n ≤ k) (hg : ∀ j, j < k → n ≤ j → sv_zz K j = true) (hs : sv_sat ty (sp_1 K k) z ∧ sv_sat ty (sp_0 K k) z)
    (kk : sv_S A a K (k + 1) X ty0 σ0 ty (sv_up σ a k z) → sv_V p l e R s m args below meth c nL A cells slots Q (sv_H g ty (sv_up σ a k z)) (pc + 3) lv rest) : sv_V p l e R s m args below meth c nL A cells slots Q (sv_H g ty σ) pc lv (v :: sv_r a :: rest) := by
  have ht : sv_ft ci k = .int ∨ sv_ft ci k = .boolean ∨ sv_ft ci k = .byte ∨ sv_ft ci k = .long ∨ (∃ n, sv_ft ci k = .object n) ∨ ∃ x, sv_ft ci k = .array x := by
    have h := sv_clT hr k hkn
    revert h
    cases sv_ft ci k <;> simp [sv_isT]
  cases hf : (r.2.1 k).2.2.2 with
  | true => exact sv_pff C hin hd (by rw [G.2.1]; exact hk) hr hkn hf hdecl hw hv ht hz G.at G.1.2.2.2.2 fun hok => kk (G.put hnk hg hs hok)
  | false => exact sv_pf C hd (by rw [G.2.1]; exact hk) hr hkn hf hw hv ht hz G.at G.1.2.2.2.2 fun hok => kk (G.put hnk hg hs hok)
/-- new, dup, and the constructor's call -/
theorem sv_ninit (C : sv_C g A own cc nL p s m args meth c) (J : sv_J A s) (G : sv_S A a K n X ty0 σ0 ty σ) {Kq ci index mc ms NF : Nat} {r : vw_C} (hNF : r.2.2 = NF) (hd : decode cc pc = .ok (.new index, 3)) (hd2 : decode cc (pc + 3) = .ok (.dup, 1)) (hK : sv_kT Kq = some (.inl ci)) (hr : vwCl[ci]? = some r) (hl : Cond.classLink own index r.1 ∈ lw_good) (hi : Cond.instantiable r.1 r.2.2 ∈ lw_good) (hini : Cond.initialized r.1 ∈ lw_good) (hKq : Kq ≠ 0) (hc : cells + 1 ≤ R.cells) (hs : slots + NF ≤ R.slots)
    (call : ∀ (q : Nat) (ty1 : Nat → Nat) (σ1 : Nat → Nat → Int), sv_TT A ty1 → sv_ok ty1 σ1 → ty1 q = Kq → (∀ k, σ1 q k = 0) → (∀ (ty' : Nat → Nat) (σ' : Nat → Nat → Int), sv_po A q Kq ty1 σ1 ty' σ' → sv_V p l e R s m args below meth c nL A (cells + 1 + mc) (slots + NF + ms) Q (sv_H g ty' σ') (pc + 7) lv (sv_r q :: st)) → sv_V p l e R s m args below meth c nL A (cells + 1) (slots + NF) Q (sv_H g ty1 σ1) (pc + 4) lv (sv_r q :: sv_r q :: st))
    (kk : ∀ (q : Nat) (ty' : Nat → Nat) (σ' : Nat → Nat → Int), sv_S A a K n X ty0 σ0 ty' σ' → ty' q = Kq → sv_kp ty σ ty' σ' → sv_V p l e R s m args below meth c nL A (cells + 1 + mc) (slots + NF + ms) Q (sv_H g ty' σ') (pc + 7) lv (sv_r q :: st)) : sv_V p l e R s m args below meth c nL A cells slots Q (sv_H g ty σ) pc lv st := by
  subst hNF
  refine sv_new C J hd hK hr hl hi hini G.1.2.2.2.1 G.1.2.2.2.2 hc hs fun q hq hA hok => ?_
  refine sv_ex_ok C.1 C.2.1 hd2 (lv' := lv) (st' := sv_r q :: sv_r q :: st) rfl ?_
  obtain ⟨g1, g2⟩ := G.new (X' := fun x => X x ∨ x = q) hq hA (by rw [hK]; exact fun h => by cases h) hKq (fun _ h => Or.inl h) (fun _ h => h) (fun h => absurd (Or.inr rfl) h)
  refine call q _ _ g1.1.2.2.2.1 g1.1.2.2.2.2 (sv_upt_s _ _ _) (fun k => sv_zr_s _ _ _) fun ty' σ' hp => ?_
  have hne : ∀ y, ty y ≠ 0 → y ≠ q := fun y hy e => hy (by rw [e]; exact hq)
  have h0 : ty0 q = 0 := by
    by_cases h : ty0 q = 0
    · exact h
    · exact absurd ((G.1.1 q h).symm.trans hq) h
  have hkp : sv_kp ty σ ty' σ' := fun x hx => by
    have b1 := g2 x hx
    have b2 : sv_upt ty q Kq x ≠ 0 := by rw [b1.1]; exact hx
    exact ⟨(hp.1.1 x b2).trans b1.1, (hp.1.2.1 x b2 (hne x hx)).trans b1.2⟩
  have haz : ty a ≠ 0 := by rw [G.2.1]; exact G.2.2.1
  refine kk q ty' σ' ⟨sv_gx.call (q := q) (K := Kq) ?_ h0 hp, (hkp a haz).1.trans G.2.1, G.2.2.1, ?_, fun x hx => ?_⟩ hp.2.1 hkp
  · obtain ⟨u1, u2, u3, u4, u5⟩ := g1.1
    exact ⟨u1, fun x a b => u2 x a (fun z => b (z.elim (fun e => Or.inl (Or.inl e)) (fun e => e.elim (fun f => Or.inl (Or.inr f)) Or.inr))), fun x a b => u3 x a (fun z => b (z.elim (fun e => Or.inl (Or.inl e)) (fun e => e.elim (fun f => Or.inl (Or.inr f)) Or.inr))), u4, u5⟩
  · rw [(hkp a haz).2]
    exact G.2.2.2.1.ext fun x hx => (hkp x hx).1
  · rw [(hkp x (G.2.2.2.2 x hx)).1]
    exact G.2.2.2.2 x hx
/-- the array that is filled -/
def sv_b (ty : Nat → Nat) (σ : Nat → Nat → Int) (a b f KB n : Nat) : Prop := ty b = KB ∧ sv_hf ty (σ b) KB n ∧ σ a f = (b : Int) + 1 ∧ b ≠ a
theorem sv_b.kp {b f KB i : Nat} {ty' : Nat → Nat} {σ' : Nat → Nat → Int} (B : sv_b ty σ a b f KB i) (hKB : KB ≠ 0) (ha : ty a ≠ 0) (h : sv_kp ty σ ty' σ') : sv_b ty' σ' a b f KB i := by
  have hb : ty b ≠ 0 := by rw [B.1]; exact hKB
  refine ⟨(h b hb).1.trans B.1, ?_, by rw [(h a ha).2]; exact B.2.2.1, B.2.2.2⟩
  rw [(h b hb).2]
  exact B.2.1.ext fun x hx => (h x hx).1
theorem sv_b.up {b f KB i k : Nat} {z : Int} (B : sv_b ty σ a b f KB i) (hk : f ≠ k) : sv_b ty (sv_up σ a k z) a b f KB i :=
  ⟨B.1, by rw [sv_up_row B.2.2.2]; exact B.2.1, by rw [sv_up_k hk]; exact B.2.2.1, B.2.2.2⟩
theorem sv_S.nza (G : sv_S A a K n X ty0 σ0 ty σ) : ty a ≠ 0 := by rw [G.2.1]; exact G.2.2.1
theorem sv_asG {b f KB i q N ci Kq : Nat} {r : vw_C} (C : sv_C g A own cc nL p s m args meth c) (G : sv_S A a K n (fun x => x = b) ty0 σ0 ty σ) (B : sv_b ty σ a b f KB i) (hr1 : r.1 = "SaintsRoad$Feast" ∨ r.1 = "SaintsRoad$Place" ∨ r.1 = "SaintsRoad$Procession") (hd : decode cc pc = .ok (.aastore, 1)) (hk : sv_kT KB = some (.inr (.object r.1, N))) (hv : sv_kT Kq = some (.inl ci)) (hq : ty q = Kq) (hr : vwCl[ci]? = some r) (hn : N < 5000) (hi : i < N) (hsp : sp_1 KB i = some (.inr (Kq, false))) (hs0 : sp_0 KB i = none)
    (kk : ∀ σ' : Nat → Nat → Int, sv_S A a K n (fun x => x = b) ty0 σ0 ty σ' → sv_b ty σ' a b f KB (i + 1) → (∀ x, x ≠ b → σ' x = σ x) → sv_V p l e R s m args below meth c nL A cells slots Q (sv_H g ty σ') (pc + 1) lv rest) : sv_V p l e R s m args below meth c nL A cells slots Q (sv_H g ty σ) pc lv (sv_r q :: .inl (i : Int) :: sv_r b :: rest) := by
  have hb : ty b ≠ 0 := G.2.2.2.2 b rfl
  refine sv_as C hr1 hd (by rw [B.1]; exact hk) (by rw [hq]; exact hv) hr hn (by omega) (by omega) (G.1.2.2.2.1 b hb).2 G.1.2.2.2.2 fun hok => ?_
  rw [Int.toNat_natCast] at hok ⊢
  refine kk _ ⟨G.1.put (Or.inr rfl) hok, G.2.1, G.2.2.1, by rw [sv_up_row (Ne.symm B.2.2.2)]; exact G.2.2.2.1, G.2.2.2.2⟩ ⟨B.1, B.2.1.put (Nat.le_refl i) (fun j h1 h2 => absurd h1 (by omega)) ⟨by rw [hsp]; exact Or.inr ⟨q, rfl, hq⟩, by rw [hs0]; exact trivial⟩, by rw [sv_up_a (Ne.symm B.2.2.2)]; exact B.2.2.1, B.2.2.2⟩ (fun x hx => sv_up_row hx)
theorem sv_cnteq {cells' slots' : Nat} {Hp : Heap → Prop} (h1 : cells = cells') (h2 : slots = slots') (k : sv_V p l e R s m args below meth c nL A cells' slots' Q Hp pc lv st) : sv_V p l e R s m args below meth c nL A cells slots Q Hp pc lv st := by subst h1; subst h2; exact k
/-- another array's numbers change: one that was made here, of which nothing is asked -/
theorem sv_S.upd {w Kw : Nat} {σ' : Nat → Nat → Int} (G : sv_S A a K n (fun _ => False) ty0 σ0 ty σ) (hw0 : ty0 w = 0) (hw : ty w = Kw) (hwa : w ≠ a) (h1 : ∀ k, sp_1 Kw k = none) (h0 : ∀ k, sp_0 Kw k = none) (hs : ∀ x, x ≠ w → ∀ k, σ' x k = σ x k) (hok : sv_ok ty σ') : sv_S A a K n (fun _ => False) ty0 σ0 ty σ' := by
  obtain ⟨⟨u1, u2, u3, u4, u5⟩, ha, hK, hf, hx⟩ := G
  have hr : ∀ x, x ≠ w → σ' x = σ x := fun x hx => funext (hs x hx)
  refine ⟨⟨u1, fun x hx hn => ?_, fun x hx hn => ?_, u4, hok⟩, ha, hK, by rw [hr a (Ne.symm hwa)]; exact hf, hx⟩
  · rw [hr x (fun e => hx (by rw [e]; exact hw0))]; exact u2 x hx hn
  · by_cases e : x = w
    · subst e
      rw [hw]
      exact fun k => ⟨by rw [h1]; exact trivial, by rw [h0]; exact trivial⟩
    · rw [hr x e]; exact u3 x hx hn
theorem sv_gsq (C : sv_C g A own cc nL p s m args meth c) {Cn nm d : String} (hZ : va_Zq Cn nm d A s s.heap) {index : Nat} (hd : decode cc pc = .ok (.getstatic index, 3)) (hw : Cond.fieldLink own index Cn nm d ∈ lw_good) {Hp : Heap → Prop} (kk : ∀ z : Int, 0 ≤ z → sv_V p l e R s m args below meth c nL A cells slots Q Hp (pc + 3) lv (sv_a z :: st)) : sv_V p l e R s m args below meth c nL A cells slots Q Hp pc lv st := by
  rcases hZ with h | ⟨t, h⟩
  · exact fun H locs ls hH hS hl => va_gets C.1 C.2.1 h hS C.2.2.2.1 (C.2.2.2.2.1 _ hw) (fun _ h => h) hd (kk 0 (by omega) H locs ls hH hS hl)
  · intro H locs ls hH hS hl
    have hk := kk ((t : Int) + 1) (by omega) H locs ls hH hS hl
    rw [List.map_cons, show sv_den (sv_a ((t : Int) + 1)) = .ref t from rfl] at hk
    exact va_gets C.1 C.2.1 h hS C.2.2.2.1 (C.2.2.2.2.1 _ hw) (fun _ h => h) hd hk
/-- a field of a cell of which nothing is asked -/
theorem sv_pfT (C : sv_C g A own cc nL p s m args meth c) (G : sv_gx A (fun x => x = a) ty0 σ0 ty σ) (ha : ty a = 11) {k index : Nat} {z : Int} (hd : decode cc pc = .ok (.putfield index, 3)) (hk : k < 4) (hw : Cond.fieldLink own index (TX10 k).1 (TX10 k).2.1 (TX10 k).2.2.1 ∈ lw_good) (hz : 0 ≤ z)
    (kk : ∀ σ' : Nat → Nat → Int, sv_gx A (fun x => x = a) ty0 σ0 ty σ' → sv_V p l e R s m args below meth c nL A cells slots Q (sv_H g ty σ') (pc + 3) lv rest) : sv_V p l e R s m args below meth c nL A cells slots Q (sv_H g ty σ) pc lv (sv_a z :: sv_r a :: rest) := by
  have hk4 : k = 0 ∨ k = 1 ∨ k = 2 ∨ k = 3 := by omega
  have hAa : A a := (G.2.2.2.1 a (by rw [ha]; decide)).2
  have hkk : sv_kT (ty a) = some (.inl 9) := by rw [ha]; rfl
  rcases hk4 with rfl | rfl | rfl | rfl
  · exact sv_pf C (z := z) hd hkk (r := (RX10, TX10, 6)) rfl (by decide) rfl hw rfl (by simp [sv_ft, tyX10]) hz hAa G.2.2.2.2 fun hok => kk _ (G.put rfl hok)
  · exact sv_pf C (z := z) hd hkk (r := (RX10, TX10, 6)) rfl (by decide) rfl hw rfl (by simp [sv_ft, tyX10]) hz hAa G.2.2.2.2 fun hok => kk _ (G.put rfl hok)
  · exact sv_pf C (z := z) hd hkk (r := (RX10, TX10, 6)) rfl (by decide) rfl hw rfl (by simp [sv_ft, tyX10]) hz hAa G.2.2.2.2 fun hok => kk _ (G.put rfl hok)
  · exact sv_pf C (z := z) hd hkk (r := (RX10, TX10, 6)) rfl (by decide) rfl hw rfl (by simp [sv_ft, tyX10]) hz hAa G.2.2.2.2 fun hok => kk _ (G.put rfl hok)
end SVM
theorem sp_1_11 (k : Nat) : sp_1 11 k = none := rfl
theorem sp_0_11 (k : Nat) : sp_0 11 k = none := rfl
theorem sp_1_23 (k : Nat) : sp_1 23 k = none := rfl
theorem sp_0_23 (k : Nat) : sp_0 23 k = none := rfl
theorem sp_0_21 (k : Nat) : sp_0 21 k = none := rfl
theorem sp_0_22 (k : Nat) : sp_0 22 k = none := rfl
theorem sp_0_37 (k : Nat) : sp_0 37 k = none := rfl
theorem sp_1_21 {k : Nat} (h : k < 4) : sp_1 21 k = some (.inr (4, false)) := by show (if k < 4 then _ else _) = _; rw [if_pos h]
theorem sp_1_22 {k : Nat} (h : k < 60) : sp_1 22 k = some (.inr (8, false)) := by show (if k < 60 then _ else _) = _; rw [if_pos h]
theorem sp_1_37 {k : Nat} (h : k < 12) : sp_1 37 k = some (.inr (9, false)) := by show (if k < 12 then _ else _) = _; rw [if_pos h]
theorem sv_zz21 (k : Nat) (h : 4 ≤ k) : sv_zz 21 k = true := by unfold sv_zz; rw [sp_0_21, show sp_1 21 k = none by show (if k < 4 then _ else _) = _; rw [if_neg (by omega)]]; rfl
theorem sv_zz22 (k : Nat) (h : 60 ≤ k) : sv_zz 22 k = true := by unfold sv_zz; rw [sp_0_22, show sp_1 22 k = none by show (if k < 60 then _ else _) = _; rw [if_neg (by omega)]]; rfl
theorem sv_zz37 (k : Nat) (h : 12 ≤ k) : sv_zz 37 k = true := by unfold sv_zz; rw [sp_0_37, show sp_1 37 k = none by show (if k < 12 then _ else _) = _; rw [if_neg (by omega)]]; rfl
