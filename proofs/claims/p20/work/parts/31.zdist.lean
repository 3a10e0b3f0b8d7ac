/-! cells that are apart -/
section ZDI
variable {p : Program} {l : Launch} {e : Env} {R : Room} {s : State} {m : MethodId} {args : Array Value} {below : List Frame} {meth : Method} {c : Code} {cells slots : Nat} {Q : State → Prop}
variable {cc : ByteArray} {pc nL : Nat} {A : Nat → Prop} {lv lv' : sv_L} {st st' rest : List sv_T} {g : sv_G} {own : String} {ty : Nat → Nat} {σ : Nat → Nat → Int} {po : (Nat → Nat) → (Nat → Nat → Int) → Prop}
variable {a K n : Nat} {X : Nat → Prop} {ty0 : Nat → Nat} {σ0 : Nat → Nat → Int}
theorem sv_ninit2 (C : sv_C g A own cc nL p s m args meth c) (J : sv_J A s) (G : sv_S A a K n X ty0 σ0 ty σ) {Kq ci index mc ms NF : Nat} {r : vw_C} {E : Nat → (Nat → Nat) → (Nat → Nat → Int) → (Nat → Nat) → (Nat → Nat → Int) → Prop} (hNF : r.2.2 = NF) (hd : decode cc pc = .ok (.new index, 3)) (hd2 : decode cc (pc + 3) = .ok (.dup, 1)) (hK : sv_kT Kq = some (.inl ci)) (hr : vwCl[ci]? = some r) (hl : Cond.classLink own index r.1 ∈ lw_good) (hi : Cond.instantiable r.1 r.2.2 ∈ lw_good) (hini : Cond.initialized r.1 ∈ lw_good) (hKq : Kq ≠ 0) (hc : cells + 1 ≤ R.cells) (hs : slots + NF ≤ R.slots)
    (call : ∀ (q : Nat) (ty1 : Nat → Nat) (σ1 : Nat → Nat → Int), sv_TT A ty1 → sv_ok ty1 σ1 → ty1 q = Kq → (∀ k, σ1 q k = 0) → (∀ (ty' : Nat → Nat) (σ' : Nat → Nat → Int), sv_po A q Kq ty1 σ1 ty' σ' ∧ E q ty1 σ1 ty' σ' → sv_V p l e R s m args below meth c nL A (cells + 1 + mc) (slots + NF + ms) Q (sv_H g ty' σ') (pc + 7) lv (sv_r q :: st)) → sv_V p l e R s m args below meth c nL A (cells + 1) (slots + NF) Q (sv_H g ty1 σ1) (pc + 4) lv (sv_r q :: sv_r q :: st))
    (kk : ∀ (q : Nat) (ty' : Nat → Nat) (σ' : Nat → Nat → Int), sv_S A a K n X ty0 σ0 ty' σ' → ty' q = Kq → sv_kp ty σ ty' σ' → ty q = 0 → E q (sv_upt ty q Kq) (sv_zr σ q) ty' σ' → sv_V p l e R s m args below meth c nL A (cells + 1 + mc) (slots + NF + ms) Q (sv_H g ty' σ') (pc + 7) lv (sv_r q :: st)) : sv_V p l e R s m args below meth c nL A cells slots Q (sv_H g ty σ) pc lv st := by
  subst hNF
  refine sv_new C J hd hK hr hl hi hini G.1.2.2.2.1 G.1.2.2.2.2 hc hs fun q hq hA hok => ?_
  refine sv_ex_ok C.1 C.2.1 hd2 (lv' := lv) (st' := sv_r q :: sv_r q :: st) rfl ?_
  obtain ⟨g1, g2⟩ := G.new (X' := fun x => X x ∨ x = q) hq hA (by rw [hK]; exact fun h => by cases h) hKq (fun _ h => Or.inl h) (fun _ h => h) (fun h => absurd (Or.inr rfl) h)
  refine call q _ _ g1.1.2.2.2.1 g1.1.2.2.2.2 (sv_upt_s _ _ _) (fun k => sv_zr_s _ _ _) fun ty' σ' hpE => ?_
  obtain ⟨hp, hE⟩ := hpE
  have hne : ∀ y, ty y ≠ 0 → y ≠ q := fun y hy e => hy (by rw [e]; exact hq)
  have h0 : ty0 q = 0 := by
    by_cases h : ty0 q = 0
    · exact h
    · exact absurd ((G.1.1 q h).symm.trans hq) h
  have hkp : sv_kp ty σ ty' σ' := fun x hx => by
    have b1 := g2 x hx
    have b2 : sv_upt ty q Kq x ≠ 0 := by rw [b1.1]; exact hx
    exact ⟨(hp.1.1 x b2).trans b1.1, (hp.1.2.1 x b2 (hne x hx)).trans b1.2⟩
  have haz : ty a ≠ 0 := by rw [G.2.1]; exact G.2.2.1
  refine kk q ty' σ' ⟨sv_gx.call (q := q) (K := Kq) ?_ h0 hp, (hkp a haz).1.trans G.2.1, G.2.2.1, ?_, fun x hx => ?_⟩ hp.2.1 hkp hq hE
  · obtain ⟨u1, u2, u3, u4, u5⟩ := g1.1
    exact ⟨u1, fun x a b => u2 x a (fun z => b (z.elim (fun e => Or.inl (Or.inl e)) (fun e => e.elim (fun f => Or.inl (Or.inr f)) Or.inr))), fun x a b => u3 x a (fun z => b (z.elim (fun e => Or.inl (Or.inl e)) (fun e => e.elim (fun f => Or.inl (Or.inr f)) Or.inr))), u4, u5⟩
  · rw [(hkp a haz).2]
    exact G.2.2.2.1.ext fun x hx => (hkp x hx).1
  · rw [(hkp x (G.2.2.2.2 x hx)).1]
    exact G.2.2.2.2 x hx
theorem sv_asG2 {b f KB i q N ci Kq : Nat} {r : vw_C} (C : sv_C g A own cc nL p s m args meth c) (G : sv_S A a K n (fun x => x = b) ty0 σ0 ty σ) (B : sv_b ty σ a b f KB i) (hr1 : r.1 = "SaintsRoad$Feast" ∨ r.1 = "SaintsRoad$Place" ∨ r.1 = "SaintsRoad$Procession") (hd : decode cc pc = .ok (.aastore, 1)) (hk : sv_kT KB = some (.inr (.object r.1, N))) (hv : sv_kT Kq = some (.inl ci)) (hq : ty q = Kq) (hr : vwCl[ci]? = some r) (hn : N < 5000) (hi : i < N) (hsp : sp_1 KB i = some (.inr (Kq, false))) (hs0 : sp_0 KB i = none)
    (kk : ∀ σ' : Nat → Nat → Int, sv_S A a K n (fun x => x = b) ty0 σ0 ty σ' → sv_b ty σ' a b f KB (i + 1) → (∀ x, x ≠ b → σ' x = σ x) → σ' = sv_up σ b i ((q : Int) + 1) → sv_V p l e R s m args below meth c nL A cells slots Q (sv_H g ty σ') (pc + 1) lv rest) : sv_V p l e R s m args below meth c nL A cells slots Q (sv_H g ty σ) pc lv (sv_r q :: .inl (i : Int) :: sv_r b :: rest) := by
  have hb : ty b ≠ 0 := G.2.2.2.2 b rfl
  refine sv_as C hr1 hd (by rw [B.1]; exact hk) (by rw [hq]; exact hv) hr hn (by omega) (by omega) (G.1.2.2.2.1 b hb).2 G.1.2.2.2.2 fun hok => ?_
  rw [Int.toNat_natCast] at hok ⊢
  refine kk _ ⟨G.1.put (Or.inr rfl) hok, G.2.1, G.2.2.1, by rw [sv_up_row (Ne.symm B.2.2.2)]; exact G.2.2.2.1, G.2.2.2.2⟩ ⟨B.1, B.2.1.put (Nat.le_refl i) (fun j h1 h2 => absurd h1 (by omega)) ⟨by rw [hsp]; exact Or.inr ⟨q, rfl, hq⟩, by rw [hs0]; exact trivial⟩, by rw [sv_up_a (Ne.symm B.2.2.2)]; exact B.2.2.1, B.2.2.2⟩ (fun x hx => sv_up_row hx) rfl
end ZDI
/-- the cells of the processions of an array b are there, and apart -/
def zd_D (ty : Nat → Nat) (σ : Nat → Nat → Int) (b n : Nat) : Prop := (∀ j, j < n → ∃ P c r : Nat, σ b j = (P : Int) + 1 ∧ ty P = 9 ∧ σ P 2 = (c : Int) + 1 ∧ ty c = 40 ∧ σ P 3 = (r : Int) + 1 ∧ ty r = 41) ∧ ∀ j k, j < n → k < n → j ≠ k → ∀ P Q : Nat, σ b j = (P : Int) + 1 → σ b k = (Q : Int) + 1 → P ≠ Q ∧ σ P 2 ≠ σ Q 2 ∧ σ P 3 ≠ σ Q 3
def zd_5 (a : Nat) (ty : Nat → Nat) (_ : Nat → Nat → Int) (ty' : Nat → Nat) (σ' : Nat → Nat → Int) : Prop := ∃ c r : Nat, σ' a 2 = (c : Int) + 1 ∧ ty c = 0 ∧ ty' c = 40 ∧ σ' a 3 = (r : Int) + 1 ∧ ty r = 0 ∧ ty' r = 41
def zd_8 (a : Nat) (_ : Nat → Nat) (_ : Nat → Nat → Int) (ty' : Nat → Nat) (σ' : Nat → Nat → Int) : Prop := ∃ b : Nat, σ' a 0 = (b : Int) + 1 ∧ ty' b = 37 ∧ zd_D ty' σ' b 12
def zd_9 (a : Nat) (_ : Nat → Nat) (_ : Nat → Nat → Int) (ty' : Nat → Nat) (σ' : Nat → Nat → Int) : Prop := ∃ t b : Nat, σ' a 4 = (t : Int) + 1 ∧ ty' t = 6 ∧ σ' t 0 = (b : Int) + 1 ∧ ty' b = 37 ∧ zd_D ty' σ' b 12
theorem zd_mv {ty ty' : Nat → Nat} {σ σ' : Nat → Nat → Int} {b n : Nat} (h : ∀ x, ty x ≠ 0 → ty x ≠ 1 → ty' x = ty x ∧ σ' x = σ x) (hb : ty b = 37) (hD : zd_D ty σ b n) : zd_D ty' σ' b n := by
  have eb : σ' b = σ b := (h b (by rw [hb]; decide) (by rw [hb]; decide)).2
  have e9 : ∀ P, ty P = 9 → σ' P = σ P := fun P hP => (h P (by rw [hP]; decide) (by rw [hP]; decide)).2
  refine ⟨fun j hj => ?_, fun j k hj hk hn P Q h1 h2 => ?_⟩
  · obtain ⟨P, c, r, h1, h2, h3, h4, h5, h6⟩ := hD.1 j hj
    refine ⟨P, c, r, by rw [eb]; exact h1, ?_, by rw [e9 P h2]; exact h3, ?_, by rw [e9 P h2]; exact h5, ?_⟩
    · rw [(h P (by rw [h2]; decide) (by rw [h2]; decide)).1]; exact h2
    · rw [(h c (by rw [h4]; decide) (by rw [h4]; decide)).1]; exact h4
    · rw [(h r (by rw [h6]; decide) (by rw [h6]; decide)).1]; exact h6
  · rw [eb] at h1 h2
    obtain ⟨P', _, _, p1, p2, -⟩ := hD.1 j hj
    obtain ⟨Q', _, _, q1, q2, -⟩ := hD.1 k hk
    have tP : P = P' := by omega
    have tQ : Q = Q' := by omega
    subst tP; subst tQ
    rw [e9 P p2, e9 Q q2]
    exact hD.2 j k hj hk hn P Q h1 h2
theorem zd_kp {ty ty' : Nat → Nat} {σ σ' : Nat → Nat → Int} {b n : Nat} (h : ∀ x, ty x ≠ 0 → ty' x = ty x ∧ σ' x = σ x) (hb : ty b = 37) (hD : zd_D ty σ b n) : zd_D ty' σ' b n := zd_mv (fun x h1 _ => h x h1) hb hD
theorem zd_step {ty ty' : Nat → Nat} {σ σ' σ2 : Nat → Nat → Int} {b i q : Nat} (hb : ty b = 37) (hk : ∀ x, ty x ≠ 0 → ty' x = ty x ∧ σ' x = σ x) (hq0 : ty q = 0) (hq : ty' q = 9) (hE : zd_5 q (sv_upt ty q 9) (sv_zr σ q) ty' σ') (hσ : σ2 = sv_up σ' b i ((q : Int) + 1)) (hD : zd_D ty σ b i) : zd_D ty' σ2 b (i + 1) := by
  have hD' := zd_kp hk hb hD
  have hb' : ty' b = 37 := by rw [(hk b (by rw [hb]; decide)).1]; exact hb
  obtain ⟨c, r, c1, c2, c3, r1, r2, r3⟩ := hE
  have ne9 : ∀ P, ty' P = 9 → P ≠ b := fun P h e => by rw [e, hb'] at h; cases h
  have row : ∀ P, ty' P = 9 → σ2 P = σ' P := fun P h => by rw [hσ]; exact sv_up_row (ne9 P h)
  have fr : ∀ y, sv_upt ty q 9 y = 0 → ty y = 0 := fun y h => by
    by_cases e : y = q
    · rw [e]; exact hq0
    · rw [sv_upt_n e] at h; exact h
  have old : ∀ j, j < i → ∃ P c r : Nat, σ b j = (P : Int) + 1 ∧ ty P = 9 ∧ σ P 2 = (c : Int) + 1 ∧ ty c = 40 ∧ σ P 3 = (r : Int) + 1 ∧ ty r = 41 := hD.1
  have at' : ∀ j, j < i → σ2 b j = σ b j := fun j hj => by rw [hσ, sv_up_k (by omega), (hk b (by rw [hb]; decide)).2]
  have ati : σ2 b i = (q : Int) + 1 := by rw [hσ]; exact sv_up_s _ _ _ _
  -- a new one against an old one
  have apart : ∀ j, j < i → ∀ P : Nat, σ2 b j = (P : Int) + 1 → P ≠ q ∧ σ2 P 2 ≠ σ2 q 2 ∧ σ2 P 3 ≠ σ2 q 3 := fun j hj P h1 => by
    rw [at' j hj] at h1
    obtain ⟨P', c', r', p1, p2, p3, p4, p5, p6⟩ := old j hj
    have tP : P = P' := by omega
    subst tP
    have k9 : ty' P = 9 := by rw [(hk P (by rw [p2]; decide)).1]; exact p2
    rw [row P k9, row q hq, (hk P (by rw [p2]; decide)).2, p3, p5, c1, r1]
    refine ⟨fun e => (by rw [e, hq0] at p2; cases p2), fun e => ?_, fun e => ?_⟩
    · have t : c' = c := by omega
      have := fr c c2
      rw [t, this] at p4; cases p4
    · have t : r' = r := by omega
      have := fr r r2
      rw [t, this] at p6; cases p6
  refine ⟨fun j hj => ?_, fun j k hj hk' hn P Q h1 h2 => ?_⟩
  · by_cases e : j = i
    · subst e
      exact ⟨q, c, r, ati, hq, by rw [row q hq]; exact c1, c3, by rw [row q hq]; exact r1, r3⟩
    · obtain ⟨P, c', r', p1, p2, p3, p4, p5, p6⟩ := hD'.1 j (by omega)
      exact ⟨P, c', r', by rw [hσ, sv_up_k e]; exact p1, p2, by rw [row P p2]; exact p3, p4, by rw [row P p2]; exact p5, p6⟩
  · by_cases e1 : j = i
    · have hk2 : k < i := by omega
      rw [e1, ati] at h1
      have tP : P = q := by omega
      subst tP
      obtain ⟨a1, a2, a3⟩ := apart k hk2 Q h2
      exact ⟨Ne.symm a1, Ne.symm a2, Ne.symm a3⟩
    · have hj2 : j < i := by omega
      by_cases e2 : k = i
      · rw [e2, ati] at h2
        have tQ : Q = q := by omega
        subst tQ
        exact apart j hj2 P h1
      · rw [hσ, sv_up_k e1] at h1
        rw [hσ, sv_up_k e2] at h2
        obtain ⟨P', _, _, p1, p2, -⟩ := hD'.1 j hj2
        obtain ⟨Q', _, _, q1, q2, -⟩ := hD'.1 k (by omega)
        have tP : P = P' := by omega
        have tQ : Q = Q' := by omega
        subst tP; subst tQ
        rw [row P p2, row Q q2]
        exact hD'.2 j k hj2 (by omega) hn P Q h1 h2
