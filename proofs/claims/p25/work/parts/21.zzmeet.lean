/-! meetings, exactly -/
def mx (x y : Int) : Int := if x < y then y else x
def mn (x y : Int) : Int := if y < x then y else x
def tog (D i1 o1 i2 o2 : Int) : Int := if mx i1 i2 ≤ mn o1 o2 then mx i1 i2 else D
/-- the minute of two stretches -/
def mg (D : Int) (cf hf lf cg hg lg : Nat → Int) (s t : Nat) : Int := if cf (s / 2) = cg ((t + 1) / 2) ∧ cf ((s + 1) / 2) = cg (t / 2) then tog D (hf (s / 2)) (lf ((s + 1) / 2)) (hg (t / 2)) (lg ((t + 1) / 2)) else D
theorem mg_y {D : Int} {cf hf lf cg hg lg : Nat → Int} {x y : Int} (hx : 0 ≤ x) (hy : 0 ≤ y) (h : cf (x / 2).toNat = cg ((y + 1) / 2).toNat ∧ cf ((x + 1) / 2).toNat = cg (y / 2).toNat) : mg D cf hf lf cg hg lg x.toNat y.toNat = tog D (hf (x / 2).toNat) (lf ((x + 1) / 2).toNat) (hg (y / 2).toNat) (lg ((y + 1) / 2).toNat) := by
  unfold mg
  rw [show x.toNat / 2 = (x / 2).toNat by omega, show (x.toNat + 1) / 2 = ((x + 1) / 2).toNat by omega, show y.toNat / 2 = (y / 2).toNat by omega, show (y.toNat + 1) / 2 = ((y + 1) / 2).toNat by omega, if_pos h]
theorem mg_n {D : Int} {cf hf lf cg hg lg : Nat → Int} {x y : Int} (hx : 0 ≤ x) (hy : 0 ≤ y) (h : ¬ (cf (x / 2).toNat = cg ((y + 1) / 2).toNat ∧ cf ((x + 1) / 2).toNat = cg (y / 2).toNat)) : mg D cf hf lf cg hg lg x.toNat y.toNat = D := by
  unfold mg
  rw [show x.toNat / 2 = (x / 2).toNat by omega, show (x.toNat + 1) / 2 = ((x + 1) / 2).toNat by omega, show y.toNat / 2 = (y / 2).toNat by omega, show (y.toNat + 1) / 2 = ((y + 1) / 2).toNat by omega, if_neg h]
/-- when the head comes, when the tail leaves: the class's reckoning -/
def hd (σ : Nat → Nat → Int) (B : Int) (r i : Nat) : Int := zw (B + σ r i)
def lvs (σ : Nat → Nat → Int) (B T : Int) (r i : Nat) : Int := zw (B + zw (σ r i + T))
def mV (NA NB : Int) (s t : Nat) : Prop := s % 2 = t % 2 ∧ (s : Int) < NA ∧ (t : Int) < NB
def mP (NA NB x y : Int) (s t : Nat) : Prop := s % 2 = t % 2 ∧ (s : Int) < NA ∧ (t : Int) < NB ∧ ((s : Int) < x ∨ ((s : Int) = x ∧ (t : Int) < y))
def mI (me : Nat → Nat → Int) (Pr : Nat → Nat → Prop) (f : Int) : Prop := (f = -1 ∧ ∀ s t, Pr s t → me s t < 0) ∨ (0 ≤ f ∧ (∃ s t, Pr s t ∧ me s t = f) ∧ ∀ s t, Pr s t → me s t < 0 ∨ f ≤ me s t)
theorem mI_cg {me : Nat → Nat → Int} {Pr Pr' : Nat → Nat → Prop} {f : Int} (hn : ∀ s t, Pr' s t ↔ Pr s t) (h : mI me Pr f) : mI me Pr' f := by
  rcases h with ⟨h1, h2⟩ | ⟨h1, ⟨s, t, h2, h3⟩, h4⟩
  · exact Or.inl ⟨h1, fun s t h => h2 s t ((hn s t).1 h)⟩
  · exact Or.inr ⟨h1, ⟨s, t, (hn s t).2 h2, h3⟩, fun s t h => h4 s t ((hn s t).1 h)⟩
theorem mI_keep {me : Nat → Nat → Int} {Pr Pr' : Nat → Nat → Prop} {f m : Int} {S T : Nat} (h : mI me Pr f) (hn : ∀ s t, Pr' s t ↔ Pr s t ∨ (s = S ∧ t = T)) (e : m = me S T) (hk : m < 0 ∨ (0 ≤ f ∧ f ≤ m)) : mI me Pr' f := by
  rcases h with ⟨h1, h2⟩ | ⟨h1, ⟨s, t, h2, h3⟩, h4⟩
  · refine Or.inl ⟨h1, fun s t h => ?_⟩
    rcases (hn s t).1 h with h | ⟨rfl, rfl⟩
    · exact h2 s t h
    · omega
  · refine Or.inr ⟨h1, ⟨s, t, (hn s t).2 (Or.inl h2), h3⟩, fun s t h => ?_⟩
    rcases (hn s t).1 h with h | ⟨rfl, rfl⟩
    · exact h4 s t h
    · omega
theorem mI_new {me : Nat → Nat → Int} {Pr Pr' : Nat → Nat → Prop} {f m : Int} {S T : Nat} (h : mI me Pr f) (hn : ∀ s t, Pr' s t ↔ Pr s t ∨ (s = S ∧ t = T)) (e : m = me S T) (h0 : 0 ≤ m) (hf : f < 0 ∨ m < f) : mI me Pr' m := by
  refine Or.inr ⟨h0, ⟨S, T, (hn S T).2 (Or.inr ⟨rfl, rfl⟩), e.symm⟩, fun s t hp => ?_⟩
  rcases (hn s t).1 hp with hp | ⟨rfl, rfl⟩
  · rcases h with ⟨-, h2⟩ | ⟨h1, -, h4⟩
    · exact Or.inl (h2 s t hp)
    · have := h4 s t hp
      omega
  · exact Or.inr (by omega)
theorem mP_0 {NA NB : Int} (me : Nat → Nat → Int) : mI me (mP NA NB 0 0) (-1) := Or.inl ⟨rfl, fun s t h => by unfold mP at h; omega⟩
theorem mP_in {NA NB x : Int} (hx : 0 ≤ x) (s t : Nat) : mP NA NB x (x % 2) s t ↔ mP NA NB x 0 s t := by unfold mP; omega
theorem mP_two {NA NB x y : Int} (hx : 0 ≤ x) (hy : 0 ≤ y) (hA : x < NA) (hB : y < NB) (hp : y % 2 = x % 2) (s t : Nat) : mP NA NB x (y + 2) s t ↔ mP NA NB x y s t ∨ (s = x.toNat ∧ t = y.toNat) := by unfold mP; omega
theorem mP_out {NA NB x y : Int} (hy : NB ≤ y) (s t : Nat) : mP NA NB (x + 1) 0 s t ↔ mP NA NB x y s t := by unfold mP; omega
theorem mP_all {NA NB x : Int} (hx : NA ≤ x) (s t : Nat) : mV NA NB s t ↔ mP NA NB x 0 s t := by unfold mV mP; omega
/-- the first minute of two processions, over all their stretches -/
def mw (σ : Nat → Nat → Int) (P c r Q c' r' : Nat) : Nat → Nat → Int := mg (-1) (σ c) (hd σ (σ P 1) r) (lvs σ (σ P 1) (σ P 4) r) (σ c') (hd σ (σ Q 1) r') (lvs σ (σ Q 1) (σ Q 4) r')
def zc_meet (σ : Nat → Nat → Int) (bq : Nat) (k1 k2 rv : Int) : Prop := (¬ ((0 ≤ k1 ∧ k1 ≤ 11) ∧ (0 ≤ k2 ∧ k2 ≤ 11) ∧ k1 ≠ k2) → rv = -2) ∧ ∀ P c r Q c' r' : Nat, (0 ≤ k1 ∧ k1 ≤ 11) → (0 ≤ k2 ∧ k2 ≤ 11) → k1 ≠ k2 → σ bq k1.toNat = (P : Int) + 1 → σ P 2 = (c : Int) + 1 → σ P 3 = (r : Int) + 1 → σ bq k2.toNat = (Q : Int) + 1 → σ Q 2 = (c' : Int) + 1 → σ Q 3 = (r' : Int) + 1 → (σ P 0 < 2 ∨ σ Q 0 < 2 → rv = -2) ∧ (2 ≤ σ P 0 → 2 ≤ σ Q 0 → mI (mw σ P c r Q c' r') (mV (2 * σ P 0 - 1) (2 * σ Q 0 - 1)) rv)
/-- the least, or far -/
def mJ (me : Nat → Nat → Int) (Pr : Nat → Nat → Prop) (f : Int) : Prop := (f = 268435456 ∨ ∃ s t, Pr s t ∧ me s t = f) ∧ f ≤ 268435456 ∧ ∀ s t, Pr s t → f ≤ me s t
theorem mJ_cg {me : Nat → Nat → Int} {Pr Pr' : Nat → Nat → Prop} {f : Int} (hn : ∀ s t, Pr' s t ↔ Pr s t) (h : mJ me Pr f) : mJ me Pr' f := by
  obtain ⟨h1, h2, h3⟩ := h
  refine ⟨?_, h2, fun s t h => h3 s t ((hn s t).1 h)⟩
  rcases h1 with h1 | ⟨s, t, h4, h5⟩
  · exact Or.inl h1
  · exact Or.inr ⟨s, t, (hn s t).2 h4, h5⟩
theorem mJ_min {me : Nat → Nat → Int} {Pr Pr' : Nat → Nat → Prop} {f m f' : Int} {S T : Nat} (h : mJ me Pr f) (hn : ∀ s t, Pr' s t ↔ Pr s t ∨ (s = S ∧ t = T)) (e : m = me S T) (hf : f' = if m < f then m else f) : mJ me Pr' f' := by
  obtain ⟨h1, h2, h3⟩ := h
  by_cases hm : m < f
  · rw [if_pos hm] at hf
    refine ⟨Or.inr ⟨S, T, (hn S T).2 (Or.inr ⟨rfl, rfl⟩), by omega⟩, by omega, fun s t hp => ?_⟩
    rcases (hn s t).1 hp with hp | ⟨rfl, rfl⟩
    · have := h3 s t hp
      omega
    · omega
  · rw [if_neg hm] at hf
    subst hf
    refine ⟨?_, h2, fun s t hp => ?_⟩
    · rcases h1 with h1 | ⟨s, t, h4, h5⟩
      · exact Or.inl h1
      · exact Or.inr ⟨s, t, (hn s t).2 (Or.inl h4), h5⟩
    · rcases (hn s t).1 hp with hp | ⟨rfl, rfl⟩
      · exact h3 s t hp
      · omega
theorem mJ_far {me : Nat → Nat → Int} {Pr Pr' : Nat → Nat → Prop} {f : Int} {S T : Nat} (h : mJ me Pr f) (hn : ∀ s t, Pr' s t ↔ Pr s t ∨ (s = S ∧ t = T)) (e : me S T = 268435456) : mJ me Pr' f := by
  obtain ⟨h1, h2, h3⟩ := h
  refine ⟨?_, h2, fun s t hp => ?_⟩
  · rcases h1 with h1 | ⟨s, t, h4, h5⟩
    · exact Or.inl h1
    · exact Or.inr ⟨s, t, (hn s t).2 (Or.inl h4), h5⟩
  · rcases (hn s t).1 hp with hp | ⟨rfl, rfl⟩
    · exact h3 s t hp
    · omega
def rP (NA NB x y : Int) (s t : Nat) : Prop := mV NA NB s t ∧ (((s / 2 : Nat) : Int) < x ∨ (((s / 2 : Nat) : Int) = x ∧ ((t / 2 : Nat) : Int) < y))
def rQ (NA NB x y : Int) (s t : Nat) : Prop := rP NA NB x y s t ∨ (s = (2 * x).toNat ∧ t = (2 * y).toNat)
theorem rP_0 {NA NB : Int} (me : Nat → Nat → Int) : mJ me (rP NA NB 0 0) 268435456 := ⟨Or.inl rfl, by decide, fun s t h => by unfold rP at h; omega⟩
theorem rP_out {za zb x y : Int} (hy : zb ≤ y) (s t : Nat) : rP (2 * za - 1) (2 * zb - 1) (x + 1) 0 s t ↔ rP (2 * za - 1) (2 * zb - 1) x y s t := by unfold rP mV; omega
theorem rP_q {za zb x y : Int} (hx : 0 ≤ x) (hy : 0 ≤ y) (hA : x < za) (hB : y < zb) (he : x + 1 = za ∨ y + 1 = zb) (s t : Nat) : rP (2 * za - 1) (2 * zb - 1) x (y + 1) s t ↔ rQ (2 * za - 1) (2 * zb - 1) x y s t := by unfold rQ rP mV; omega
theorem rP_s {za zb x y : Int} (hx : 0 ≤ x) (hy : 0 ≤ y) (hA : x + 1 < za) (hB : y + 1 < zb) (s t : Nat) : rP (2 * za - 1) (2 * zb - 1) x (y + 1) s t ↔ rQ (2 * za - 1) (2 * zb - 1) x y s t ∨ (s = (2 * x + 1).toNat ∧ t = (2 * y + 1).toNat) := by unfold rQ rP mV; omega
theorem rP_all {za zb x : Int} (hx : za ≤ x) (s t : Nat) : mV (2 * za - 1) (2 * zb - 1) s t ↔ rP (2 * za - 1) (2 * zb - 1) x 0 s t := by unfold rP mV; omega
/-- heads and tails: the reference's reckoning -/
def hdr (σ : Nat → Nat → Int) (s2 s5 : Nat) (k : Int) (i : Nat) : Int := zw (σ s2 k.toNat + σ s5 (12 * k + (i : Int)).toNat)
def ldr (σ : Nat → Nat → Int) (s2 s3 s5 : Nat) (k : Int) (i : Nat) : Int := zw (zw (σ s2 k.toNat + σ s5 (12 * k + (i : Int)).toNat) + σ s3 k.toNat)
def cdr (σ : Nat → Nat → Int) (s4 : Nat) (k : Int) (i : Nat) : Int := σ s4 (12 * k + (i : Int)).toNat
def mu (σ : Nat → Nat → Int) (s2 s3 s4 s5 : Nat) (k1 k2 : Int) : Nat → Nat → Int := mg 268435456 (cdr σ s4 k1) (hdr σ s2 s5 k1) (ldr σ s2 s3 s5 k1) (cdr σ s4 k2) (hdr σ s2 s5 k2) (ldr σ s2 s3 s5 k2)
theorem cdr_at {σ : Nat → Nat → Int} {s4 : Nat} {k x : Int} (hk : 0 ≤ k) (hx : 0 ≤ x) : cdr σ s4 k x.toNat = σ s4 (12 * k + x).toNat := by
  unfold cdr
  rw [show ((x.toNat : Nat) : Int) = x by omega]
theorem hdr_at {σ : Nat → Nat → Int} {s2 s5 : Nat} {k x : Int} (hx : 0 ≤ x) : hdr σ s2 s5 k x.toNat = zw (σ s2 k.toNat + σ s5 (12 * k + x).toNat) := by
  unfold hdr
  rw [show ((x.toNat : Nat) : Int) = x by omega]
theorem ldr_at {σ : Nat → Nat → Int} {s2 s3 s5 : Nat} {k x : Int} (hx : 0 ≤ x) : ldr σ s2 s3 s5 k x.toNat = zw (zw (σ s2 k.toNat + σ s5 (12 * k + x).toNat) + σ s3 k.toNat) := by
  unfold ldr
  rw [show ((x.toNat : Nat) : Int) = x by omega]
theorem mu_c {σ : Nat → Nat → Int} {s2 s3 s4 s5 : Nat} {k1 k2 x y : Int} (h1 : 0 ≤ k1) (h2 : 0 ≤ k2) (hx : 0 ≤ x) (hy : 0 ≤ y) : (σ s4 (12 * k1 + x).toNat = σ s4 (12 * k2 + y).toNat → mu σ s2 s3 s4 s5 k1 k2 (2 * x).toNat (2 * y).toNat = tog 268435456 (hdr σ s2 s5 k1 x.toNat) (ldr σ s2 s3 s5 k1 x.toNat) (hdr σ s2 s5 k2 y.toNat) (ldr σ s2 s3 s5 k2 y.toNat)) ∧ (σ s4 (12 * k1 + x).toNat ≠ σ s4 (12 * k2 + y).toNat → mu σ s2 s3 s4 s5 k1 k2 (2 * x).toNat (2 * y).toNat = 268435456) := by
  have e1 : (2 * x / 2).toNat = x.toNat := by omega
  have e2 : ((2 * x + 1) / 2).toNat = x.toNat := by omega
  have e3 : (2 * y / 2).toNat = y.toNat := by omega
  have e4 : ((2 * y + 1) / 2).toNat = y.toNat := by omega
  refine ⟨fun h => ?_, fun h => ?_⟩
  · have := mg_y (D := 268435456) (cf := cdr σ s4 k1) (hf := hdr σ s2 s5 k1) (lf := ldr σ s2 s3 s5 k1) (cg := cdr σ s4 k2) (hg := hdr σ s2 s5 k2) (lg := ldr σ s2 s3 s5 k2) (x := 2 * x) (y := 2 * y) (by omega) (by omega) (by rw [e1, e2, e3, e4, cdr_at h1 hx, cdr_at h2 hy]; exact ⟨h, h⟩)
    rw [e1, e2, e3, e4] at this
    exact this
  · exact mg_n (by omega) (by omega) (by rw [e1, e2, e3, e4, cdr_at h1 hx, cdr_at h2 hy]; exact fun q => h q.1)
theorem mu_s {σ : Nat → Nat → Int} {s2 s3 s4 s5 : Nat} {k1 k2 x y : Int} (h1 : 0 ≤ k1) (h2 : 0 ≤ k2) (hx : 0 ≤ x) (hy : 0 ≤ y) : (σ s4 (12 * k1 + x).toNat = σ s4 (12 * k2 + y + 1).toNat ∧ σ s4 (12 * k1 + x + 1).toNat = σ s4 (12 * k2 + y).toNat → mu σ s2 s3 s4 s5 k1 k2 (2 * x + 1).toNat (2 * y + 1).toNat = tog 268435456 (hdr σ s2 s5 k1 x.toNat) (ldr σ s2 s3 s5 k1 (x + 1).toNat) (hdr σ s2 s5 k2 y.toNat) (ldr σ s2 s3 s5 k2 (y + 1).toNat)) ∧ (¬ (σ s4 (12 * k1 + x).toNat = σ s4 (12 * k2 + y + 1).toNat ∧ σ s4 (12 * k1 + x + 1).toNat = σ s4 (12 * k2 + y).toNat) → mu σ s2 s3 s4 s5 k1 k2 (2 * x + 1).toNat (2 * y + 1).toNat = 268435456) := by
  have e1 : ((2 * x + 1) / 2).toNat = x.toNat := by omega
  have e2 : ((2 * x + 1 + 1) / 2).toNat = (x + 1).toNat := by omega
  have e3 : ((2 * y + 1) / 2).toNat = y.toNat := by omega
  have e4 : ((2 * y + 1 + 1) / 2).toNat = (y + 1).toNat := by omega
  have f1 : 12 * k1 + (x + 1) = 12 * k1 + x + 1 := by omega
  have f2 : 12 * k2 + (y + 1) = 12 * k2 + y + 1 := by omega
  refine ⟨fun h => ?_, fun h => ?_⟩
  · have := mg_y (D := 268435456) (cf := cdr σ s4 k1) (hf := hdr σ s2 s5 k1) (lf := ldr σ s2 s3 s5 k1) (cg := cdr σ s4 k2) (hg := hdr σ s2 s5 k2) (lg := ldr σ s2 s3 s5 k2) (x := 2 * x + 1) (y := 2 * y + 1) (by omega) (by omega) (by rw [e1, e2, e3, e4, cdr_at h1 hx, cdr_at h2 hy, cdr_at h1 (x := x + 1) (by omega), cdr_at h2 (x := y + 1) (by omega), f1, f2]; exact h)
    rw [e1, e2, e3, e4] at this
    exact this
  · exact mg_n (by omega) (by omega) (by rw [e1, e2, e3, e4, cdr_at h1 hx, cdr_at h2 hy, cdr_at h1 (x := x + 1) (by omega), cdr_at h2 (x := y + 1) (by omega), f1, f2]; exact h)
theorem tog_cg {D a1 a2 a3 a4 b1 b2 b3 b4 : Int} (e1 : a1 = b1) (e2 : a2 = b2) (e3 : a3 = b3) (e4 : a4 = b4) : tog D a1 a2 a3 a4 = tog D b1 b2 b3 b4 := by rw [e1, e2, e3, e4]
def zm_two (σ : Nat → Nat → Int) (s1 s2 s3 s4 s5 : Nat) (k1 k2 f : Int) : Prop := mJ (mu σ s2 s3 s4 s5 k1 k2) (mV (2 * σ s1 k1.toNat - 1) (2 * σ s1 k2.toNat - 1)) f
def zg_ok (σ : Nat → Nat → Int) (s1 : Nat) (k : Int) : Prop := (0 ≤ k ∧ k ≤ 11) ∧ 2 ≤ σ s1 k.toNat
def zm_meet (σ : Nat → Nat → Int) (s1 s2 s3 s4 s5 : Nat) (k1 k2 rv : Int) : Prop := (¬ (zg_ok σ s1 k1 ∧ zg_ok σ s1 k2 ∧ k1 ≠ k2) → rv = -2) ∧ (zg_ok σ s1 k1 → zg_ok σ s1 k2 → k1 ≠ k2 → ∃ f : Int, zm_two σ s1 s2 s3 s4 s5 k1 k2 f ∧ rv = if f = 268435456 then -1 else f)

set_option maxHeartbeats 4000000 in
set_option maxRecDepth 100000 in
theorem ct_X5_leaves (l : Launch) (g : sv_G) (A : Nat → Prop) (ty : Nat → Nat) (σ : Nat → Nat → Int) (hok : sv_ok ty σ) (hTA : ∀ q, ty q ≠ 0 → A q) (hI : sv_inv sp_1 ty σ) (a : Nat) (k_a : ty a = 9) (v : Int) (h_v : 0 ≤ v ∧ v ≤ 22) (qr : Nat) (k_qr : ty qr = 41) (zT : Int) (h_zT : 0 ≤ zT ∧ zT ≤ 30) (ea3 : σ a 3 = (qr : Int) + 1) (ea4 : σ a 4 = zT) : sv_M l yX5_leaves cX5_leaves 2 (some .int) { frames := 0, cells := 0, slots := 0, locals := 0 } g A ty σ [sv_r a, sv_i v] (fun r σ' => σ = σ' ∧ ∃ rv : Int, r = [sv_i rv] ∧ ((-2147483648) ≤ rv ∧ rv ≤ 2147483647) ∧ ((-2147483648) ≤ rv → rv ≤ 2147483647 → rv = zw (σ qr ((v + 1) / 2).toNat + zT))) := by
  refine sv_enter (by decide) (Nat.le_of_ble_eq_true rfl) ?_
  intro p e s m args below meth c C hr
  have C : sv_C g A RX5 cX5_leaves 2 p s m args meth c := C
  have hr : meth.sig.returnType = (some .int) := hr
  have hF : sv_ofx [] [] ty σ σ := sv_ofx.rf
  refine sv_same (st2 := []) (lv2 := [(0, sv_r a), (1, sv_i v)]) rfl rfl ?_
  refine sv_go C.1 C.2.1 [(.aload_n 0, 1)] (pc' := 1) (by decide +kernel) rfl (lv' := [(0, sv_r a), (1, sv_i v)]) (st' := [sv_r a]) rfl ?_
  refine sv_gf C (index := 15) (ci := 4) (k := 3) (r := (RX5, TX5, 5)) (v := sv_r qr) (by decide +kernel) (by rw [k_a]; rfl) rfl (by decide) fl_X5_15 (congrArg sv_a ea3) ?_
  refine sv_go C.1 C.2.1 [(.iload_n 1, 1), (.iconst 1, 1), (.iadd, 1), (.iconst 2, 1)] (pc' := 8) (by decide +kernel) rfl (lv' := [(0, sv_r a), (1, sv_i v)]) (st' := [sv_i 2, sv_i (v + 1), sv_r qr]) rfl ?_
  refine sv_idivP C.1 C.2.1 (by decide +kernel) ⟨by omega, by omega⟩ ⟨by omega, by omega⟩ ?_
  refine sv_ia C (n := 12) (by decide +kernel) (by rw [k_qr]; rfl) (by decide) (by omega) (by omega) ?_
  obtain ⟨v1, ev1, hv1⟩ := sv_rde hok (a := qr) (k := ((v + 1) / 2 : Int).toNat) (n := 12) (by rw [k_qr]; rfl) (by omega)
  rw [ev1]
  refine sv_go C.1 C.2.1 [(.aload_n 0, 1)] (pc' := 11) (by decide +kernel) rfl (lv' := [(0, sv_r a), (1, sv_i v)]) (st' := [sv_r a, sv_i v1]) rfl ?_
  refine sv_gf C (index := 25) (ci := 4) (k := 4) (r := (RX5, TX5, 5)) (v := sv_i zT) (by decide +kernel) (by rw [k_a]; rfl) rfl (by decide) fl_X5_25 (congrArg sv_i ea4) ?_
  refine sv_go C.1 C.2.1 [(.iadd, 1)] (pc' := 15) (by decide +kernel) rfl (lv' := [(0, sv_r a), (1, sv_i v)]) (st' := [sv_i (v1 + zT)]) rfl ?_
  obtain ⟨w2, hw2, ew2⟩ := sv_wr (v1 + zT)
  refine sv_sameD (st2 := [sv_i w2]) (lv2 := [(0, sv_r a), (1, sv_i v)]) (by simp only [List.map_cons, List.map_nil, sv_den_i, ew2]) rfl ?_
  exact sv_iret C hr (by decide +kernel) hok (⟨rfl, ⟨_, rfl, ⟨by omega, by omega⟩, fun _ _ => (by (try rw [ev1]); exact zw_eq hw2 ew2)⟩⟩)

set_option maxHeartbeats 4000000 in
set_option maxRecDepth 100000 in
theorem ct_X5_crosses (l : Launch) (g : sv_G) (A : Nat → Prop) (ty : Nat → Nat) (σ : Nat → Nat → Int) (hok : sv_ok ty σ) (hTA : ∀ q, ty q ≠ 0 → A q) (hI : sv_inv sp_1 ty σ) (a : Nat) (k_a : ty a = 9) (v : Int) (h_v : 0 ≤ v ∧ v ≤ 22) (b : Nat) (k_b : ty b = 9) (w : Int) (h_w : 0 ≤ w ∧ w ≤ 22) (qc : Nat) (k_qc : ty qc = 40) (yc : Nat) (k_yc : ty yc = 40) (ea2 : σ a 2 = (qc : Int) + 1) (eb2 : σ b 2 = (yc : Int) + 1) : sv_M l yX5_crosses cX5_crosses 4 (some .boolean) { frames := 0, cells := 0, slots := 0, locals := 0 } g A ty σ [sv_r a, sv_i v, sv_r b, sv_i w] (fun r σ' => σ = σ' ∧ ∃ rv : Int, r = [sv_i rv] ∧ (0 ≤ rv ∧ rv ≤ 1) ∧ (1 ≤ rv → rv ≤ 1 → σ qc (v / 2).toNat = σ yc ((w + 1) / 2).toNat ∧ σ qc ((v + 1) / 2).toNat = σ yc (w / 2).toNat) ∧ (0 ≤ rv → rv ≤ 0 → ¬ (σ qc (v / 2).toNat = σ yc ((w + 1) / 2).toNat ∧ σ qc ((v + 1) / 2).toNat = σ yc (w / 2).toNat))) := by
  refine sv_enter (by decide) (Nat.le_of_ble_eq_true rfl) ?_
  intro p e s m args below meth c C hr
  have C : sv_C g A RX5 cX5_crosses 4 p s m args meth c := C
  have hr : meth.sig.returnType = (some .boolean) := hr
  have hF : sv_ofx [] [] ty σ σ := sv_ofx.rf
  refine sv_same (st2 := []) (lv2 := [(0, sv_r a), (1, sv_i v), (2, sv_r b), (3, sv_i w)]) rfl rfl ?_
  refine sv_go C.1 C.2.1 [(.aload_n 0, 1)] (pc' := 1) (by decide +kernel) rfl (lv' := [(0, sv_r a), (1, sv_i v), (2, sv_r b), (3, sv_i w)]) (st' := [sv_r a]) rfl ?_
  refine sv_gf C (index := 9) (ci := 4) (k := 2) (r := (RX5, TX5, 5)) (v := sv_r qc) (by decide +kernel) (by rw [k_a]; rfl) rfl (by decide) fl_X5_9 (congrArg sv_a ea2) ?_
  refine sv_go C.1 C.2.1 [(.iload_n 1, 1), (.iconst 2, 1)] (pc' := 6) (by decide +kernel) rfl (lv' := [(0, sv_r a), (1, sv_i v), (2, sv_r b), (3, sv_i w)]) (st' := [sv_i 2, sv_i v, sv_r qc]) rfl ?_
  refine sv_idivP C.1 C.2.1 (by decide +kernel) ⟨by omega, by omega⟩ ⟨by omega, by omega⟩ ?_
  refine sv_ia C (n := 12) (by decide +kernel) (by rw [k_qc]; rfl) (by decide) (by omega) (by omega) ?_
  obtain ⟨v1, ev1, hv1⟩ := sv_rdn hI (k := (v / 2 : Int).toNat) k_qc rfl
  rw [ev1]
  refine sv_go C.1 C.2.1 [(.aload_n 2, 1)] (pc' := 9) (by decide +kernel) rfl (lv' := [(0, sv_r a), (1, sv_i v), (2, sv_r b), (3, sv_i w)]) (st' := [sv_r b, sv_i v1]) rfl ?_
  refine sv_gf C (index := 9) (ci := 4) (k := 2) (r := (RX5, TX5, 5)) (v := sv_r yc) (by decide +kernel) (by rw [k_b]; rfl) rfl (by decide) fl_X5_9 (congrArg sv_a eb2) ?_
  refine sv_go C.1 C.2.1 [(.iload_n 3, 1), (.iconst 1, 1), (.iadd, 1), (.iconst 2, 1)] (pc' := 16) (by decide +kernel) rfl (lv' := [(0, sv_r a), (1, sv_i v), (2, sv_r b), (3, sv_i w)]) (st' := [sv_i 2, sv_i (w + 1), sv_r yc, sv_i v1]) rfl ?_
  refine sv_idivP C.1 C.2.1 (by decide +kernel) ⟨by omega, by omega⟩ ⟨by omega, by omega⟩ ?_
  refine sv_ia C (n := 12) (by decide +kernel) (by rw [k_yc]; rfl) (by decide) (by omega) (by omega) ?_
  obtain ⟨v2, ev2, hv2⟩ := sv_rdn hI (k := ((w + 1) / 2 : Int).toNat) k_yc rfl
  rw [ev2]
  refine sv_icmp C.1 C.2.1 (cnd := .ne) (off := 28) (tgt := 46) (by decide +kernel) (by decide) ⟨by omega, by omega⟩ ⟨by omega, by omega⟩ (fun (h3 : v1 ≠ v2) => ?_) (fun (h3 : ¬ (v1 ≠ v2)) => ?_)
  · refine sv_go C.1 C.2.1 [(.iconst 0, 1)] (pc' := 47) (by decide +kernel) rfl (lv' := [(0, sv_r a), (1, sv_i v), (2, sv_r b), (3, sv_i w)]) (st' := [sv_i 0]) rfl ?_
    exact sv_zret C hr (by omega) (by decide +kernel) hok (⟨rfl, ⟨_, rfl, ⟨by omega, by omega⟩, fun _ _ => (by exfalso; omega), fun _ _ => (fun hh => by omega)⟩⟩)
  · refine sv_go C.1 C.2.1 [(.aload_n 0, 1)] (pc' := 22) (by decide +kernel) rfl (lv' := [(0, sv_r a), (1, sv_i v), (2, sv_r b), (3, sv_i w)]) (st' := [sv_r a]) rfl ?_
    refine sv_gf C (index := 9) (ci := 4) (k := 2) (r := (RX5, TX5, 5)) (v := sv_r qc) (by decide +kernel) (by rw [k_a]; rfl) rfl (by decide) fl_X5_9 (congrArg sv_a ea2) ?_
    refine sv_go C.1 C.2.1 [(.iload_n 1, 1), (.iconst 1, 1), (.iadd, 1), (.iconst 2, 1)] (pc' := 29) (by decide +kernel) rfl (lv' := [(0, sv_r a), (1, sv_i v), (2, sv_r b), (3, sv_i w)]) (st' := [sv_i 2, sv_i (v + 1), sv_r qc]) rfl ?_
    refine sv_idivP C.1 C.2.1 (by decide +kernel) ⟨by omega, by omega⟩ ⟨by omega, by omega⟩ ?_
    refine sv_ia C (n := 12) (by decide +kernel) (by rw [k_qc]; rfl) (by decide) (by omega) (by omega) ?_
    obtain ⟨v4, ev4, hv4⟩ := sv_rdn hI (k := ((v + 1) / 2 : Int).toNat) k_qc rfl
    rw [ev4]
    refine sv_go C.1 C.2.1 [(.aload_n 2, 1)] (pc' := 32) (by decide +kernel) rfl (lv' := [(0, sv_r a), (1, sv_i v), (2, sv_r b), (3, sv_i w)]) (st' := [sv_r b, sv_i v4]) rfl ?_
    refine sv_gf C (index := 9) (ci := 4) (k := 2) (r := (RX5, TX5, 5)) (v := sv_r yc) (by decide +kernel) (by rw [k_b]; rfl) rfl (by decide) fl_X5_9 (congrArg sv_a eb2) ?_
    refine sv_go C.1 C.2.1 [(.iload_n 3, 1), (.iconst 2, 1)] (pc' := 37) (by decide +kernel) rfl (lv' := [(0, sv_r a), (1, sv_i v), (2, sv_r b), (3, sv_i w)]) (st' := [sv_i 2, sv_i w, sv_r yc, sv_i v4]) rfl ?_
    refine sv_idivP C.1 C.2.1 (by decide +kernel) ⟨by omega, by omega⟩ ⟨by omega, by omega⟩ ?_
    refine sv_ia C (n := 12) (by decide +kernel) (by rw [k_yc]; rfl) (by decide) (by omega) (by omega) ?_
    obtain ⟨v5, ev5, hv5⟩ := sv_rdn hI (k := (w / 2 : Int).toNat) k_yc rfl
    rw [ev5]
    refine sv_icmp C.1 C.2.1 (cnd := .ne) (off := 7) (tgt := 46) (by decide +kernel) (by decide) ⟨by omega, by omega⟩ ⟨by omega, by omega⟩ (fun (h6 : v4 ≠ v5) => ?_) (fun (h6 : ¬ (v4 ≠ v5)) => ?_)
    · refine sv_go C.1 C.2.1 [(.iconst 0, 1)] (pc' := 47) (by decide +kernel) rfl (lv' := [(0, sv_r a), (1, sv_i v), (2, sv_r b), (3, sv_i w)]) (st' := [sv_i 0]) rfl ?_
      exact sv_zret C hr (by omega) (by decide +kernel) hok (⟨rfl, ⟨_, rfl, ⟨by omega, by omega⟩, fun _ _ => (by exfalso; omega), fun _ _ => (fun hh => by omega)⟩⟩)
    · refine sv_go C.1 C.2.1 [(.iconst 1, 1)] (pc' := 43) (by decide +kernel) rfl (lv' := [(0, sv_r a), (1, sv_i v), (2, sv_r b), (3, sv_i w)]) (st' := [sv_i 1]) rfl ?_
      refine sv_goto C.1 C.2.1 (off := 4) (tgt := 47) (by decide +kernel) (by decide) ?_
      exact sv_zret C hr (by omega) (by decide +kernel) hok (⟨rfl, ⟨_, rfl, ⟨by omega, by omega⟩, fun _ _ => ⟨by omega, by omega⟩, fun _ _ => (by exfalso; omega)⟩⟩)

set_option maxHeartbeats 4000000 in
set_option maxRecDepth 100000 in
theorem ct_X5_firstShared (l : Launch) (g : sv_G) (A : Nat → Prop) (ty : Nat → Nat) (σ : Nat → Nat → Int) (hok : sv_ok ty σ) (hTA : ∀ q, ty q ≠ 0 → A q) (hI : sv_inv sp_1 ty σ) (a : Nat) (k_a : ty a = 9) (v : Int) (h_v : 0 ≤ v ∧ v ≤ 22) (b : Nat) (k_b : ty b = 9) (w : Int) (h_w : 0 ≤ w ∧ w ≤ 22) (zB : Int) (h_zB : 0 ≤ zB ∧ zB ≤ 1440) (qr : Nat) (k_qr : ty qr = 41) (zT : Int) (h_zT : 0 ≤ zT ∧ zT ≤ 30) (yB : Int) (h_yB : 0 ≤ yB ∧ yB ≤ 1440) (yr : Nat) (k_yr : ty yr = 41) (yT : Int) (h_yT : 0 ≤ yT ∧ yT ≤ 30) (ea1 : σ a 1 = zB) (ea3 : σ a 3 = (qr : Int) + 1) (ea4 : σ a 4 = zT) (eb1 : σ b 1 = yB) (eb3 : σ b 3 = (yr : Int) + 1) (eb4 : σ b 4 = yT) : sv_M l yX5_firstShared cX5_firstShared 6 (some .int) { frames := 1, cells := 0, slots := 0, locals := 21 } g A ty σ [sv_r a, sv_i v, sv_r b, sv_i w] (fun r σ' => σ = σ' ∧ ∃ rv : Int, r = [sv_i rv] ∧ ((-2147483648) ≤ rv ∧ rv ≤ 2147483647) ∧ ((-2147483648) ≤ rv → rv ≤ 2147483647 → rv = tog (-1) (zw (zB + σ qr (v / 2).toNat)) (zw (zB + zw (σ qr ((v + 1) / 2).toNat + zT))) (zw (yB + σ yr (w / 2).toNat)) (zw (yB + zw (σ yr ((w + 1) / 2).toNat + yT))))) := by
  refine sv_enter (by decide) (Nat.le_of_ble_eq_true rfl) ?_
  intro p e s m args below meth c C hr
  have C : sv_C g A RX5 cX5_firstShared 6 p s m args meth c := C
  have hr : meth.sig.returnType = (some .int) := hr
  have hF : sv_ofx [] [] ty σ σ := sv_ofx.rf
  refine sv_same (st2 := []) (lv2 := [(0, sv_r a), (1, sv_i v), (2, sv_r b), (3, sv_i w)]) rfl rfl ?_
  refine sv_go C.1 C.2.1 [(.aload_n 0, 1)] (pc' := 1) (by decide +kernel) rfl (lv' := [(0, sv_r a), (1, sv_i v), (2, sv_r b), (3, sv_i w)]) (st' := [sv_r a]) rfl ?_
  refine sv_gf C (index := 22) (ci := 4) (k := 1) (r := (RX5, TX5, 5)) (v := sv_i zB) (by decide +kernel) (by rw [k_a]; rfl) rfl (by decide) fl_X5_22 (congrArg sv_i ea1) ?_
  refine sv_go C.1 C.2.1 [(.aload_n 0, 1), (.iload_n 1, 1)] (pc' := 6) (by decide +kernel) rfl (lv' := [(0, sv_r a), (1, sv_i v), (2, sv_r b), (3, sv_i w)]) (st' := [sv_i v, sv_r a, sv_i zB]) rfl ?_
  refine sv_cv C (index := 32) (k := 1) (rest := [sv_i zB]) (ci := 4) (r := (RX5, TX5, 5)) (by decide +kernel) (ct_X5_comes l g A ty σ hok hTA hI a k_a (v) ⟨by omega, by omega⟩ qr k_qr ea3) ⟨co_X5_comes, in_X5, ⟨by decide, by decide, by decide +kernel⟩, Nat.le_of_ble_eq_true rfl, Nat.le_of_ble_eq_true rfl⟩ ml_X5_32 im_X5_comes se_X5_comes (by rw [k_a]; rfl) rfl rfl rfl (Nat.le_of_ble_eq_true rfl) ⟨Nat.zero_le _, Nat.zero_le _⟩ (fun r2 σ3 hpo1 hok4 => ?_)
  obtain ⟨rfl, ⟨vu5, rfl, hvu5, ivu5_0⟩⟩ := hpo1
  have hp6 := ivu5_0 (by omega) (by omega)
  refine sv_same (st2 := [sv_i vu5, sv_i zB]) (lv2 := [(0, sv_r a), (1, sv_i v), (2, sv_r b), (3, sv_i w)]) rfl rfl ?_
  refine sv_go C.1 C.2.1 [(.iadd, 1), (.aload_n 2, 1)] (pc' := 11) (by decide +kernel) rfl (lv' := [(0, sv_r a), (1, sv_i v), (2, sv_r b), (3, sv_i w)]) (st' := [sv_r b, sv_i (zB + vu5)]) rfl ?_
  refine sv_gf C (index := 22) (ci := 4) (k := 1) (r := (RX5, TX5, 5)) (v := sv_i yB) (by decide +kernel) (by rw [k_b]; rfl) rfl (by decide) fl_X5_22 (congrArg sv_i eb1) ?_
  refine sv_go C.1 C.2.1 [(.aload_n 2, 1), (.iload_n 3, 1)] (pc' := 16) (by decide +kernel) rfl (lv' := [(0, sv_r a), (1, sv_i v), (2, sv_r b), (3, sv_i w)]) (st' := [sv_i w, sv_r b, sv_i yB, sv_i (zB + vu5)]) rfl ?_
  refine sv_cv C (index := 32) (k := 1) (rest := [sv_i yB, sv_i (zB + vu5)]) (ci := 4) (r := (RX5, TX5, 5)) (by decide +kernel) (ct_X5_comes l g A ty σ hok4 hTA hI b k_b (w) ⟨by omega, by omega⟩ yr k_yr eb3) ⟨co_X5_comes, in_X5, ⟨by decide, by decide, by decide +kernel⟩, Nat.le_of_ble_eq_true rfl, Nat.le_of_ble_eq_true rfl⟩ ml_X5_32 im_X5_comes se_X5_comes (by rw [k_b]; rfl) rfl rfl rfl (Nat.le_of_ble_eq_true rfl) ⟨Nat.zero_le _, Nat.zero_le _⟩ (fun r8 σ9 hpo7 hok10 => ?_)
  obtain ⟨rfl, ⟨vu11, rfl, hvu11, ivu11_0⟩⟩ := hpo7
  have hp12 := ivu11_0 (by omega) (by omega)
  refine sv_same (st2 := [sv_i vu11, sv_i yB, sv_i (zB + vu5)]) (lv2 := [(0, sv_r a), (1, sv_i v), (2, sv_r b), (3, sv_i w)]) rfl rfl ?_
  refine sv_go C.1 C.2.1 [(.iadd, 1)] (pc' := 20) (by decide +kernel) rfl (lv' := [(0, sv_r a), (1, sv_i v), (2, sv_r b), (3, sv_i w)]) (st' := [sv_i (yB + vu11), sv_i (zB + vu5)]) rfl ?_
  obtain ⟨w13, hw13, ew13⟩ := sv_wr (yB + vu11)
  refine sv_sameD (st2 := [sv_i w13, sv_i (zB + vu5)]) (lv2 := [(0, sv_r a), (1, sv_i v), (2, sv_r b), (3, sv_i w)]) (by simp only [List.map_cons, List.map_nil, sv_den_i, ew13]) rfl ?_
  obtain ⟨w14, hw14, ew14⟩ := sv_wr (zB + vu5)
  refine sv_sameD (st2 := [sv_i w13, sv_i w14]) (lv2 := [(0, sv_r a), (1, sv_i v), (2, sv_r b), (3, sv_i w)]) (by simp only [List.map_cons, List.map_nil, sv_den_i, ew14]) rfl ?_
  refine sv_max C (index := 47) (by decide +kernel) ml_X5_47 ⟨by omega, by omega⟩ ⟨by omega, by omega⟩ (Nat.le_of_ble_eq_true rfl) (Nat.le_of_ble_eq_true rfl) ⟨Nat.zero_le _, Nat.zero_le _⟩ ?_
  obtain ⟨mm15, hmm15⟩ : ∃ q : Int, q = (if (w14 : Int) < w13 then w13 else w14) := ⟨_, rfl⟩
  refine sv_same (st2 := [sv_i mm15]) (lv2 := [(0, sv_r a), (1, sv_i v), (2, sv_r b), (3, sv_i w)]) (by rw [hmm15]) rfl ?_
  refine sv_go C.1 C.2.1 [(.istore 4, 2), (.aload_n 0, 1)] (pc' := 26) (by decide +kernel) rfl (lv' := [(0, sv_r a), (1, sv_i v), (2, sv_r b), (3, sv_i w), (4, sv_i mm15)]) (st' := [sv_r a]) rfl ?_
  refine sv_gf C (index := 22) (ci := 4) (k := 1) (r := (RX5, TX5, 5)) (v := sv_i zB) (by decide +kernel) (by rw [k_a]; rfl) rfl (by decide) fl_X5_22 (congrArg sv_i ea1) ?_
  refine sv_go C.1 C.2.1 [(.aload_n 0, 1), (.iload_n 1, 1)] (pc' := 31) (by decide +kernel) rfl (lv' := [(0, sv_r a), (1, sv_i v), (2, sv_r b), (3, sv_i w), (4, sv_i mm15)]) (st' := [sv_i v, sv_r a, sv_i zB]) rfl ?_
  refine sv_cv C (index := 53) (k := 1) (rest := [sv_i zB]) (ci := 4) (r := (RX5, TX5, 5)) (by decide +kernel) (ct_X5_leaves l g A ty σ hok10 hTA hI a k_a (v) ⟨by omega, by omega⟩ qr k_qr (zT) ⟨by omega, by omega⟩ ea3 ea4) ⟨co_X5_leaves, in_X5, ⟨by decide, by decide, by decide +kernel⟩, Nat.le_of_ble_eq_true rfl, Nat.le_of_ble_eq_true rfl⟩ ml_X5_53 im_X5_leaves se_X5_leaves (by rw [k_a]; rfl) rfl rfl rfl (Nat.le_of_ble_eq_true rfl) ⟨Nat.zero_le _, Nat.zero_le _⟩ (fun r17 σ18 hpo16 hok19 => ?_)
  obtain ⟨rfl, ⟨vu20, rfl, hvu20, ivu20_0⟩⟩ := hpo16
  have hp21 := ivu20_0 (by omega) (by omega)
  refine sv_same (st2 := [sv_i vu20, sv_i zB]) (lv2 := [(0, sv_r a), (1, sv_i v), (2, sv_r b), (3, sv_i w), (4, sv_i mm15)]) rfl rfl ?_
  refine sv_go C.1 C.2.1 [(.iadd, 1), (.aload_n 2, 1)] (pc' := 36) (by decide +kernel) rfl (lv' := [(0, sv_r a), (1, sv_i v), (2, sv_r b), (3, sv_i w), (4, sv_i mm15)]) (st' := [sv_r b, sv_i (zB + vu20)]) rfl ?_
  refine sv_gf C (index := 22) (ci := 4) (k := 1) (r := (RX5, TX5, 5)) (v := sv_i yB) (by decide +kernel) (by rw [k_b]; rfl) rfl (by decide) fl_X5_22 (congrArg sv_i eb1) ?_
  refine sv_go C.1 C.2.1 [(.aload_n 2, 1), (.iload_n 3, 1)] (pc' := 41) (by decide +kernel) rfl (lv' := [(0, sv_r a), (1, sv_i v), (2, sv_r b), (3, sv_i w), (4, sv_i mm15)]) (st' := [sv_i w, sv_r b, sv_i yB, sv_i (zB + vu20)]) rfl ?_
  refine sv_cv C (index := 53) (k := 1) (rest := [sv_i yB, sv_i (zB + vu20)]) (ci := 4) (r := (RX5, TX5, 5)) (by decide +kernel) (ct_X5_leaves l g A ty σ hok19 hTA hI b k_b (w) ⟨by omega, by omega⟩ yr k_yr (yT) ⟨by omega, by omega⟩ eb3 eb4) ⟨co_X5_leaves, in_X5, ⟨by decide, by decide, by decide +kernel⟩, Nat.le_of_ble_eq_true rfl, Nat.le_of_ble_eq_true rfl⟩ ml_X5_53 im_X5_leaves se_X5_leaves (by rw [k_b]; rfl) rfl rfl rfl (Nat.le_of_ble_eq_true rfl) ⟨Nat.zero_le _, Nat.zero_le _⟩ (fun r23 σ24 hpo22 hok25 => ?_)
  obtain ⟨rfl, ⟨vu26, rfl, hvu26, ivu26_0⟩⟩ := hpo22
  have hp27 := ivu26_0 (by omega) (by omega)
  refine sv_same (st2 := [sv_i vu26, sv_i yB, sv_i (zB + vu20)]) (lv2 := [(0, sv_r a), (1, sv_i v), (2, sv_r b), (3, sv_i w), (4, sv_i mm15)]) rfl rfl ?_
  refine sv_go C.1 C.2.1 [(.iadd, 1)] (pc' := 45) (by decide +kernel) rfl (lv' := [(0, sv_r a), (1, sv_i v), (2, sv_r b), (3, sv_i w), (4, sv_i mm15)]) (st' := [sv_i (yB + vu26), sv_i (zB + vu20)]) rfl ?_
  obtain ⟨w28, hw28, ew28⟩ := sv_wr (yB + vu26)
  refine sv_sameD (st2 := [sv_i w28, sv_i (zB + vu20)]) (lv2 := [(0, sv_r a), (1, sv_i v), (2, sv_r b), (3, sv_i w), (4, sv_i mm15)]) (by simp only [List.map_cons, List.map_nil, sv_den_i, ew28]) rfl ?_
  obtain ⟨w29, hw29, ew29⟩ := sv_wr (zB + vu20)
  refine sv_sameD (st2 := [sv_i w28, sv_i w29]) (lv2 := [(0, sv_r a), (1, sv_i v), (2, sv_r b), (3, sv_i w), (4, sv_i mm15)]) (by simp only [List.map_cons, List.map_nil, sv_den_i, ew29]) rfl ?_
  refine sv_min C (index := 56) (by decide +kernel) ml_X5_56 ⟨by omega, by omega⟩ ⟨by omega, by omega⟩ (Nat.le_of_ble_eq_true rfl) (Nat.le_of_ble_eq_true rfl) ⟨Nat.zero_le _, Nat.zero_le _⟩ ?_
  obtain ⟨mm30, hmm30⟩ : ∃ q : Int, q = (if (w28 : Int) < w29 then w28 else w29) := ⟨_, rfl⟩
  refine sv_same (st2 := [sv_i mm30]) (lv2 := [(0, sv_r a), (1, sv_i v), (2, sv_r b), (3, sv_i w), (4, sv_i mm15)]) (by rw [hmm30]) rfl ?_
  refine sv_go C.1 C.2.1 [(.istore 5, 2), (.iload 4, 2), (.iload 5, 2)] (pc' := 54) (by decide +kernel) rfl (lv' := [(0, sv_r a), (1, sv_i v), (2, sv_r b), (3, sv_i w), (4, sv_i mm15), (5, sv_i mm30)]) (st' := [sv_i mm30, sv_i mm15]) rfl ?_
  refine sv_icmp C.1 C.2.1 (cnd := .gt) (off := 8) (tgt := 62) (by decide +kernel) (by decide) ⟨by omega, by omega⟩ ⟨by omega, by omega⟩ (fun (h31 : mm30 < mm15) => ?_) (fun (h31 : ¬ (mm30 < mm15)) => ?_)
  · refine sv_go C.1 C.2.1 [(.iconst (-1), 1)] (pc' := 63) (by decide +kernel) rfl (lv' := [(0, sv_r a), (1, sv_i v), (2, sv_r b), (3, sv_i w), (4, sv_i mm15), (5, sv_i mm30)]) (st' := [sv_i ((-1))]) rfl ?_
    exact sv_iret C hr (by decide +kernel) hok25 (⟨rfl, ⟨_, rfl, ⟨by omega, by omega⟩, fun _ _ => (by unfold tog; rw [← hp6, ← hp12, ← hp21, ← hp27, ← zw_eq hw14 ew14, ← zw_eq hw13 ew13, ← zw_eq hw29 ew29, ← zw_eq hw28 ew28, ← (show mm15 = mx w14 w13 from hmm15), ← (show mm30 = mn w29 w28 from hmm30)]; first | rw [if_pos (by omega)] | rw [if_neg (by omega)])⟩⟩)
  · refine sv_go C.1 C.2.1 [(.iload 4, 2)] (pc' := 59) (by decide +kernel) rfl (lv' := [(0, sv_r a), (1, sv_i v), (2, sv_r b), (3, sv_i w), (4, sv_i mm15), (5, sv_i mm30)]) (st' := [sv_i mm15]) rfl ?_
    refine sv_goto C.1 C.2.1 (off := 4) (tgt := 63) (by decide +kernel) (by decide) ?_
    exact sv_iret C hr (by decide +kernel) hok25 (⟨rfl, ⟨_, rfl, ⟨by omega, by omega⟩, fun _ _ => (by unfold tog; rw [← hp6, ← hp12, ← hp21, ← hp27, ← zw_eq hw14 ew14, ← zw_eq hw13 ew13, ← zw_eq hw29 ew29, ← zw_eq hw28 ew28, ← (show mm15 = mx w14 w13 from hmm15), ← (show mm30 = mn w29 w28 from hmm30)]; first | rw [if_pos (by omega)] | rw [if_neg (by omega)])⟩⟩)

set_option maxHeartbeats 4000000 in
set_option maxRecDepth 100000 in
theorem ct_X5_firstMeeting (l : Launch) (g : sv_G) (A : Nat → Prop) (ty : Nat → Nat) (σ : Nat → Nat → Int) (hok : sv_ok ty σ) (hTA : ∀ q, ty q ≠ 0 → A q) (hI : sv_inv sp_1 ty σ) (a : Nat) (k_a : ty a = 9) (b : Nat) (k_b : ty b = 9) (zz : Int) (h_zz : 0 ≤ zz ∧ zz ≤ 12) (zB : Int) (h_zB : 0 ≤ zB ∧ zB ≤ 1440) (qc : Nat) (k_qc : ty qc = 40) (qr : Nat) (k_qr : ty qr = 41) (zT : Int) (h_zT : 0 ≤ zT ∧ zT ≤ 30) (yz : Int) (h_yz : 0 ≤ yz ∧ yz ≤ 12) (yB : Int) (h_yB : 0 ≤ yB ∧ yB ≤ 1440) (yc : Nat) (k_yc : ty yc = 40) (yr : Nat) (k_yr : ty yr = 41) (yT : Int) (h_yT : 0 ≤ yT ∧ yT ≤ 30) (ea0 : σ a 0 = zz) (ea1 : σ a 1 = zB) (ea2 : σ a 2 = (qc : Int) + 1) (ea3 : σ a 3 = (qr : Int) + 1) (ea4 : σ a 4 = zT) (eb0 : σ b 0 = yz) (eb1 : σ b 1 = yB) (eb2 : σ b 2 = (yc : Int) + 1) (eb3 : σ b 3 = (yr : Int) + 1) (eb4 : σ b 4 = yT) : sv_M l yX5_firstMeeting cX5_firstMeeting 6 (some .int) { frames := 2, cells := 0, slots := 0, locals := 46 } g A ty σ [sv_r a, sv_r b] (fun r σ' => σ = σ' ∧ ∃ rv : Int, r = [sv_i rv] ∧ ((-1) ≤ rv ∧ rv ≤ 2147483647) ∧ ((-2147483648) ≤ rv → rv ≤ 2147483647 → mI (mg (-1) (σ qc) (hd σ zB qr) (lvs σ zB zT qr) (σ yc) (hd σ yB yr) (lvs σ yB yT yr)) (mV (2 * zz - 1) (2 * yz - 1)) rv)) := by
  refine sv_enter (by decide) (Nat.le_of_ble_eq_true rfl) ?_
  intro p e s m args below meth c C hr
  have C : sv_C g A RX5 cX5_firstMeeting 6 p s m args meth c := C
  have hr : meth.sig.returnType = (some .int) := hr
  have hF : sv_ofx [] [] ty σ σ := sv_ofx.rf
  refine sv_same (st2 := []) (lv2 := [(0, sv_r a), (1, sv_r b)]) rfl rfl ?_
  refine sv_go C.1 C.2.1 [(.iconst (-1), 1), (.istore_n 2, 1), (.iconst 0, 1), (.istore_n 3, 1)] (pc' := 4) (by decide +kernel) rfl (lv' := [(0, sv_r a), (1, sv_r b), (2, sv_i ((-1))), (3, sv_i 0)]) (st' := []) rfl ?_
  have L2 : ∀ (n : Nat) (Xg1_l2 : Int) (Xg1_l3 : Int), ((-1) ≤ Xg1_l2 ∧ Xg1_l2 ≤ 2147483647) → (0 ≤ Xg1_l3 ∧ Xg1_l3 ≤ 23) → (mI (mg (-1) (σ qc) (hd σ zB qr) (lvs σ zB zT qr) (σ yc) (hd σ yB yr) (lvs σ yB yT yr)) (mP (2 * zz - 1) (2 * yz - 1) Xg1_l3 0) Xg1_l2) → (23 - Xg1_l3) < (n : Int) → sv_E p l e { frames := 2, cells := 0, slots := 0, locals := 46 } s m args below meth c 6 g A ty (fun r σ' => σ = σ' ∧ ∃ rv : Int, r = [sv_i rv] ∧ ((-1) ≤ rv ∧ rv ≤ 2147483647) ∧ ((-2147483648) ≤ rv → rv ≤ 2147483647 → mI (mg (-1) (σ qc) (hd σ zB qr) (lvs σ zB zT qr) (σ yc) (hd σ yB yr) (lvs σ yB yT yr)) (mV (2 * zz - 1) (2 * yz - 1)) rv)) σ 4 [(0, sv_r a), (1, sv_r b), (2, sv_i Xg1_l2), (3, sv_i Xg1_l3)] [] := by
    intro n
    induction n with
    | zero => intro Xg1_l2 Xg1_l3 hXg1_l2 hXg1_l3 zo hmu; exact absurd hmu (by omega)
    | succ n ih3 =>
      intro Xg1_l2 Xg1_l3 hXg1_l2 hXg1_l3 zo hmu
      refine sv_go C.1 C.2.1 [(.iload_n 3, 1), (.aload_n 0, 1)] (pc' := 6) (by decide +kernel) rfl (lv' := [(0, sv_r a), (1, sv_r b), (2, sv_i Xg1_l2), (3, sv_i Xg1_l3)]) (st' := [sv_r a, sv_i Xg1_l3]) rfl ?_
      refine sv_cv C (index := 28) (k := 0) (rest := [sv_i Xg1_l3]) (ci := 4) (r := (RX5, TX5, 5)) (by decide +kernel) (sf_X5_stretches l g A ty σ hok hTA hI a k_a) ⟨co_X5_stretches, in_X5, ⟨by decide, by decide, by decide +kernel⟩, Nat.le_of_ble_eq_true rfl, Nat.le_of_ble_eq_true rfl⟩ ml_X5_28 im_X5_stretches se_X5_stretches (by rw [k_a]; rfl) rfl rfl rfl (Nat.le_of_ble_eq_true rfl) ⟨Nat.zero_le _, Nat.zero_le _⟩ (fun r5 σ6 hpo4 hok7 => ?_)
      obtain ⟨rfl, ⟨vu8, rfl, hvu8, ivu8_0⟩⟩ := hpo4
      have hp9 := ivu8_0 (by omega) (by omega)
      refine sv_same (st2 := [sv_i vu8, sv_i Xg1_l3]) (lv2 := [(0, sv_r a), (1, sv_r b), (2, sv_i Xg1_l2), (3, sv_i Xg1_l3)]) rfl rfl ?_
      refine sv_icmp C.1 C.2.1 (cnd := .ge) (off := 72) (tgt := 81) (by decide +kernel) (by decide) ⟨by omega, by omega⟩ ⟨by omega, by omega⟩ (fun (h10 : vu8 ≤ Xg1_l3) => ?_) (fun (h10 : ¬ (vu8 ≤ Xg1_l3)) => ?_)
      · refine sv_go C.1 C.2.1 [(.iload_n 2, 1)] (pc' := 82) (by decide +kernel) rfl (lv' := [(0, sv_r a), (1, sv_r b), (2, sv_i Xg1_l2), (3, sv_i Xg1_l3)]) (st' := [sv_i Xg1_l2]) rfl ?_
        exact sv_iret C hr (by decide +kernel) hok7 (⟨rfl, ⟨_, rfl, ⟨by omega, by omega⟩, fun _ _ => (mI_cg (mP_all (by omega)) zo)⟩⟩)
      · refine sv_go C.1 C.2.1 [(.iload_n 3, 1), (.iconst 2, 1)] (pc' := 14) (by decide +kernel) rfl (lv' := [(0, sv_r a), (1, sv_r b), (2, sv_i Xg1_l2), (3, sv_i Xg1_l3)]) (st' := [sv_i 2, sv_i Xg1_l3]) rfl ?_
        refine sv_iremP C.1 C.2.1 (by decide +kernel) ⟨by omega, by omega⟩ ⟨by omega, by omega⟩ ?_
        refine sv_go C.1 C.2.1 [(.istore 4, 2)] (pc' := 17) (by decide +kernel) rfl (lv' := [(0, sv_r a), (1, sv_r b), (2, sv_i Xg1_l2), (3, sv_i Xg1_l3), (4, sv_i (Xg1_l3 % 2))]) (st' := []) rfl ?_
        have L12 : ∀ (n : Nat) (Xg11_l2 : Int) (Xg11_l4 : Int), ((-1) ≤ Xg11_l2 ∧ Xg11_l2 ≤ 2147483647) → (0 ≤ Xg11_l4 ∧ Xg11_l4 ≤ 24) → (mI (mg (-1) (σ qc) (hd σ zB qr) (lvs σ zB zT qr) (σ yc) (hd σ yB yr) (lvs σ yB yT yr)) (mP (2 * zz - 1) (2 * yz - 1) Xg1_l3 Xg11_l4) Xg11_l2) → (Xg11_l4 % 2 = Xg1_l3 % 2) → (24 - Xg11_l4) < (n : Int) → sv_E p l e { frames := 2, cells := 0, slots := 0, locals := 46 } s m args below meth c 6 g A ty (fun r σ' => σ = σ' ∧ ∃ rv : Int, r = [sv_i rv] ∧ ((-1) ≤ rv ∧ rv ≤ 2147483647) ∧ ((-2147483648) ≤ rv → rv ≤ 2147483647 → mI (mg (-1) (σ qc) (hd σ zB qr) (lvs σ zB zT qr) (σ yc) (hd σ yB yr) (lvs σ yB yT yr)) (mV (2 * zz - 1) (2 * yz - 1)) rv)) σ 17 [(0, sv_r a), (1, sv_r b), (2, sv_i Xg11_l2), (3, sv_i Xg1_l3), (4, sv_i Xg11_l4)] [] := by
          intro n
          induction n with
          | zero => intro Xg11_l2 Xg11_l4 hXg11_l2 hXg11_l4 zi zp hmu; exact absurd hmu (by omega)
          | succ n ih13 =>
            intro Xg11_l2 Xg11_l4 hXg11_l2 hXg11_l4 zi zp hmu
            refine sv_go C.1 C.2.1 [(.iload 4, 2), (.aload_n 1, 1)] (pc' := 20) (by decide +kernel) rfl (lv' := [(0, sv_r a), (1, sv_r b), (2, sv_i Xg11_l2), (3, sv_i Xg1_l3), (4, sv_i Xg11_l4)]) (st' := [sv_r b, sv_i Xg11_l4]) rfl ?_
            refine sv_cv C (index := 28) (k := 0) (rest := [sv_i Xg11_l4]) (ci := 4) (r := (RX5, TX5, 5)) (by decide +kernel) (sf_X5_stretches l g A ty σ hok7 hTA hI b k_b) ⟨co_X5_stretches, in_X5, ⟨by decide, by decide, by decide +kernel⟩, Nat.le_of_ble_eq_true rfl, Nat.le_of_ble_eq_true rfl⟩ ml_X5_28 im_X5_stretches se_X5_stretches (by rw [k_b]; rfl) rfl rfl rfl (Nat.le_of_ble_eq_true rfl) ⟨Nat.zero_le _, Nat.zero_le _⟩ (fun r15 σ16 hpo14 hok17 => ?_)
            obtain ⟨rfl, ⟨vu18, rfl, hvu18, ivu18_0⟩⟩ := hpo14
            have hp19 := ivu18_0 (by omega) (by omega)
            refine sv_same (st2 := [sv_i vu18, sv_i Xg11_l4]) (lv2 := [(0, sv_r a), (1, sv_r b), (2, sv_i Xg11_l2), (3, sv_i Xg1_l3), (4, sv_i Xg11_l4)]) rfl rfl ?_
            refine sv_icmp C.1 C.2.1 (cnd := .ge) (off := 52) (tgt := 75) (by decide +kernel) (by decide) ⟨by omega, by omega⟩ ⟨by omega, by omega⟩ (fun (h20 : vu18 ≤ Xg11_l4) => ?_) (fun (h20 : ¬ (vu18 ≤ Xg11_l4)) => ?_)
            · refine sv_go C.1 C.2.1 [(.iinc 3 1, 3)] (pc' := 78) (by decide +kernel) rfl (lv' := [(0, sv_r a), (1, sv_r b), (2, sv_i Xg11_l2), (3, sv_i (Xg1_l3 + 1)), (4, sv_i Xg11_l4)]) (st' := []) rfl ?_
              refine sv_goto C.1 C.2.1 (off := (-74)) (tgt := 4) (by decide +kernel) (by decide) ?_
              refine sv_pick [0, 1, 2, 3] (lv2 := [(0, sv_r a), (1, sv_r b), (2, sv_i Xg11_l2), (3, sv_i (Xg1_l3 + 1))]) rfl ?_
              exact ih3 Xg11_l2 (Xg1_l3 + 1) ⟨by omega, by omega⟩ ⟨by omega, by omega⟩ (mI_cg (mP_out (by omega)) zi) (by omega)
            · refine sv_go C.1 C.2.1 [(.aload_n 0, 1), (.iload_n 3, 1), (.aload_n 1, 1), (.iload 4, 2)] (pc' := 31) (by decide +kernel) rfl (lv' := [(0, sv_r a), (1, sv_r b), (2, sv_i Xg11_l2), (3, sv_i Xg1_l3), (4, sv_i Xg11_l4)]) (st' := [sv_i Xg11_l4, sv_r b, sv_i Xg1_l3, sv_r a]) rfl ?_
              refine sv_cv C (index := 39) (k := 3) (rest := []) (ci := 4) (r := (RX5, TX5, 5)) (by decide +kernel) (ct_X5_crosses l g A ty σ hok17 hTA hI a k_a (Xg1_l3) ⟨by omega, by omega⟩ b k_b (Xg11_l4) ⟨by omega, by omega⟩ qc k_qc yc k_yc ea2 eb2) ⟨co_X5_crosses, in_X5, ⟨by decide, by decide, by decide +kernel⟩, Nat.le_of_ble_eq_true rfl, Nat.le_of_ble_eq_true rfl⟩ ml_X5_39 im_X5_crosses se_X5_crosses (by rw [k_a]; rfl) rfl rfl rfl (Nat.le_of_ble_eq_true rfl) ⟨Nat.zero_le _, Nat.zero_le _⟩ (fun r22 σ23 hpo21 hok24 => ?_)
              obtain ⟨rfl, ⟨vu25, rfl, hvu25, ivu25_0, ivu25_1⟩⟩ := hpo21
              refine sv_same (st2 := [sv_i vu25]) (lv2 := [(0, sv_r a), (1, sv_r b), (2, sv_i Xg11_l2), (3, sv_i Xg1_l3), (4, sv_i Xg11_l4)]) rfl rfl ?_
              have J28 : ∀ (Jg27_s0 : Int), ((-2147483648) ≤ Jg27_s0 ∧ Jg27_s0 ≤ 2147483647) → (Jg27_s0 = (mg (-1) (σ qc) (hd σ zB qr) (lvs σ zB zT qr) (σ yc) (hd σ yB yr) (lvs σ yB yT yr)) (Xg1_l3).toNat (Xg11_l4).toNat) → sv_E p l e { frames := 2, cells := 0, slots := 0, locals := 46 } s m args below meth c 6 g A ty (fun r σ' => σ = σ' ∧ ∃ rv : Int, r = [sv_i rv] ∧ ((-1) ≤ rv ∧ rv ≤ 2147483647) ∧ ((-2147483648) ≤ rv → rv ≤ 2147483647 → mI (mg (-1) (σ qc) (hd σ zB qr) (lvs σ zB zT qr) (σ yc) (hd σ yB yr) (lvs σ yB yT yr)) (mV (2 * zz - 1) (2 * yz - 1)) rv)) σ 49 [(0, sv_r a), (1, sv_r b), (2, sv_i Xg11_l2), (3, sv_i Xg1_l3), (4, sv_i Xg11_l4)] [sv_i Jg27_s0] := by
                intro Jg27_s0 hJg27_s0 zk
                refine sv_go C.1 C.2.1 [(.istore 5, 2), (.iload 5, 2)] (pc' := 53) (by decide +kernel) rfl (lv' := [(0, sv_r a), (1, sv_r b), (2, sv_i Xg11_l2), (3, sv_i Xg1_l3), (4, sv_i Xg11_l4), (5, sv_i Jg27_s0)]) (st' := [sv_i Jg27_s0]) rfl ?_
                have J31 : ∀ (Jg30_l2 : Int), ((-1) ≤ Jg30_l2 ∧ Jg30_l2 ≤ 2147483647) → (mI (mg (-1) (σ qc) (hd σ zB qr) (lvs σ zB zT qr) (σ yc) (hd σ yB yr) (lvs σ yB yT yr)) (mP (2 * zz - 1) (2 * yz - 1) Xg1_l3 (Xg11_l4 + 2)) Jg30_l2) → sv_E p l e { frames := 2, cells := 0, slots := 0, locals := 46 } s m args below meth c 6 g A ty (fun r σ' => σ = σ' ∧ ∃ rv : Int, r = [sv_i rv] ∧ ((-1) ≤ rv ∧ rv ≤ 2147483647) ∧ ((-2147483648) ≤ rv → rv ≤ 2147483647 → mI (mg (-1) (σ qc) (hd σ zB qr) (lvs σ zB zT qr) (σ yc) (hd σ yB yr) (lvs σ yB yT yr)) (mV (2 * zz - 1) (2 * yz - 1)) rv)) σ 69 [(0, sv_r a), (1, sv_r b), (2, sv_i Jg30_l2), (3, sv_i Xg1_l3), (4, sv_i Xg11_l4)] [] := by
                  intro Jg30_l2 hJg30_l2 zj
                  refine sv_go C.1 C.2.1 [(.iinc 4 2, 3)] (pc' := 72) (by decide +kernel) rfl (lv' := [(0, sv_r a), (1, sv_r b), (2, sv_i Jg30_l2), (3, sv_i Xg1_l3), (4, sv_i (Xg11_l4 + 2))]) (st' := []) rfl ?_
                  refine sv_goto C.1 C.2.1 (off := (-55)) (tgt := 17) (by decide +kernel) (by decide) ?_
                  exact ih13 Jg30_l2 (Xg11_l4 + 2) ⟨by omega, by omega⟩ ⟨by omega, by omega⟩ zj (by omega) (by omega)
                refine sv_if C.1 C.2.1 (cnd := .lt) (off := 16) (tgt := 69) (by decide +kernel) (by decide) ⟨by omega, by omega⟩ (fun (h29 : Jg27_s0 < 0) => ?_) (fun (h29 : ¬ (Jg27_s0 < 0)) => ?_)
                · refine sv_pick [0, 1, 2, 3, 4] (lv2 := [(0, sv_r a), (1, sv_r b), (2, sv_i Xg11_l2), (3, sv_i Xg1_l3), (4, sv_i Xg11_l4)]) rfl ?_
                  exact J31 Xg11_l2 ⟨by omega, by omega⟩ (by first | exact mI_keep zi (mP_two (by omega) (by omega) (by omega) (by omega) zp) zk (by omega) | exact mI_new zi (mP_two (by omega) (by omega) (by omega) (by omega) zp) zk (by omega) (by omega))
                · refine sv_go C.1 C.2.1 [(.iload_n 2, 1)] (pc' := 57) (by decide +kernel) rfl (lv' := [(0, sv_r a), (1, sv_r b), (2, sv_i Xg11_l2), (3, sv_i Xg1_l3), (4, sv_i Xg11_l4), (5, sv_i Jg27_s0)]) (st' := [sv_i Xg11_l2]) rfl ?_
                  refine sv_if C.1 C.2.1 (cnd := .lt) (off := 9) (tgt := 66) (by decide +kernel) (by decide) ⟨by omega, by omega⟩ (fun (h32 : Xg11_l2 < 0) => ?_) (fun (h32 : ¬ (Xg11_l2 < 0)) => ?_)
                  · refine sv_go C.1 C.2.1 [(.iload 5, 2), (.istore_n 2, 1)] (pc' := 69) (by decide +kernel) rfl (lv' := [(0, sv_r a), (1, sv_r b), (2, sv_i Jg27_s0), (3, sv_i Xg1_l3), (4, sv_i Xg11_l4), (5, sv_i Jg27_s0)]) (st' := []) rfl ?_
                    refine sv_pick [0, 1, 2, 3, 4] (lv2 := [(0, sv_r a), (1, sv_r b), (2, sv_i Jg27_s0), (3, sv_i Xg1_l3), (4, sv_i Xg11_l4)]) rfl ?_
                    exact J31 Jg27_s0 ⟨by omega, by omega⟩ (by first | exact mI_keep zi (mP_two (by omega) (by omega) (by omega) (by omega) zp) zk (by omega) | exact mI_new zi (mP_two (by omega) (by omega) (by omega) (by omega) zp) zk (by omega) (by omega))
                  · refine sv_go C.1 C.2.1 [(.iload 5, 2), (.iload_n 2, 1)] (pc' := 63) (by decide +kernel) rfl (lv' := [(0, sv_r a), (1, sv_r b), (2, sv_i Xg11_l2), (3, sv_i Xg1_l3), (4, sv_i Xg11_l4), (5, sv_i Jg27_s0)]) (st' := [sv_i Xg11_l2, sv_i Jg27_s0]) rfl ?_
                    refine sv_icmp C.1 C.2.1 (cnd := .ge) (off := 6) (tgt := 69) (by decide +kernel) (by decide) ⟨by omega, by omega⟩ ⟨by omega, by omega⟩ (fun (h33 : Xg11_l2 ≤ Jg27_s0) => ?_) (fun (h33 : ¬ (Xg11_l2 ≤ Jg27_s0)) => ?_)
                    · refine sv_pick [0, 1, 2, 3, 4] (lv2 := [(0, sv_r a), (1, sv_r b), (2, sv_i Xg11_l2), (3, sv_i Xg1_l3), (4, sv_i Xg11_l4)]) rfl ?_
                      exact J31 Xg11_l2 ⟨by omega, by omega⟩ (by first | exact mI_keep zi (mP_two (by omega) (by omega) (by omega) (by omega) zp) zk (by omega) | exact mI_new zi (mP_two (by omega) (by omega) (by omega) (by omega) zp) zk (by omega) (by omega))
                    · refine sv_go C.1 C.2.1 [(.iload 5, 2), (.istore_n 2, 1)] (pc' := 69) (by decide +kernel) rfl (lv' := [(0, sv_r a), (1, sv_r b), (2, sv_i Jg27_s0), (3, sv_i Xg1_l3), (4, sv_i Xg11_l4), (5, sv_i Jg27_s0)]) (st' := []) rfl ?_
                      refine sv_pick [0, 1, 2, 3, 4] (lv2 := [(0, sv_r a), (1, sv_r b), (2, sv_i Jg27_s0), (3, sv_i Xg1_l3), (4, sv_i Xg11_l4)]) rfl ?_
                      exact J31 Jg27_s0 ⟨by omega, by omega⟩ (by first | exact mI_keep zi (mP_two (by omega) (by omega) (by omega) (by omega) zp) zk (by omega) | exact mI_new zi (mP_two (by omega) (by omega) (by omega) (by omega) zp) zk (by omega) (by omega))
              refine sv_if C.1 C.2.1 (cnd := .eq) (off := 14) (tgt := 48) (by decide +kernel) (by decide) ⟨by omega, by omega⟩ (fun (h26 : vu25 = 0) => ?_) (fun (h26 : ¬ (vu25 = 0)) => ?_)
              · have hp34 := ivu25_1 (by omega) (by omega)
                refine sv_go C.1 C.2.1 [(.iconst (-1), 1)] (pc' := 49) (by decide +kernel) rfl (lv' := [(0, sv_r a), (1, sv_r b), (2, sv_i Xg11_l2), (3, sv_i Xg1_l3), (4, sv_i Xg11_l4)]) (st' := [sv_i ((-1))]) rfl ?_
                exact J28 ((-1)) ⟨by omega, by omega⟩ (mg_n (by omega) (by omega) hp34).symm
              · have hp35 := ivu25_0 (by omega) (by omega)
                refine sv_go C.1 C.2.1 [(.aload_n 0, 1), (.iload_n 3, 1), (.aload_n 1, 1), (.iload 4, 2)] (pc' := 42) (by decide +kernel) rfl (lv' := [(0, sv_r a), (1, sv_r b), (2, sv_i Xg11_l2), (3, sv_i Xg1_l3), (4, sv_i Xg11_l4)]) (st' := [sv_i Xg11_l4, sv_r b, sv_i Xg1_l3, sv_r a]) rfl ?_
                refine sv_cv C (index := 43) (k := 3) (rest := []) (ci := 4) (r := (RX5, TX5, 5)) (by decide +kernel) (ct_X5_firstShared l g A ty σ hok24 hTA hI a k_a (Xg1_l3) ⟨by omega, by omega⟩ b k_b (Xg11_l4) ⟨by omega, by omega⟩ (zB) ⟨by omega, by omega⟩ qr k_qr (zT) ⟨by omega, by omega⟩ (yB) ⟨by omega, by omega⟩ yr k_yr (yT) ⟨by omega, by omega⟩ ea1 ea3 ea4 eb1 eb3 eb4) ⟨co_X5_firstShared, in_X5, ⟨by decide, by decide, by decide +kernel⟩, Nat.le_of_ble_eq_true rfl, Nat.le_of_ble_eq_true rfl⟩ ml_X5_43 im_X5_firstShared se_X5_firstShared (by rw [k_a]; rfl) rfl rfl rfl (Nat.le_of_ble_eq_true rfl) ⟨Nat.zero_le _, Nat.zero_le _⟩ (fun r37 σ38 hpo36 hok39 => ?_)
                obtain ⟨rfl, ⟨vu40, rfl, hvu40, ivu40_0⟩⟩ := hpo36
                have hp41 := ivu40_0 (by omega) (by omega)
                refine sv_same (st2 := [sv_i vu40]) (lv2 := [(0, sv_r a), (1, sv_r b), (2, sv_i Xg11_l2), (3, sv_i Xg1_l3), (4, sv_i Xg11_l4)]) rfl rfl ?_
                refine sv_goto C.1 C.2.1 (off := 4) (tgt := 49) (by decide +kernel) (by decide) ?_
                exact J28 vu40 ⟨by omega, by omega⟩ (hp41.trans (mg_y (hf := hd σ zB qr) (lf := lvs σ zB zT qr) (hg := hd σ yB yr) (lg := lvs σ yB yT yr) (by omega) (by omega) hp35).symm)
        exact L12 (((24 - (Xg1_l3 % 2) : Int)).toNat + 1) Xg1_l2 (Xg1_l3 % 2) ⟨by omega, by omega⟩ ⟨by omega, by omega⟩ (mI_cg (mP_in (by omega)) zo) (by omega) (by omega)
  exact L2 (((23 - 0 : Int)).toNat + 1) ((-1)) 0 ⟨by omega, by omega⟩ ⟨by omega, by omega⟩ (mP_0 _) (by omega)

set_option maxHeartbeats 4000000 in
set_option maxRecDepth 100000 in
theorem ct_X9_meeting (l : Launch) (g : sv_G) (A : Nat → Prop) (ty : Nat → Nat) (σ : Nat → Nat → Int) (hok : sv_ok ty σ) (hTA : ∀ q, ty q ≠ 0 → A q) (hI : sv_inv sp_1 ty σ) (a : Nat) (k_a : ty a = 1) (ar1 : Int) (h_ar1 : (-2147483648) ≤ ar1 ∧ ar1 ≤ 2147483647) (ar2 : Int) (h_ar2 : (-2147483648) ≤ ar2 ∧ ar2 ≤ 2147483647) (tq : Nat) (k_tq : ty tq = 6) (bq : Nat) (k_bq : ty bq = 37) (et : σ a 4 = (tq : Int) + 1) (eb : σ tq 0 = (bq : Int) + 1) : sv_M l yX9_meeting cX9_meeting 3 (some .int) { frames := 3, cells := 0, slots := 0, locals := 71 } g A ty σ [sv_r a, sv_i ar1, sv_i ar2] (fun r σ' => σ = σ' ∧ ∃ rv : Int, r = [sv_i rv] ∧ ((-2) ≤ rv ∧ rv ≤ 2147483647) ∧ ((-2147483648) ≤ rv → rv ≤ 2147483647 → zc_meet σ bq ar1 ar2 rv)) := by
  refine sv_enter (by decide) (Nat.le_of_ble_eq_true rfl) ?_
  intro p e s m args below meth c C hr
  have C : sv_C g A RX9 cX9_meeting 3 p s m args meth c := C
  have hr : meth.sig.returnType = (some .int) := hr
  have hF : sv_ofx [] [] ty σ σ := sv_ofx.rf
  refine sv_same (st2 := []) (lv2 := [(0, sv_r a), (1, sv_i ar1), (2, sv_i ar2)]) rfl rfl ?_
  refine sv_go C.1 C.2.1 [(.aload_n 0, 1), (.iload_n 1, 1), (.iconst 2, 1)] (pc' := 3) (by decide +kernel) rfl (lv' := [(0, sv_r a), (1, sv_i ar1), (2, sv_i ar2)]) (st' := [sv_i 2, sv_i ar1, sv_r a]) rfl ?_
  refine sv_cv C (index := 200) (k := 2) (rest := []) (ci := 8) (r := (RX9, TX9, 6)) (by decide +kernel) (ct_X9_isLong l g A ty σ hok hTA hI a k_a (ar1) ⟨by omega, by omega⟩ (2) ⟨by omega, by omega⟩ tq k_tq bq k_bq et eb) ⟨co_X9_isLong, in_X9, ⟨by decide, by decide, by decide +kernel⟩, Nat.le_of_ble_eq_true rfl, Nat.le_of_ble_eq_true rfl⟩ ml_X9_200 im_X9_isLong se_X9_isLong (by rw [k_a]; rfl) rfl rfl rfl (Nat.le_of_ble_eq_true rfl) ⟨Nat.zero_le _, Nat.zero_le _⟩ (fun r2 σ3 hpo1 hok4 => ?_)
  obtain ⟨rfl, ⟨vu5, rfl, hvu5, ivu5_0, ivu5_1⟩⟩ := hpo1
  refine sv_same (st2 := [sv_i vu5]) (lv2 := [(0, sv_r a), (1, sv_i ar1), (2, sv_i ar2)]) rfl rfl ?_
  refine sv_if C.1 C.2.1 (cnd := .eq) (off := 17) (tgt := 23) (by decide +kernel) (by decide) ⟨by omega, by omega⟩ (fun (h6 : vu5 = 0) => ?_) (fun (h6 : ¬ (vu5 = 0)) => ?_)
  · have hp7 := ivu5_1 (by omega) (by omega)
    refine sv_go C.1 C.2.1 [(.bipush (-2), 2)] (pc' := 25) (by decide +kernel) rfl (lv' := [(0, sv_r a), (1, sv_i ar1), (2, sv_i ar2)]) (st' := [sv_i ((-2))]) rfl ?_
    exact sv_iret C hr (by decide +kernel) hok4 (⟨rfl, ⟨_, rfl, ⟨by omega, by omega⟩, fun _ _ => ⟨fun _ => rfl, fun P c r Q c' r' hk1 hk2 hne q1 q2 q3 q4 q5 q6 => by have hz := hp7 hk1 P q1; exact ⟨fun _ => rfl, fun h1 h2 => by exfalso; omega⟩⟩⟩⟩)
  · have hp8 := ivu5_0 (by omega) (by omega)
    refine sv_go C.1 C.2.1 [(.aload_n 0, 1), (.iload_n 2, 1), (.iconst 2, 1)] (pc' := 12) (by decide +kernel) rfl (lv' := [(0, sv_r a), (1, sv_i ar1), (2, sv_i ar2)]) (st' := [sv_i 2, sv_i ar2, sv_r a]) rfl ?_
    refine sv_cv C (index := 200) (k := 2) (rest := []) (ci := 8) (r := (RX9, TX9, 6)) (by decide +kernel) (ct_X9_isLong l g A ty σ hok4 hTA hI a k_a (ar2) ⟨by omega, by omega⟩ (2) ⟨by omega, by omega⟩ tq k_tq bq k_bq et eb) ⟨co_X9_isLong, in_X9, ⟨by decide, by decide, by decide +kernel⟩, Nat.le_of_ble_eq_true rfl, Nat.le_of_ble_eq_true rfl⟩ ml_X9_200 im_X9_isLong se_X9_isLong (by rw [k_a]; rfl) rfl rfl rfl (Nat.le_of_ble_eq_true rfl) ⟨Nat.zero_le _, Nat.zero_le _⟩ (fun r10 σ11 hpo9 hok12 => ?_)
    obtain ⟨rfl, ⟨vu13, rfl, hvu13, ivu13_0, ivu13_1⟩⟩ := hpo9
    refine sv_same (st2 := [sv_i vu13]) (lv2 := [(0, sv_r a), (1, sv_i ar1), (2, sv_i ar2)]) rfl rfl ?_
    refine sv_if C.1 C.2.1 (cnd := .eq) (off := 8) (tgt := 23) (by decide +kernel) (by decide) ⟨by omega, by omega⟩ (fun (h14 : vu13 = 0) => ?_) (fun (h14 : ¬ (vu13 = 0)) => ?_)
    · have hp15 := ivu13_1 (by omega) (by omega)
      refine sv_go C.1 C.2.1 [(.bipush (-2), 2)] (pc' := 25) (by decide +kernel) rfl (lv' := [(0, sv_r a), (1, sv_i ar1), (2, sv_i ar2)]) (st' := [sv_i ((-2))]) rfl ?_
      exact sv_iret C hr (by decide +kernel) hok12 (⟨rfl, ⟨_, rfl, ⟨by omega, by omega⟩, fun _ _ => ⟨fun _ => rfl, fun P c r Q c' r' hk1 hk2 hne q1 q2 q3 q4 q5 q6 => by have hz := hp15 hk2 Q q4; exact ⟨fun _ => rfl, fun h1 h2 => by exfalso; omega⟩⟩⟩⟩)
    · have hp16 := ivu13_0 (by omega) (by omega)
      refine sv_go C.1 C.2.1 [(.iload_n 1, 1), (.iload_n 2, 1)] (pc' := 20) (by decide +kernel) rfl (lv' := [(0, sv_r a), (1, sv_i ar1), (2, sv_i ar2)]) (st' := [sv_i ar2, sv_i ar1]) rfl ?_
      refine sv_icmp C.1 C.2.1 (cnd := .ne) (off := 6) (tgt := 26) (by decide +kernel) (by decide) ⟨by omega, by omega⟩ ⟨by omega, by omega⟩ (fun (h17 : ar1 ≠ ar2) => ?_) (fun (h17 : ¬ (ar1 ≠ ar2)) => ?_)
      · refine sv_go C.1 C.2.1 [(.aload_n 0, 1)] (pc' := 27) (by decide +kernel) rfl (lv' := [(0, sv_r a), (1, sv_i ar1), (2, sv_i ar2)]) (st' := [sv_r a]) rfl ?_
        refine sv_gf C (index := 40) (ci := 8) (k := 4) (r := (RX9, TX9, 6)) (v := sv_r tq) (by decide +kernel) (by rw [k_a]; rfl) rfl (by decide) fl_X9_40 (congrArg sv_a et) ?_
        refine sv_gf C (index := 190) (ci := 7) (k := 0) (r := (RX8, TX8, 4)) (v := sv_r bq) (by decide +kernel) (by rw [k_tq]; rfl) rfl (by decide) fl_X9_190 (congrArg sv_a eb) ?_
        refine sv_go C.1 C.2.1 [(.iload_n 1, 1)] (pc' := 34) (by decide +kernel) rfl (lv' := [(0, sv_r a), (1, sv_i ar1), (2, sv_i ar2)]) (st' := [sv_i ar1, sv_r bq]) rfl ?_
        refine sv_aa C (N := "SaintsRoad$Procession") (by decide) (n := 12) (by decide +kernel) (by rw [k_bq]; rfl) (by decide) (by omega) (by omega) ?_
        obtain ⟨v18, ev18, kv18⟩ := hI.ref (k := (ar1 : Int).toNat) k_bq (by first | rfl | (show (if _ then _ else _) = _; rw [if_pos (by omega)]))
        rw [ev18]
        refine sv_go C.1 C.2.1 [(.aload_n 0, 1)] (pc' := 36) (by decide +kernel) rfl (lv' := [(0, sv_r a), (1, sv_i ar1), (2, sv_i ar2)]) (st' := [sv_r a, sv_r v18]) rfl ?_
        refine sv_gf C (index := 40) (ci := 8) (k := 4) (r := (RX9, TX9, 6)) (v := sv_r tq) (by decide +kernel) (by rw [k_a]; rfl) rfl (by decide) fl_X9_40 (congrArg sv_a et) ?_
        refine sv_gf C (index := 190) (ci := 7) (k := 0) (r := (RX8, TX8, 4)) (v := sv_r bq) (by decide +kernel) (by rw [k_tq]; rfl) rfl (by decide) fl_X9_190 (congrArg sv_a eb) ?_
        refine sv_go C.1 C.2.1 [(.iload_n 2, 1)] (pc' := 43) (by decide +kernel) rfl (lv' := [(0, sv_r a), (1, sv_i ar1), (2, sv_i ar2)]) (st' := [sv_i ar2, sv_r bq, sv_r v18]) rfl ?_
        refine sv_aa C (N := "SaintsRoad$Procession") (by decide) (n := 12) (by decide +kernel) (by rw [k_bq]; rfl) (by decide) (by omega) (by omega) ?_
        obtain ⟨v19, ev19, kv19⟩ := hI.ref (k := (ar2 : Int).toNat) k_bq (by first | rfl | (show (if _ then _ else _) = _; rw [if_pos (by omega)]))
        rw [ev19]
        obtain ⟨gn20, egn20, hgn20⟩ := sv_rdn hI (k := 0) kv18 rfl
        obtain ⟨gn21, egn21, hgn21⟩ := sv_rdn hI (k := 1) kv18 rfl
        obtain ⟨gq22, egq22, kgq22⟩ := hI.ref (k := 2) kv18 rfl
        obtain ⟨gq23, egq23, kgq23⟩ := hI.ref (k := 3) kv18 rfl
        obtain ⟨gn24, egn24, hgn24⟩ := sv_rdn hI (k := 4) kv18 rfl
        obtain ⟨gn25, egn25, hgn25⟩ := sv_rdn hI (k := 0) kv19 rfl
        obtain ⟨gn26, egn26, hgn26⟩ := sv_rdn hI (k := 1) kv19 rfl
        obtain ⟨gq27, egq27, kgq27⟩ := hI.ref (k := 2) kv19 rfl
        obtain ⟨gq28, egq28, kgq28⟩ := hI.ref (k := 3) kv19 rfl
        obtain ⟨gn29, egn29, hgn29⟩ := sv_rdn hI (k := 4) kv19 rfl
        have hz1 := (hp8).2 v18 ev18
        have hz2 := (hp16).2 v19 ev19
        refine sv_cv C (index := 221) (k := 1) (rest := []) (ci := 4) (r := (RX5, TX5, 5)) (by decide +kernel) (ct_X5_firstMeeting l g A ty σ hok12 hTA hI v18 kv18 v19 kv19 (gn20) ⟨by omega, by omega⟩ (gn21) ⟨by omega, by omega⟩ gq22 kgq22 gq23 kgq23 (gn24) ⟨by omega, by omega⟩ (gn25) ⟨by omega, by omega⟩ (gn26) ⟨by omega, by omega⟩ gq27 kgq27 gq28 kgq28 (gn29) ⟨by omega, by omega⟩ egn20 egn21 egq22 egq23 egn24 egn25 egn26 egq27 egq28 egn29) ⟨co_X5_firstMeeting, in_X5, ⟨by decide, by decide, by decide +kernel⟩, Nat.le_of_ble_eq_true rfl, Nat.le_of_ble_eq_true rfl⟩ ml_X9_221 im_X5_firstMeeting se_X5_firstMeeting (by rw [kv18]; rfl) rfl rfl rfl (Nat.le_of_ble_eq_true rfl) ⟨Nat.zero_le _, Nat.zero_le _⟩ (fun r31 σ32 hpo30 hok33 => ?_)
        obtain ⟨rfl, ⟨vu34, rfl, hvu34, ivu34_0⟩⟩ := hpo30
        have hp35 := ivu34_0 (by omega) (by omega)
        refine sv_same (st2 := [sv_i vu34]) (lv2 := [(0, sv_r a), (1, sv_i ar1), (2, sv_i ar2)]) rfl rfl ?_
        exact sv_iret C hr (by decide +kernel) hok33 (⟨rfl, ⟨_, rfl, ⟨by omega, by omega⟩, fun _ _ => ⟨fun h => by exfalso; omega, fun P c r Q c' r' hk1 hk2 hne q1 q2 q3 q4 q5 q6 => by have t1 : v18 = P := (by omega); subst t1; have t2 : gq22 = c := (by omega); subst t2; have t3 : gq23 = r := (by omega); subst t3; have t4 : v19 = Q := (by omega); subst t4; have t5 : gq27 = c' := (by omega); subst t5; have t6 : gq28 = r' := (by omega); subst t6; exact ⟨fun h => by exfalso; omega, fun _ _ => by unfold mw; rw [egn20, egn21, egn24, egn25, egn26, egn29]; exact hp35⟩⟩⟩⟩)
      · refine sv_go C.1 C.2.1 [(.bipush (-2), 2)] (pc' := 25) (by decide +kernel) rfl (lv' := [(0, sv_r a), (1, sv_i ar1), (2, sv_i ar2)]) (st' := [sv_i ((-2))]) rfl ?_
        exact sv_iret C hr (by decide +kernel) hok12 (⟨rfl, ⟨_, rfl, ⟨by omega, by omega⟩, fun _ _ => ⟨fun _ => rfl, fun P c r Q c' r' hk1 hk2 hne q1 q2 q3 q4 q5 q6 => by exfalso; omega⟩⟩⟩)

/-- the first pair that says yes -/
def mB (no : Int → Int → Prop) (x y : Int) : Prop := ∀ a b : Int, 0 ≤ a → a < b → b ≤ 11 → (a < x ∨ (a = x ∧ b < y)) → no a b
def mS (yes no : Int → Int → Prop) (rv : Int) : Prop := (rv = -1 ∧ mB no 12 0) ∨ ∃ a b : Int, 0 ≤ a ∧ a < b ∧ b ≤ 11 ∧ yes a b ∧ rv = 100 * a + b ∧ mB no a b
theorem mB_0 (no : Int → Int → Prop) : mB no 0 0 := fun a b h1 h2 h3 h4 => absurd h4 (by omega)
theorem mB_in {no : Int → Int → Prop} {x : Int} (h : mB no x 0) : mB no x (x + 1) := fun a b h1 h2 h3 h4 => h a b h1 h2 h3 (by omega)
theorem mB_s {no : Int → Int → Prop} {x y : Int} (h : mB no x y) (hn : no x y) : mB no x (y + 1) := fun a b h1 h2 h3 h4 => by
  by_cases e : a = x ∧ b = y
  · rw [e.1, e.2]; exact hn
  · exact h a b h1 h2 h3 (by omega)
theorem mB_out {no : Int → Int → Prop} {x y : Int} (hy : 12 ≤ y) (h : mB no x y) : mB no (x + 1) 0 := fun a b h1 h2 h3 h4 => h a b h1 h2 h3 (by omega)
theorem mB_end {no : Int → Int → Prop} {x : Int} (hx : 12 ≤ x) (h : mB no x 0) : mB no 12 0 := fun a b h1 h2 h3 h4 => h a b h1 h2 h3 (by omega)
def zc_no (σ : Nat → Nat → Int) (bq : Nat) (a b : Int) : Prop := ∃ v : Int, v < 0 ∧ zc_meet σ bq a b v
def zc_yes (σ : Nat → Nat → Int) (bq : Nat) (a b : Int) : Prop := ∃ v : Int, 0 ≤ v ∧ zc_meet σ bq a b v
def zm_no (σ : Nat → Nat → Int) (s1 s2 s3 s4 s5 : Nat) (a b : Int) : Prop := ¬ zg_ok σ s1 a ∨ ¬ zg_ok σ s1 b ∨ ∃ f : Int, 268435456 ≤ f ∧ zm_two σ s1 s2 s3 s4 s5 a b f
def zm_yes (σ : Nat → Nat → Int) (s1 s2 s3 s4 s5 : Nat) (a b : Int) : Prop := zg_ok σ s1 a ∧ zg_ok σ s1 b ∧ ∃ f : Int, f < 268435456 ∧ zm_two σ s1 s2 s3 s4 s5 a b f

set_option maxHeartbeats 4000000 in
set_option maxRecDepth 100000 in
theorem ct_X9_meets (l : Launch) (g : sv_G) (A : Nat → Prop) (ty : Nat → Nat) (σ : Nat → Nat → Int) (hok : sv_ok ty σ) (hTA : ∀ q, ty q ≠ 0 → A q) (hI : sv_inv sp_1 ty σ) (a : Nat) (k_a : ty a = 1) (tq : Nat) (k_tq : ty tq = 6) (bq : Nat) (k_bq : ty bq = 37) (et : σ a 4 = (tq : Int) + 1) (eb : σ tq 0 = (bq : Int) + 1) : sv_M l yX9_meets cX9_meets 3 (some .int) { frames := 4, cells := 0, slots := 0, locals := 93 } g A ty σ [sv_r a] (fun r σ' => σ = σ' ∧ ∃ rv : Int, r = [sv_i rv] ∧ ((-1) ≤ rv ∧ rv ≤ 1111) ∧ ((-2147483648) ≤ rv → rv ≤ 2147483647 → mS (zc_yes σ bq) (zc_no σ bq) rv)) := by
  refine sv_enter (by decide) (Nat.le_of_ble_eq_true rfl) ?_
  intro p e s m args below meth c C hr
  have C : sv_C g A RX9 cX9_meets 3 p s m args meth c := C
  have hr : meth.sig.returnType = (some .int) := hr
  have hF : sv_ofx [] [] ty σ σ := sv_ofx.rf
  refine sv_same (st2 := []) (lv2 := [(0, sv_r a)]) rfl rfl ?_
  refine sv_go C.1 C.2.1 [(.iconst 0, 1), (.istore_n 1, 1)] (pc' := 2) (by decide +kernel) rfl (lv' := [(0, sv_r a), (1, sv_i 0)]) (st' := []) rfl ?_
  have L2 : ∀ (n : Nat) (Xg1_l1 : Int), (0 ≤ Xg1_l1 ∧ Xg1_l1 ≤ 12) → (mB (zc_no σ bq) Xg1_l1 0) → (12 - Xg1_l1) < (n : Int) → sv_E p l e { frames := 4, cells := 0, slots := 0, locals := 93 } s m args below meth c 3 g A ty (fun r σ' => σ = σ' ∧ ∃ rv : Int, r = [sv_i rv] ∧ ((-1) ≤ rv ∧ rv ≤ 1111) ∧ ((-2147483648) ≤ rv → rv ≤ 2147483647 → mS (zc_yes σ bq) (zc_no σ bq) rv)) σ 2 [(0, sv_r a), (1, sv_i Xg1_l1)] [] := by
    intro n
    induction n with
    | zero => intro Xg1_l1 hXg1_l1 zo hmu; exact absurd hmu (by omega)
    | succ n ih3 =>
      intro Xg1_l1 hXg1_l1 zo hmu
      refine sv_go C.1 C.2.1 [(.iload_n 1, 1), (.bipush 12, 2)] (pc' := 5) (by decide +kernel) rfl (lv' := [(0, sv_r a), (1, sv_i Xg1_l1)]) (st' := [sv_i 12, sv_i Xg1_l1]) rfl ?_
      refine sv_icmp C.1 C.2.1 (cnd := .ge) (off := 41) (tgt := 46) (by decide +kernel) (by decide) ⟨by omega, by omega⟩ ⟨by omega, by omega⟩ (fun (h4 : 12 ≤ Xg1_l1) => ?_) (fun (h4 : ¬ (12 ≤ Xg1_l1)) => ?_)
      · refine sv_go C.1 C.2.1 [(.iconst (-1), 1)] (pc' := 47) (by decide +kernel) rfl (lv' := [(0, sv_r a), (1, sv_i Xg1_l1)]) (st' := [sv_i ((-1))]) rfl ?_
        exact sv_iret C hr (by decide +kernel) hok (⟨rfl, ⟨_, rfl, ⟨by omega, by omega⟩, fun _ _ => (Or.inl ⟨rfl, mB_end (by omega) zo⟩)⟩⟩)
      · refine sv_go C.1 C.2.1 [(.iload_n 1, 1), (.iconst 1, 1), (.iadd, 1), (.istore_n 2, 1)] (pc' := 12) (by decide +kernel) rfl (lv' := [(0, sv_r a), (1, sv_i Xg1_l1), (2, sv_i (Xg1_l1 + 1))]) (st' := []) rfl ?_
        have L6 : ∀ (n : Nat) (Xg5_l2 : Int), (1 ≤ Xg5_l2 ∧ Xg5_l2 ≤ 12) → (mB (zc_no σ bq) Xg1_l1 Xg5_l2) → (Xg1_l1 < Xg5_l2) → (12 - Xg5_l2) < (n : Int) → sv_E p l e { frames := 4, cells := 0, slots := 0, locals := 93 } s m args below meth c 3 g A ty (fun r σ' => σ = σ' ∧ ∃ rv : Int, r = [sv_i rv] ∧ ((-1) ≤ rv ∧ rv ≤ 1111) ∧ ((-2147483648) ≤ rv → rv ≤ 2147483647 → mS (zc_yes σ bq) (zc_no σ bq) rv)) σ 12 [(0, sv_r a), (1, sv_i Xg1_l1), (2, sv_i Xg5_l2)] [] := by
          intro n
          induction n with
          | zero => intro Xg5_l2 hXg5_l2 zi zl hmu; exact absurd hmu (by omega)
          | succ n ih7 =>
            intro Xg5_l2 hXg5_l2 zi zl hmu
            refine sv_go C.1 C.2.1 [(.iload_n 2, 1), (.bipush 12, 2)] (pc' := 15) (by decide +kernel) rfl (lv' := [(0, sv_r a), (1, sv_i Xg1_l1), (2, sv_i Xg5_l2)]) (st' := [sv_i 12, sv_i Xg5_l2]) rfl ?_
            refine sv_icmp C.1 C.2.1 (cnd := .ge) (off := 25) (tgt := 40) (by decide +kernel) (by decide) ⟨by omega, by omega⟩ ⟨by omega, by omega⟩ (fun (h8 : 12 ≤ Xg5_l2) => ?_) (fun (h8 : ¬ (12 ≤ Xg5_l2)) => ?_)
            · refine sv_go C.1 C.2.1 [(.iinc 1 1, 3)] (pc' := 43) (by decide +kernel) rfl (lv' := [(0, sv_r a), (1, sv_i (Xg1_l1 + 1)), (2, sv_i Xg5_l2)]) (st' := []) rfl ?_
              refine sv_goto C.1 C.2.1 (off := (-41)) (tgt := 2) (by decide +kernel) (by decide) ?_
              refine sv_pick [0, 1] (lv2 := [(0, sv_r a), (1, sv_i (Xg1_l1 + 1))]) rfl ?_
              exact ih3 (Xg1_l1 + 1) ⟨by omega, by omega⟩ (mB_out (by omega) zi) (by omega)
            · refine sv_go C.1 C.2.1 [(.aload_n 0, 1), (.iload_n 1, 1), (.iload_n 2, 1)] (pc' := 21) (by decide +kernel) rfl (lv' := [(0, sv_r a), (1, sv_i Xg1_l1), (2, sv_i Xg5_l2)]) (st' := [sv_i Xg5_l2, sv_i Xg1_l1, sv_r a]) rfl ?_
              refine sv_cv C (index := 218) (k := 2) (rest := []) (ci := 8) (r := (RX9, TX9, 6)) (by decide +kernel) (ct_X9_meeting l g A ty σ hok hTA hI a k_a (Xg1_l1) ⟨by omega, by omega⟩ (Xg5_l2) ⟨by omega, by omega⟩ tq k_tq bq k_bq et eb) ⟨co_X9_meeting, in_X9, ⟨by decide, by decide, by decide +kernel⟩, Nat.le_of_ble_eq_true rfl, Nat.le_of_ble_eq_true rfl⟩ ml_X9_218 im_X9_meeting se_X9_meeting (by rw [k_a]; rfl) rfl rfl rfl (Nat.le_of_ble_eq_true rfl) ⟨Nat.zero_le _, Nat.zero_le _⟩ (fun r10 σ11 hpo9 hok12 => ?_)
              obtain ⟨rfl, ⟨vu13, rfl, hvu13, ivu13_0⟩⟩ := hpo9
              have hp14 := ivu13_0 (by omega) (by omega)
              refine sv_same (st2 := [sv_i vu13]) (lv2 := [(0, sv_r a), (1, sv_i Xg1_l1), (2, sv_i Xg5_l2)]) rfl rfl ?_
              refine sv_if C.1 C.2.1 (cnd := .lt) (off := 10) (tgt := 34) (by decide +kernel) (by decide) ⟨by omega, by omega⟩ (fun (h15 : vu13 < 0) => ?_) (fun (h15 : ¬ (vu13 < 0)) => ?_)
              · refine sv_go C.1 C.2.1 [(.iinc 2 1, 3)] (pc' := 37) (by decide +kernel) rfl (lv' := [(0, sv_r a), (1, sv_i Xg1_l1), (2, sv_i (Xg5_l2 + 1))]) (st' := []) rfl ?_
                refine sv_goto C.1 C.2.1 (off := (-25)) (tgt := 12) (by decide +kernel) (by decide) ?_
                exact ih7 (Xg5_l2 + 1) ⟨by omega, by omega⟩ (mB_s zi ⟨_, by omega, hp14⟩) (by omega) (by omega)
              · refine sv_go C.1 C.2.1 [(.bipush 100, 2), (.iload_n 1, 1), (.imul, 1), (.iload_n 2, 1), (.iadd, 1)] (pc' := 33) (by decide +kernel) rfl (lv' := [(0, sv_r a), (1, sv_i Xg1_l1), (2, sv_i Xg5_l2)]) (st' := [sv_i ((100 * Xg1_l1) + Xg5_l2)]) rfl ?_
                exact sv_iret C hr (by decide +kernel) hok12 (⟨rfl, ⟨_, rfl, ⟨by omega, by omega⟩, fun _ _ => (Or.inr ⟨_, _, by omega, by omega, by omega, ⟨_, by omega, hp14⟩, rfl, zi⟩)⟩⟩)
        exact L6 (((12 - (Xg1_l1 + 1) : Int)).toNat + 1) (Xg1_l1 + 1) ⟨by omega, by omega⟩ (mB_in zo) (by omega) (by omega)
  exact L2 (((12 - 0 : Int)).toNat + 1) 0 ⟨by omega, by omega⟩ (mB_0 _) (by omega)

set_option maxHeartbeats 4000000 in
set_option maxRecDepth 100000 in
theorem ct_X11_together (l : Launch) (g : sv_G) (A : Nat → Prop) (ty : Nat → Nat) (σ : Nat → Nat → Int) (hok : sv_ok ty σ) (hTA : ∀ q, ty q ≠ 0 → A q) (hI : sv_inv sp_1 ty σ) (ar1 : Int) (h_ar1 : (-2147483648) ≤ ar1 ∧ ar1 ≤ 2147483647) (ar2 : Int) (h_ar2 : (-2147483648) ≤ ar2 ∧ ar2 ≤ 2147483647) (ar3 : Int) (h_ar3 : (-2147483648) ≤ ar3 ∧ ar3 ≤ 2147483647) (ar4 : Int) (h_ar4 : (-2147483648) ≤ ar4 ∧ ar4 ≤ 2147483647) : sv_M l yX11_together cX11_together 5 (some .int) { frames := 1, cells := 0, slots := 0, locals := 21 } g A ty σ [sv_i ar1, sv_i ar2, sv_i ar3, sv_i ar4] (fun r σ' => σ = σ' ∧ ∃ rv : Int, r = [sv_i rv] ∧ ((-2147483648) ≤ rv ∧ rv ≤ 2147483647) ∧ ((-2147483648) ≤ rv → rv ≤ 2147483647 → rv = tog 268435456 ar1 ar2 ar3 ar4)) := by
  refine sv_enter (by decide) (Nat.le_of_ble_eq_true rfl) ?_
  intro p e s m args below meth c C hr
  have C : sv_C g A RX11 cX11_together 5 p s m args meth c := C
  have hr : meth.sig.returnType = (some .int) := hr
  have hF : sv_ofx [] [] ty σ σ := sv_ofx.rf
  refine sv_same (st2 := []) (lv2 := [(0, sv_i ar1), (1, sv_i ar2), (2, sv_i ar3), (3, sv_i ar4)]) rfl rfl ?_
  refine sv_go C.1 C.2.1 [(.iload_n 0, 1), (.iload_n 2, 1)] (pc' := 2) (by decide +kernel) rfl (lv' := [(0, sv_i ar1), (1, sv_i ar2), (2, sv_i ar3), (3, sv_i ar4)]) (st' := [sv_i ar3, sv_i ar1]) rfl ?_
  refine sv_max C (index := 364) (by decide +kernel) ml_X11_364 ⟨by omega, by omega⟩ ⟨by omega, by omega⟩ (Nat.le_of_ble_eq_true rfl) (Nat.le_of_ble_eq_true rfl) ⟨Nat.zero_le _, Nat.zero_le _⟩ ?_
  obtain ⟨mm1, hmm1⟩ : ∃ q : Int, q = (if (ar1 : Int) < ar3 then ar3 else ar1) := ⟨_, rfl⟩
  refine sv_same (st2 := [sv_i mm1]) (lv2 := [(0, sv_i ar1), (1, sv_i ar2), (2, sv_i ar3), (3, sv_i ar4)]) (by rw [hmm1]) rfl ?_
  refine sv_go C.1 C.2.1 [(.istore 4, 2), (.iload 4, 2), (.iload_n 1, 1), (.iload_n 3, 1)] (pc' := 11) (by decide +kernel) rfl (lv' := [(0, sv_i ar1), (1, sv_i ar2), (2, sv_i ar3), (3, sv_i ar4), (4, sv_i mm1)]) (st' := [sv_i ar4, sv_i ar2, sv_i mm1]) rfl ?_
  refine sv_min C (index := 331) (by decide +kernel) ml_X11_331 ⟨by omega, by omega⟩ ⟨by omega, by omega⟩ (Nat.le_of_ble_eq_true rfl) (Nat.le_of_ble_eq_true rfl) ⟨Nat.zero_le _, Nat.zero_le _⟩ ?_
  obtain ⟨mm2, hmm2⟩ : ∃ q : Int, q = (if (ar4 : Int) < ar2 then ar4 else ar2) := ⟨_, rfl⟩
  refine sv_same (st2 := [sv_i mm2, sv_i mm1]) (lv2 := [(0, sv_i ar1), (1, sv_i ar2), (2, sv_i ar3), (3, sv_i ar4), (4, sv_i mm1)]) (by rw [hmm2]) rfl ?_
  refine sv_icmp C.1 C.2.1 (cnd := .gt) (off := 8) (tgt := 22) (by decide +kernel) (by decide) ⟨by omega, by omega⟩ ⟨by omega, by omega⟩ (fun (h3 : mm2 < mm1) => ?_) (fun (h3 : ¬ (mm2 < mm1)) => ?_)
  · refine sv_ldc_w C (index := 359) (z := 268435456) (by decide +kernel) ci_X11_359 (by decide) ?_
    exact sv_iret C hr (by decide +kernel) hok (⟨rfl, ⟨_, rfl, ⟨by omega, by omega⟩, fun _ _ => (by unfold tog; rw [← (show mm1 = mx ar1 ar3 from hmm1), ← (show mm2 = mn ar2 ar4 from hmm2)]; first | rw [if_pos (by omega)] | rw [if_neg (by omega)])⟩⟩)
  · refine sv_go C.1 C.2.1 [(.iload 4, 2)] (pc' := 19) (by decide +kernel) rfl (lv' := [(0, sv_i ar1), (1, sv_i ar2), (2, sv_i ar3), (3, sv_i ar4), (4, sv_i mm1)]) (st' := [sv_i mm1]) rfl ?_
    refine sv_goto C.1 C.2.1 (off := 6) (tgt := 25) (by decide +kernel) (by decide) ?_
    exact sv_iret C hr (by decide +kernel) hok (⟨rfl, ⟨_, rfl, ⟨by omega, by omega⟩, fun _ _ => (by unfold tog; rw [← (show mm1 = mx ar1 ar3 from hmm1), ← (show mm2 = mn ar2 ar4 from hmm2)]; first | rw [if_pos (by omega)] | rw [if_neg (by omega)])⟩⟩)

set_option maxHeartbeats 4000000 in
set_option maxRecDepth 100000 in
theorem ct_X11_isGoing (l : Launch) (g : sv_G) (A : Nat → Prop) (ty : Nat → Nat) (σ : Nat → Nat → Int) (hok : sv_ok ty σ) (hTA : ∀ q, ty q ≠ 0 → A q) (hI : sv_inv sp_1 ty σ) (a : Nat) (k_a : ty a = 10) (v : Int) (h_v : (-2147483648) ≤ v ∧ v ≤ 2147483647) (s1 : Nat) (k_s1 : ty s1 = 102) (es1 : σ a 42 = (s1 : Int) + 1) : sv_M l yX11_isGoing cX11_isGoing 2 (some .boolean) { frames := 2, cells := 0, slots := 0, locals := 45 } g A ty σ [sv_r a, sv_i v] (fun r σ' => σ = σ' ∧ ∃ rv : Int, r = [sv_i rv] ∧ (0 ≤ rv ∧ rv ≤ 1) ∧ (1 ≤ rv → rv ≤ 1 → (0 ≤ v ∧ v ≤ 11) ∧ 2 ≤ σ s1 v.toNat) ∧ (0 ≤ rv → rv ≤ 0 → ¬ zg_ok σ s1 v)) := by
  refine sv_enter (by decide) (Nat.le_of_ble_eq_true rfl) ?_
  intro p e s m args below meth c C hr
  have C : sv_C g A RX11 cX11_isGoing 2 p s m args meth c := C
  have hr : meth.sig.returnType = (some .boolean) := hr
  have hF : sv_ofx [] [] ty σ σ := sv_ofx.rf
  refine sv_same (st2 := []) (lv2 := [(0, sv_r a), (1, sv_i v)]) rfl rfl ?_
  refine sv_go C.1 C.2.1 [(.iload_n 1, 1)] (pc' := 1) (by decide +kernel) rfl (lv' := [(0, sv_r a), (1, sv_i v)]) (st' := [sv_i v]) rfl ?_
  refine sv_cs C (index := 345) (k := 1) (rest := []) (by decide +kernel) (sf2_X11_isWalk l g A ty σ hok hTA hI (v) ⟨by omega, by omega⟩) ⟨co_X11_isWalk, in_X11, ⟨by decide, by decide, by decide +kernel⟩, Nat.le_of_ble_eq_true rfl, Nat.le_of_ble_eq_true rfl⟩ ml_X11_345 st_X11_isWalk rfl rfl (Nat.le_of_ble_eq_true rfl) ⟨Nat.zero_le _, Nat.zero_le _⟩ (fun r2 σ3 hpo1 hok4 => ?_)
  obtain ⟨rfl, ⟨vu5, rfl, hvu5, ivu5_0, ivu5_1⟩⟩ := hpo1
  refine sv_same (st2 := [sv_i vu5]) (lv2 := [(0, sv_r a), (1, sv_i v)]) rfl rfl ?_
  refine sv_if C.1 C.2.1 (cnd := .eq) (off := 17) (tgt := 21) (by decide +kernel) (by decide) ⟨by omega, by omega⟩ (fun (h6 : vu5 = 0) => ?_) (fun (h6 : ¬ (vu5 = 0)) => ?_)
  · have hp7 := ivu5_1 (by omega) (by omega)
    refine sv_go C.1 C.2.1 [(.iconst 0, 1)] (pc' := 22) (by decide +kernel) rfl (lv' := [(0, sv_r a), (1, sv_i v)]) (st' := [sv_i 0]) rfl ?_
    exact sv_zret C hr (by omega) (by decide +kernel) hok4 (⟨rfl, ⟨_, rfl, ⟨by omega, by omega⟩, fun _ _ => (by exfalso; omega), fun _ _ => (fun hh => by unfold zg_ok at hh; omega)⟩⟩)
  · have hp8 := ivu5_0 (by omega) (by omega)
    refine sv_go C.1 C.2.1 [(.aload_n 0, 1)] (pc' := 8) (by decide +kernel) rfl (lv' := [(0, sv_r a), (1, sv_i v)]) (st' := [sv_r a]) rfl ?_
    refine sv_gf C (index := 151) (ci := 10) (k := 42) (r := (RX11, TX11, 47)) (v := sv_r s1) (by decide +kernel) (by rw [k_a]; rfl) rfl (by decide) fl_X11_151 (congrArg sv_a es1) ?_
    refine sv_go C.1 C.2.1 [(.iload_n 1, 1)] (pc' := 12) (by decide +kernel) rfl (lv' := [(0, sv_r a), (1, sv_i v)]) (st' := [sv_i v, sv_r s1]) rfl ?_
    refine sv_ia C (n := 12) (by decide +kernel) (by rw [k_s1]; rfl) (by decide) (by omega) (by omega) ?_
    obtain ⟨v9, ev9, hv9⟩ := sv_rdn hI (k := (v : Int).toNat) k_s1 rfl
    rw [ev9]
    refine sv_go C.1 C.2.1 [(.iconst 1, 1)] (pc' := 14) (by decide +kernel) rfl (lv' := [(0, sv_r a), (1, sv_i v)]) (st' := [sv_i 1, sv_i v9]) rfl ?_
    refine sv_icmp C.1 C.2.1 (cnd := .le) (off := 7) (tgt := 21) (by decide +kernel) (by decide) ⟨by omega, by omega⟩ ⟨by omega, by omega⟩ (fun (h10 : v9 ≤ 1) => ?_) (fun (h10 : ¬ (v9 ≤ 1)) => ?_)
    · refine sv_go C.1 C.2.1 [(.iconst 0, 1)] (pc' := 22) (by decide +kernel) rfl (lv' := [(0, sv_r a), (1, sv_i v)]) (st' := [sv_i 0]) rfl ?_
      exact sv_zret C hr (by omega) (by decide +kernel) hok4 (⟨rfl, ⟨_, rfl, ⟨by omega, by omega⟩, fun _ _ => (by exfalso; omega), fun _ _ => (fun hh => by unfold zg_ok at hh; omega)⟩⟩)
    · refine sv_go C.1 C.2.1 [(.iconst 1, 1)] (pc' := 18) (by decide +kernel) rfl (lv' := [(0, sv_r a), (1, sv_i v)]) (st' := [sv_i 1]) rfl ?_
      refine sv_goto C.1 C.2.1 (off := 4) (tgt := 22) (by decide +kernel) (by decide) ?_
      exact sv_zret C hr (by omega) (by decide +kernel) hok4 (⟨rfl, ⟨_, rfl, ⟨by omega, by omega⟩, fun _ _ => (by refine ⟨⟨?_, ?_⟩, ?_⟩ <;> omega), fun _ _ => (by exfalso; omega)⟩⟩)

set_option maxHeartbeats 4000000 in
set_option maxRecDepth 100000 in
theorem ct_X11_meet (l : Launch) (g : sv_G) (A : Nat → Prop) (ty : Nat → Nat) (σ : Nat → Nat → Int) (hok : sv_ok ty σ) (hTA : ∀ q, ty q ≠ 0 → A q) (hI : sv_inv sp_1 ty σ) (a : Nat) (k_a : ty a = 10) (v : Int) (h_v : 0 ≤ v ∧ v ≤ 11) (w : Int) (h_w : 0 ≤ w ∧ w ≤ 11) (s1 : Nat) (k_s1 : ty s1 = 102) (s2 : Nat) (k_s2 : ty s2 = 103) (s3 : Nat) (k_s3 : ty s3 = 104) (s4 : Nat) (k_s4 : ty s4 = 105) (s5 : Nat) (k_s5 : ty s5 = 106) (es1 : σ a 42 = (s1 : Int) + 1) (es2 : σ a 43 = (s2 : Int) + 1) (es3 : σ a 44 = (s3 : Int) + 1) (es4 : σ a 45 = (s4 : Int) + 1) (es5 : σ a 46 = (s5 : Int) + 1) : sv_M l yX11_meet cX11_meet 6 (some .int) { frames := 2, cells := 0, slots := 0, locals := 45 } g A ty σ [sv_r a, sv_i v, sv_i w] (fun r σ' => σ = σ' ∧ ∃ rv : Int, r = [sv_i rv] ∧ ((-2147483648) ≤ rv ∧ rv ≤ 268435456) ∧ ((-2147483648) ≤ rv → rv ≤ 2147483647 → zm_two σ s1 s2 s3 s4 s5 v w rv)) := by
  refine sv_enter (by decide) (Nat.le_of_ble_eq_true rfl) ?_
  intro p e s m args below meth c C hr
  have C : sv_C g A RX11 cX11_meet 6 p s m args meth c := C
  have hr : meth.sig.returnType = (some .int) := hr
  have hF : sv_ofx [] [] ty σ σ := sv_ofx.rf
  refine sv_same (st2 := []) (lv2 := [(0, sv_r a), (1, sv_i v), (2, sv_i w)]) rfl rfl ?_
  refine sv_ldc_w C (index := 359) (z := 268435456) (by decide +kernel) ci_X11_359 (by decide) ?_
  refine sv_go C.1 C.2.1 [(.istore_n 3, 1), (.iconst 0, 1), (.istore 4, 2)] (pc' := 7) (by decide +kernel) rfl (lv' := [(0, sv_r a), (1, sv_i v), (2, sv_i w), (3, sv_i 268435456), (4, sv_i 0)]) (st' := []) rfl ?_
  have L2 : ∀ (n : Nat) (Xg1_l3 : Int) (Xg1_l4 : Int), ((-2147483648) ≤ Xg1_l3 ∧ Xg1_l3 ≤ 268435456) → (0 ≤ Xg1_l4 ∧ Xg1_l4 ≤ 12) → (mJ (mu σ s2 s3 s4 s5 v w) (rP (2 * σ s1 v.toNat - 1) (2 * σ s1 w.toNat - 1) Xg1_l4 0) Xg1_l3) → (12 - Xg1_l4) < (n : Int) → sv_E p l e { frames := 2, cells := 0, slots := 0, locals := 45 } s m args below meth c 6 g A ty (fun r σ' => σ = σ' ∧ ∃ rv : Int, r = [sv_i rv] ∧ ((-2147483648) ≤ rv ∧ rv ≤ 268435456) ∧ ((-2147483648) ≤ rv → rv ≤ 2147483647 → zm_two σ s1 s2 s3 s4 s5 v w rv)) σ 7 [(0, sv_r a), (1, sv_i v), (2, sv_i w), (3, sv_i Xg1_l3), (4, sv_i Xg1_l4)] [] := by
    intro n
    induction n with
    | zero => intro Xg1_l3 Xg1_l4 hXg1_l3 hXg1_l4 zo hmu; exact absurd hmu (by omega)
    | succ n ih3 =>
      intro Xg1_l3 Xg1_l4 hXg1_l3 hXg1_l4 zo hmu
      refine sv_go C.1 C.2.1 [(.iload 4, 2), (.aload_n 0, 1)] (pc' := 10) (by decide +kernel) rfl (lv' := [(0, sv_r a), (1, sv_i v), (2, sv_i w), (3, sv_i Xg1_l3), (4, sv_i Xg1_l4)]) (st' := [sv_r a, sv_i Xg1_l4]) rfl ?_
      refine sv_gf C (index := 151) (ci := 10) (k := 42) (r := (RX11, TX11, 47)) (v := sv_r s1) (by decide +kernel) (by rw [k_a]; rfl) rfl (by decide) fl_X11_151 (congrArg sv_a es1) ?_
      refine sv_go C.1 C.2.1 [(.iload_n 1, 1)] (pc' := 14) (by decide +kernel) rfl (lv' := [(0, sv_r a), (1, sv_i v), (2, sv_i w), (3, sv_i Xg1_l3), (4, sv_i Xg1_l4)]) (st' := [sv_i v, sv_r s1, sv_i Xg1_l4]) rfl ?_
      refine sv_ia C (n := 12) (by decide +kernel) (by rw [k_s1]; rfl) (by decide) (by omega) (by omega) ?_
      obtain ⟨v4, ev4, hv4⟩ := sv_rdn hI (k := (v : Int).toNat) k_s1 rfl
      rw [ev4]
      refine sv_icmp C.1 C.2.1 (cnd := .ge) (off := 247) (tgt := 262) (by decide +kernel) (by decide) ⟨by omega, by omega⟩ ⟨by omega, by omega⟩ (fun (h5 : v4 ≤ Xg1_l4) => ?_) (fun (h5 : ¬ (v4 ≤ Xg1_l4)) => ?_)
      · refine sv_go C.1 C.2.1 [(.iload_n 3, 1)] (pc' := 263) (by decide +kernel) rfl (lv' := [(0, sv_r a), (1, sv_i v), (2, sv_i w), (3, sv_i Xg1_l3), (4, sv_i Xg1_l4)]) (st' := [sv_i Xg1_l3]) rfl ?_
        exact sv_iret C hr (by decide +kernel) hok (⟨rfl, ⟨_, rfl, ⟨by omega, by omega⟩, fun _ _ => (mJ_cg (rP_all (by omega)) zo)⟩⟩)
      · refine sv_go C.1 C.2.1 [(.iconst 0, 1), (.istore 5, 2)] (pc' := 21) (by decide +kernel) rfl (lv' := [(0, sv_r a), (1, sv_i v), (2, sv_i w), (3, sv_i Xg1_l3), (4, sv_i Xg1_l4), (5, sv_i 0)]) (st' := []) rfl ?_
        have L7 : ∀ (n : Nat) (Xg6_l3 : Int) (Xg6_l5 : Int), ((-2147483648) ≤ Xg6_l3 ∧ Xg6_l3 ≤ 268435456) → (0 ≤ Xg6_l5 ∧ Xg6_l5 ≤ 12) → (mJ (mu σ s2 s3 s4 s5 v w) (rP (2 * σ s1 v.toNat - 1) (2 * σ s1 w.toNat - 1) Xg1_l4 Xg6_l5) Xg6_l3) → (12 - Xg6_l5) < (n : Int) → sv_E p l e { frames := 2, cells := 0, slots := 0, locals := 45 } s m args below meth c 6 g A ty (fun r σ' => σ = σ' ∧ ∃ rv : Int, r = [sv_i rv] ∧ ((-2147483648) ≤ rv ∧ rv ≤ 268435456) ∧ ((-2147483648) ≤ rv → rv ≤ 2147483647 → zm_two σ s1 s2 s3 s4 s5 v w rv)) σ 21 [(0, sv_r a), (1, sv_i v), (2, sv_i w), (3, sv_i Xg6_l3), (4, sv_i Xg1_l4), (5, sv_i Xg6_l5)] [] := by
          intro n
          induction n with
          | zero => intro Xg6_l3 Xg6_l5 hXg6_l3 hXg6_l5 zi hmu; exact absurd hmu (by omega)
          | succ n ih8 =>
            intro Xg6_l3 Xg6_l5 hXg6_l3 hXg6_l5 zi hmu
            refine sv_go C.1 C.2.1 [(.iload 5, 2), (.aload_n 0, 1)] (pc' := 24) (by decide +kernel) rfl (lv' := [(0, sv_r a), (1, sv_i v), (2, sv_i w), (3, sv_i Xg6_l3), (4, sv_i Xg1_l4), (5, sv_i Xg6_l5)]) (st' := [sv_r a, sv_i Xg6_l5]) rfl ?_
            refine sv_gf C (index := 151) (ci := 10) (k := 42) (r := (RX11, TX11, 47)) (v := sv_r s1) (by decide +kernel) (by rw [k_a]; rfl) rfl (by decide) fl_X11_151 (congrArg sv_a es1) ?_
            refine sv_go C.1 C.2.1 [(.iload_n 2, 1)] (pc' := 28) (by decide +kernel) rfl (lv' := [(0, sv_r a), (1, sv_i v), (2, sv_i w), (3, sv_i Xg6_l3), (4, sv_i Xg1_l4), (5, sv_i Xg6_l5)]) (st' := [sv_i w, sv_r s1, sv_i Xg6_l5]) rfl ?_
            refine sv_ia C (n := 12) (by decide +kernel) (by rw [k_s1]; rfl) (by decide) (by omega) (by omega) ?_
            obtain ⟨v9, ev9, hv9⟩ := sv_rdn hI (k := (w : Int).toNat) k_s1 rfl
            rw [ev9]
            refine sv_icmp C.1 C.2.1 (cnd := .ge) (off := 227) (tgt := 256) (by decide +kernel) (by decide) ⟨by omega, by omega⟩ ⟨by omega, by omega⟩ (fun (h10 : v9 ≤ Xg6_l5) => ?_) (fun (h10 : ¬ (v9 ≤ Xg6_l5)) => ?_)
            · refine sv_go C.1 C.2.1 [(.iinc 4 1, 3)] (pc' := 259) (by decide +kernel) rfl (lv' := [(0, sv_r a), (1, sv_i v), (2, sv_i w), (3, sv_i Xg6_l3), (4, sv_i (Xg1_l4 + 1)), (5, sv_i Xg6_l5)]) (st' := []) rfl ?_
              refine sv_goto C.1 C.2.1 (off := (-252)) (tgt := 7) (by decide +kernel) (by decide) ?_
              refine sv_pick [0, 1, 2, 3, 4] (lv2 := [(0, sv_r a), (1, sv_i v), (2, sv_i w), (3, sv_i Xg6_l3), (4, sv_i (Xg1_l4 + 1))]) rfl ?_
              exact ih3 Xg6_l3 (Xg1_l4 + 1) ⟨by omega, by omega⟩ ⟨by omega, by omega⟩ (mJ_cg (rP_out (by omega)) zi) (by omega)
            · refine sv_go C.1 C.2.1 [(.aload_n 0, 1)] (pc' := 33) (by decide +kernel) rfl (lv' := [(0, sv_r a), (1, sv_i v), (2, sv_i w), (3, sv_i Xg6_l3), (4, sv_i Xg1_l4), (5, sv_i Xg6_l5)]) (st' := [sv_r a]) rfl ?_
              refine sv_gf C (index := 160) (ci := 10) (k := 45) (r := (RX11, TX11, 47)) (v := sv_r s4) (by decide +kernel) (by rw [k_a]; rfl) rfl (by decide) fl_X11_160 (congrArg sv_a es4) ?_
              refine sv_go C.1 C.2.1 [(.bipush 12, 2), (.iload_n 1, 1), (.imul, 1), (.iload 4, 2), (.iadd, 1)] (pc' := 43) (by decide +kernel) rfl (lv' := [(0, sv_r a), (1, sv_i v), (2, sv_i w), (3, sv_i Xg6_l3), (4, sv_i Xg1_l4), (5, sv_i Xg6_l5)]) (st' := [sv_i ((12 * v) + Xg1_l4), sv_r s4]) rfl ?_
              refine sv_ia C (n := 144) (by decide +kernel) (by rw [k_s4]; rfl) (by decide) (by omega) (by omega) ?_
              obtain ⟨v11, ev11, hv11⟩ := sv_rdn hI (k := ((12 * v) + Xg1_l4 : Int).toNat) k_s4 rfl
              rw [ev11]
              refine sv_go C.1 C.2.1 [(.aload_n 0, 1)] (pc' := 45) (by decide +kernel) rfl (lv' := [(0, sv_r a), (1, sv_i v), (2, sv_i w), (3, sv_i Xg6_l3), (4, sv_i Xg1_l4), (5, sv_i Xg6_l5)]) (st' := [sv_r a, sv_i v11]) rfl ?_
              refine sv_gf C (index := 160) (ci := 10) (k := 45) (r := (RX11, TX11, 47)) (v := sv_r s4) (by decide +kernel) (by rw [k_a]; rfl) rfl (by decide) fl_X11_160 (congrArg sv_a es4) ?_
              refine sv_go C.1 C.2.1 [(.bipush 12, 2), (.iload_n 2, 1), (.imul, 1), (.iload 5, 2), (.iadd, 1)] (pc' := 55) (by decide +kernel) rfl (lv' := [(0, sv_r a), (1, sv_i v), (2, sv_i w), (3, sv_i Xg6_l3), (4, sv_i Xg1_l4), (5, sv_i Xg6_l5)]) (st' := [sv_i ((12 * w) + Xg6_l5), sv_r s4, sv_i v11]) rfl ?_
              refine sv_ia C (n := 144) (by decide +kernel) (by rw [k_s4]; rfl) (by decide) (by omega) (by omega) ?_
              obtain ⟨v12, ev12, hv12⟩ := sv_rdn hI (k := ((12 * w) + Xg6_l5 : Int).toNat) k_s4 rfl
              rw [ev12]
              have J15 : ∀ (Jg14_l3 : Int), ((-2147483648) ≤ Jg14_l3 ∧ Jg14_l3 ≤ 268435456) → (mJ (mu σ s2 s3 s4 s5 v w) (rQ (2 * σ s1 v.toNat - 1) (2 * σ s1 w.toNat - 1) Xg1_l4 Xg6_l5) Jg14_l3) → sv_E p l e { frames := 2, cells := 0, slots := 0, locals := 45 } s m args below meth c 6 g A ty (fun r σ' => σ = σ' ∧ ∃ rv : Int, r = [sv_i rv] ∧ ((-2147483648) ≤ rv ∧ rv ≤ 268435456) ∧ ((-2147483648) ≤ rv → rv ≤ 2147483647 → zm_two σ s1 s2 s3 s4 s5 v w rv)) σ 109 [(0, sv_r a), (1, sv_i v), (2, sv_i w), (3, sv_i Jg14_l3), (4, sv_i Xg1_l4), (5, sv_i Xg6_l5)] [] := by
                intro Jg14_l3 hJg14_l3 zq
                refine sv_go C.1 C.2.1 [(.iload 4, 2), (.iconst 1, 1), (.iadd, 1), (.aload_n 0, 1)] (pc' := 114) (by decide +kernel) rfl (lv' := [(0, sv_r a), (1, sv_i v), (2, sv_i w), (3, sv_i Jg14_l3), (4, sv_i Xg1_l4), (5, sv_i Xg6_l5)]) (st' := [sv_r a, sv_i (Xg1_l4 + 1)]) rfl ?_
                refine sv_gf C (index := 151) (ci := 10) (k := 42) (r := (RX11, TX11, 47)) (v := sv_r s1) (by decide +kernel) (by rw [k_a]; rfl) rfl (by decide) fl_X11_151 (congrArg sv_a es1) ?_
                refine sv_go C.1 C.2.1 [(.iload_n 1, 1)] (pc' := 118) (by decide +kernel) rfl (lv' := [(0, sv_r a), (1, sv_i v), (2, sv_i w), (3, sv_i Jg14_l3), (4, sv_i Xg1_l4), (5, sv_i Xg6_l5)]) (st' := [sv_i v, sv_r s1, sv_i (Xg1_l4 + 1)]) rfl ?_
                refine sv_ia C (n := 12) (by decide +kernel) (by rw [k_s1]; rfl) (by decide) (by omega) (by omega) ?_
                rw [ev4]
                have J18 : ∀ (Jg17_l3 : Int), ((-2147483648) ≤ Jg17_l3 ∧ Jg17_l3 ≤ 268435456) → (mJ (mu σ s2 s3 s4 s5 v w) (rP (2 * σ s1 v.toNat - 1) (2 * σ s1 w.toNat - 1) Xg1_l4 (Xg6_l5 + 1)) Jg17_l3) → sv_E p l e { frames := 2, cells := 0, slots := 0, locals := 45 } s m args below meth c 6 g A ty (fun r σ' => σ = σ' ∧ ∃ rv : Int, r = [sv_i rv] ∧ ((-2147483648) ≤ rv ∧ rv ≤ 268435456) ∧ ((-2147483648) ≤ rv → rv ≤ 2147483647 → zm_two σ s1 s2 s3 s4 s5 v w rv)) σ 250 [(0, sv_r a), (1, sv_i v), (2, sv_i w), (3, sv_i Jg17_l3), (4, sv_i Xg1_l4), (5, sv_i Xg6_l5)] [] := by
                  intro Jg17_l3 hJg17_l3 zj
                  refine sv_go C.1 C.2.1 [(.iinc 5 1, 3)] (pc' := 253) (by decide +kernel) rfl (lv' := [(0, sv_r a), (1, sv_i v), (2, sv_i w), (3, sv_i Jg17_l3), (4, sv_i Xg1_l4), (5, sv_i (Xg6_l5 + 1))]) (st' := []) rfl ?_
                  refine sv_goto C.1 C.2.1 (off := (-232)) (tgt := 21) (by decide +kernel) (by decide) ?_
                  exact ih8 Jg17_l3 (Xg6_l5 + 1) ⟨by omega, by omega⟩ ⟨by omega, by omega⟩ zj (by omega)
                refine sv_icmp C.1 C.2.1 (cnd := .eq) (off := 131) (tgt := 250) (by decide +kernel) (by decide) ⟨by omega, by omega⟩ ⟨by omega, by omega⟩ (fun (h16 : (Xg1_l4 + 1) = v4) => ?_) (fun (h16 : ¬ ((Xg1_l4 + 1) = v4)) => ?_)
                · exact J18 Jg14_l3 ⟨by omega, by omega⟩ (by first | exact mJ_cg (rP_q (by omega) (by omega) (by omega) (by omega) (by omega)) zq | exact mJ_far zq (rP_s (by omega) (by omega) (by omega) (by omega)) ((mu_s (by omega) (by omega) (by omega) (by omega)).2 (fun hh => by omega)))
                · refine sv_go C.1 C.2.1 [(.iload 5, 2), (.iconst 1, 1), (.iadd, 1), (.aload_n 0, 1)] (pc' := 127) (by decide +kernel) rfl (lv' := [(0, sv_r a), (1, sv_i v), (2, sv_i w), (3, sv_i Jg14_l3), (4, sv_i Xg1_l4), (5, sv_i Xg6_l5)]) (st' := [sv_r a, sv_i (Xg6_l5 + 1)]) rfl ?_
                  refine sv_gf C (index := 151) (ci := 10) (k := 42) (r := (RX11, TX11, 47)) (v := sv_r s1) (by decide +kernel) (by rw [k_a]; rfl) rfl (by decide) fl_X11_151 (congrArg sv_a es1) ?_
                  refine sv_go C.1 C.2.1 [(.iload_n 2, 1)] (pc' := 131) (by decide +kernel) rfl (lv' := [(0, sv_r a), (1, sv_i v), (2, sv_i w), (3, sv_i Jg14_l3), (4, sv_i Xg1_l4), (5, sv_i Xg6_l5)]) (st' := [sv_i w, sv_r s1, sv_i (Xg6_l5 + 1)]) rfl ?_
                  refine sv_ia C (n := 12) (by decide +kernel) (by rw [k_s1]; rfl) (by decide) (by omega) (by omega) ?_
                  rw [ev9]
                  refine sv_icmp C.1 C.2.1 (cnd := .eq) (off := 118) (tgt := 250) (by decide +kernel) (by decide) ⟨by omega, by omega⟩ ⟨by omega, by omega⟩ (fun (h19 : (Xg6_l5 + 1) = v9) => ?_) (fun (h19 : ¬ ((Xg6_l5 + 1) = v9)) => ?_)
                  · exact J18 Jg14_l3 ⟨by omega, by omega⟩ (by first | exact mJ_cg (rP_q (by omega) (by omega) (by omega) (by omega) (by omega)) zq | exact mJ_far zq (rP_s (by omega) (by omega) (by omega) (by omega)) ((mu_s (by omega) (by omega) (by omega) (by omega)).2 (fun hh => by omega)))
                  · refine sv_go C.1 C.2.1 [(.aload_n 0, 1)] (pc' := 136) (by decide +kernel) rfl (lv' := [(0, sv_r a), (1, sv_i v), (2, sv_i w), (3, sv_i Jg14_l3), (4, sv_i Xg1_l4), (5, sv_i Xg6_l5)]) (st' := [sv_r a]) rfl ?_
                    refine sv_gf C (index := 160) (ci := 10) (k := 45) (r := (RX11, TX11, 47)) (v := sv_r s4) (by decide +kernel) (by rw [k_a]; rfl) rfl (by decide) fl_X11_160 (congrArg sv_a es4) ?_
                    refine sv_go C.1 C.2.1 [(.bipush 12, 2), (.iload_n 1, 1), (.imul, 1), (.iload 4, 2), (.iadd, 1)] (pc' := 146) (by decide +kernel) rfl (lv' := [(0, sv_r a), (1, sv_i v), (2, sv_i w), (3, sv_i Jg14_l3), (4, sv_i Xg1_l4), (5, sv_i Xg6_l5)]) (st' := [sv_i ((12 * v) + Xg1_l4), sv_r s4]) rfl ?_
                    refine sv_ia C (n := 144) (by decide +kernel) (by rw [k_s4]; rfl) (by decide) (by omega) (by omega) ?_
                    rw [ev11]
                    refine sv_go C.1 C.2.1 [(.aload_n 0, 1)] (pc' := 148) (by decide +kernel) rfl (lv' := [(0, sv_r a), (1, sv_i v), (2, sv_i w), (3, sv_i Jg14_l3), (4, sv_i Xg1_l4), (5, sv_i Xg6_l5)]) (st' := [sv_r a, sv_i v11]) rfl ?_
                    refine sv_gf C (index := 160) (ci := 10) (k := 45) (r := (RX11, TX11, 47)) (v := sv_r s4) (by decide +kernel) (by rw [k_a]; rfl) rfl (by decide) fl_X11_160 (congrArg sv_a es4) ?_
                    refine sv_go C.1 C.2.1 [(.bipush 12, 2), (.iload_n 2, 1), (.imul, 1), (.iload 5, 2), (.iadd, 1), (.iconst 1, 1), (.iadd, 1)] (pc' := 160) (by decide +kernel) rfl (lv' := [(0, sv_r a), (1, sv_i v), (2, sv_i w), (3, sv_i Jg14_l3), (4, sv_i Xg1_l4), (5, sv_i Xg6_l5)]) (st' := [sv_i (((12 * w) + Xg6_l5) + 1), sv_r s4, sv_i v11]) rfl ?_
                    refine sv_ia C (n := 144) (by decide +kernel) (by rw [k_s4]; rfl) (by decide) (by omega) (by omega) ?_
                    obtain ⟨v20, ev20, hv20⟩ := sv_rdn hI (k := (((12 * w) + Xg6_l5) + 1 : Int).toNat) k_s4 rfl
                    rw [ev20]
                    refine sv_icmp C.1 C.2.1 (cnd := .ne) (off := 89) (tgt := 250) (by decide +kernel) (by decide) ⟨by omega, by omega⟩ ⟨by omega, by omega⟩ (fun (h21 : v11 ≠ v20) => ?_) (fun (h21 : ¬ (v11 ≠ v20)) => ?_)
                    · exact J18 Jg14_l3 ⟨by omega, by omega⟩ (by first | exact mJ_cg (rP_q (by omega) (by omega) (by omega) (by omega) (by omega)) zq | exact mJ_far zq (rP_s (by omega) (by omega) (by omega) (by omega)) ((mu_s (by omega) (by omega) (by omega) (by omega)).2 (fun hh => by omega)))
                    · refine sv_go C.1 C.2.1 [(.aload_n 0, 1)] (pc' := 165) (by decide +kernel) rfl (lv' := [(0, sv_r a), (1, sv_i v), (2, sv_i w), (3, sv_i Jg14_l3), (4, sv_i Xg1_l4), (5, sv_i Xg6_l5)]) (st' := [sv_r a]) rfl ?_
                      refine sv_gf C (index := 160) (ci := 10) (k := 45) (r := (RX11, TX11, 47)) (v := sv_r s4) (by decide +kernel) (by rw [k_a]; rfl) rfl (by decide) fl_X11_160 (congrArg sv_a es4) ?_
                      refine sv_go C.1 C.2.1 [(.bipush 12, 2), (.iload_n 1, 1), (.imul, 1), (.iload 4, 2), (.iadd, 1), (.iconst 1, 1), (.iadd, 1)] (pc' := 177) (by decide +kernel) rfl (lv' := [(0, sv_r a), (1, sv_i v), (2, sv_i w), (3, sv_i Jg14_l3), (4, sv_i Xg1_l4), (5, sv_i Xg6_l5)]) (st' := [sv_i (((12 * v) + Xg1_l4) + 1), sv_r s4]) rfl ?_
                      refine sv_ia C (n := 144) (by decide +kernel) (by rw [k_s4]; rfl) (by decide) (by omega) (by omega) ?_
                      obtain ⟨v22, ev22, hv22⟩ := sv_rdn hI (k := (((12 * v) + Xg1_l4) + 1 : Int).toNat) k_s4 rfl
                      rw [ev22]
                      refine sv_go C.1 C.2.1 [(.aload_n 0, 1)] (pc' := 179) (by decide +kernel) rfl (lv' := [(0, sv_r a), (1, sv_i v), (2, sv_i w), (3, sv_i Jg14_l3), (4, sv_i Xg1_l4), (5, sv_i Xg6_l5)]) (st' := [sv_r a, sv_i v22]) rfl ?_
                      refine sv_gf C (index := 160) (ci := 10) (k := 45) (r := (RX11, TX11, 47)) (v := sv_r s4) (by decide +kernel) (by rw [k_a]; rfl) rfl (by decide) fl_X11_160 (congrArg sv_a es4) ?_
                      refine sv_go C.1 C.2.1 [(.bipush 12, 2), (.iload_n 2, 1), (.imul, 1), (.iload 5, 2), (.iadd, 1)] (pc' := 189) (by decide +kernel) rfl (lv' := [(0, sv_r a), (1, sv_i v), (2, sv_i w), (3, sv_i Jg14_l3), (4, sv_i Xg1_l4), (5, sv_i Xg6_l5)]) (st' := [sv_i ((12 * w) + Xg6_l5), sv_r s4, sv_i v22]) rfl ?_
                      refine sv_ia C (n := 144) (by decide +kernel) (by rw [k_s4]; rfl) (by decide) (by omega) (by omega) ?_
                      rw [ev12]
                      refine sv_icmp C.1 C.2.1 (cnd := .eq) (off := 6) (tgt := 196) (by decide +kernel) (by decide) ⟨by omega, by omega⟩ ⟨by omega, by omega⟩ (fun (h23 : v22 = v12) => ?_) (fun (h23 : ¬ (v22 = v12)) => ?_)
                      · refine sv_go C.1 C.2.1 [(.iload_n 3, 1), (.aload_n 0, 1), (.iload_n 1, 1), (.iload 4, 2)] (pc' := 201) (by decide +kernel) rfl (lv' := [(0, sv_r a), (1, sv_i v), (2, sv_i w), (3, sv_i Jg14_l3), (4, sv_i Xg1_l4), (5, sv_i Xg6_l5)]) (st' := [sv_i Xg1_l4, sv_i v, sv_r a, sv_i Jg14_l3]) rfl ?_
                        refine sv_cv C (index := 356) (k := 2) (rest := [sv_i Jg14_l3]) (ci := 10) (r := (RX11, TX11, 47)) (by decide +kernel) (ct_X11_headAt l g A ty σ hok hTA hI a k_a (v) ⟨by omega, by omega⟩ (Xg1_l4) ⟨by omega, by omega⟩ s2 k_s2 s5 k_s5 es2 es5) ⟨co_X11_headAt, in_X11, ⟨by decide, by decide, by decide +kernel⟩, Nat.le_of_ble_eq_true rfl, Nat.le_of_ble_eq_true rfl⟩ ml_X11_356 im_X11_headAt se_X11_headAt (by rw [k_a]; rfl) rfl rfl rfl (Nat.le_of_ble_eq_true rfl) ⟨Nat.zero_le _, Nat.zero_le _⟩ (fun r25 σ26 hpo24 hok27 => ?_)
                        obtain ⟨rfl, ⟨vu28, rfl, hvu28, ivu28_0⟩⟩ := hpo24
                        have hp29 := ivu28_0 (by omega) (by omega)
                        refine sv_same (st2 := [sv_i vu28, sv_i Jg14_l3]) (lv2 := [(0, sv_r a), (1, sv_i v), (2, sv_i w), (3, sv_i Jg14_l3), (4, sv_i Xg1_l4), (5, sv_i Xg6_l5)]) rfl rfl ?_
                        refine sv_go C.1 C.2.1 [(.aload_n 0, 1), (.iload_n 1, 1), (.iload 4, 2), (.iconst 1, 1), (.iadd, 1)] (pc' := 210) (by decide +kernel) rfl (lv' := [(0, sv_r a), (1, sv_i v), (2, sv_i w), (3, sv_i Jg14_l3), (4, sv_i Xg1_l4), (5, sv_i Xg6_l5)]) (st' := [sv_i (Xg1_l4 + 1), sv_i v, sv_r a, sv_i vu28, sv_i Jg14_l3]) rfl ?_
                        refine sv_cv C (index := 356) (k := 2) (rest := [sv_i vu28, sv_i Jg14_l3]) (ci := 10) (r := (RX11, TX11, 47)) (by decide +kernel) (ct_X11_headAt l g A ty σ hok27 hTA hI a k_a (v) ⟨by omega, by omega⟩ (Xg1_l4 + 1) ⟨by omega, by omega⟩ s2 k_s2 s5 k_s5 es2 es5) ⟨co_X11_headAt, in_X11, ⟨by decide, by decide, by decide +kernel⟩, Nat.le_of_ble_eq_true rfl, Nat.le_of_ble_eq_true rfl⟩ ml_X11_356 im_X11_headAt se_X11_headAt (by rw [k_a]; rfl) rfl rfl rfl (Nat.le_of_ble_eq_true rfl) ⟨Nat.zero_le _, Nat.zero_le _⟩ (fun r31 σ32 hpo30 hok33 => ?_)
                        obtain ⟨rfl, ⟨vu34, rfl, hvu34, ivu34_0⟩⟩ := hpo30
                        have hp35 := ivu34_0 (by omega) (by omega)
                        refine sv_same (st2 := [sv_i vu34, sv_i vu28, sv_i Jg14_l3]) (lv2 := [(0, sv_r a), (1, sv_i v), (2, sv_i w), (3, sv_i Jg14_l3), (4, sv_i Xg1_l4), (5, sv_i Xg6_l5)]) rfl rfl ?_
                        refine sv_go C.1 C.2.1 [(.aload_n 0, 1)] (pc' := 214) (by decide +kernel) rfl (lv' := [(0, sv_r a), (1, sv_i v), (2, sv_i w), (3, sv_i Jg14_l3), (4, sv_i Xg1_l4), (5, sv_i Xg6_l5)]) (st' := [sv_r a, sv_i vu34, sv_i vu28, sv_i Jg14_l3]) rfl ?_
                        refine sv_gf C (index := 157) (ci := 10) (k := 44) (r := (RX11, TX11, 47)) (v := sv_r s3) (by decide +kernel) (by rw [k_a]; rfl) rfl (by decide) fl_X11_157 (congrArg sv_a es3) ?_
                        refine sv_go C.1 C.2.1 [(.iload_n 1, 1)] (pc' := 218) (by decide +kernel) rfl (lv' := [(0, sv_r a), (1, sv_i v), (2, sv_i w), (3, sv_i Jg14_l3), (4, sv_i Xg1_l4), (5, sv_i Xg6_l5)]) (st' := [sv_i v, sv_r s3, sv_i vu34, sv_i vu28, sv_i Jg14_l3]) rfl ?_
                        refine sv_ia C (n := 12) (by decide +kernel) (by rw [k_s3]; rfl) (by decide) (by omega) (by omega) ?_
                        obtain ⟨v36, ev36, hv36⟩ := sv_rdn hI (k := (v : Int).toNat) k_s3 rfl
                        rw [ev36]
                        refine sv_go C.1 C.2.1 [(.iadd, 1), (.aload_n 0, 1), (.iload_n 2, 1), (.iload 5, 2)] (pc' := 224) (by decide +kernel) rfl (lv' := [(0, sv_r a), (1, sv_i v), (2, sv_i w), (3, sv_i Jg14_l3), (4, sv_i Xg1_l4), (5, sv_i Xg6_l5)]) (st' := [sv_i Xg6_l5, sv_i w, sv_r a, sv_i (vu34 + v36), sv_i vu28, sv_i Jg14_l3]) rfl ?_
                        refine sv_cv C (index := 356) (k := 2) (rest := [sv_i (vu34 + v36), sv_i vu28, sv_i Jg14_l3]) (ci := 10) (r := (RX11, TX11, 47)) (by decide +kernel) (ct_X11_headAt l g A ty σ hok33 hTA hI a k_a (w) ⟨by omega, by omega⟩ (Xg6_l5) ⟨by omega, by omega⟩ s2 k_s2 s5 k_s5 es2 es5) ⟨co_X11_headAt, in_X11, ⟨by decide, by decide, by decide +kernel⟩, Nat.le_of_ble_eq_true rfl, Nat.le_of_ble_eq_true rfl⟩ ml_X11_356 im_X11_headAt se_X11_headAt (by rw [k_a]; rfl) rfl rfl rfl (Nat.le_of_ble_eq_true rfl) ⟨Nat.zero_le _, Nat.zero_le _⟩ (fun r38 σ39 hpo37 hok40 => ?_)
                        obtain ⟨rfl, ⟨vu41, rfl, hvu41, ivu41_0⟩⟩ := hpo37
                        have hp42 := ivu41_0 (by omega) (by omega)
                        refine sv_same (st2 := [sv_i vu41, sv_i (vu34 + v36), sv_i vu28, sv_i Jg14_l3]) (lv2 := [(0, sv_r a), (1, sv_i v), (2, sv_i w), (3, sv_i Jg14_l3), (4, sv_i Xg1_l4), (5, sv_i Xg6_l5)]) rfl rfl ?_
                        refine sv_go C.1 C.2.1 [(.aload_n 0, 1), (.iload_n 2, 1), (.iload 5, 2), (.iconst 1, 1), (.iadd, 1)] (pc' := 233) (by decide +kernel) rfl (lv' := [(0, sv_r a), (1, sv_i v), (2, sv_i w), (3, sv_i Jg14_l3), (4, sv_i Xg1_l4), (5, sv_i Xg6_l5)]) (st' := [sv_i (Xg6_l5 + 1), sv_i w, sv_r a, sv_i vu41, sv_i (vu34 + v36), sv_i vu28, sv_i Jg14_l3]) rfl ?_
                        refine sv_cv C (index := 356) (k := 2) (rest := [sv_i vu41, sv_i (vu34 + v36), sv_i vu28, sv_i Jg14_l3]) (ci := 10) (r := (RX11, TX11, 47)) (by decide +kernel) (ct_X11_headAt l g A ty σ hok40 hTA hI a k_a (w) ⟨by omega, by omega⟩ (Xg6_l5 + 1) ⟨by omega, by omega⟩ s2 k_s2 s5 k_s5 es2 es5) ⟨co_X11_headAt, in_X11, ⟨by decide, by decide, by decide +kernel⟩, Nat.le_of_ble_eq_true rfl, Nat.le_of_ble_eq_true rfl⟩ ml_X11_356 im_X11_headAt se_X11_headAt (by rw [k_a]; rfl) rfl rfl rfl (Nat.le_of_ble_eq_true rfl) ⟨Nat.zero_le _, Nat.zero_le _⟩ (fun r44 σ45 hpo43 hok46 => ?_)
                        obtain ⟨rfl, ⟨vu47, rfl, hvu47, ivu47_0⟩⟩ := hpo43
                        have hp48 := ivu47_0 (by omega) (by omega)
                        refine sv_same (st2 := [sv_i vu47, sv_i vu41, sv_i (vu34 + v36), sv_i vu28, sv_i Jg14_l3]) (lv2 := [(0, sv_r a), (1, sv_i v), (2, sv_i w), (3, sv_i Jg14_l3), (4, sv_i Xg1_l4), (5, sv_i Xg6_l5)]) rfl rfl ?_
                        refine sv_go C.1 C.2.1 [(.aload_n 0, 1)] (pc' := 237) (by decide +kernel) rfl (lv' := [(0, sv_r a), (1, sv_i v), (2, sv_i w), (3, sv_i Jg14_l3), (4, sv_i Xg1_l4), (5, sv_i Xg6_l5)]) (st' := [sv_r a, sv_i vu47, sv_i vu41, sv_i (vu34 + v36), sv_i vu28, sv_i Jg14_l3]) rfl ?_
                        refine sv_gf C (index := 157) (ci := 10) (k := 44) (r := (RX11, TX11, 47)) (v := sv_r s3) (by decide +kernel) (by rw [k_a]; rfl) rfl (by decide) fl_X11_157 (congrArg sv_a es3) ?_
                        refine sv_go C.1 C.2.1 [(.iload_n 2, 1)] (pc' := 241) (by decide +kernel) rfl (lv' := [(0, sv_r a), (1, sv_i v), (2, sv_i w), (3, sv_i Jg14_l3), (4, sv_i Xg1_l4), (5, sv_i Xg6_l5)]) (st' := [sv_i w, sv_r s3, sv_i vu47, sv_i vu41, sv_i (vu34 + v36), sv_i vu28, sv_i Jg14_l3]) rfl ?_
                        refine sv_ia C (n := 12) (by decide +kernel) (by rw [k_s3]; rfl) (by decide) (by omega) (by omega) ?_
                        obtain ⟨v49, ev49, hv49⟩ := sv_rdn hI (k := (w : Int).toNat) k_s3 rfl
                        rw [ev49]
                        refine sv_go C.1 C.2.1 [(.iadd, 1)] (pc' := 243) (by decide +kernel) rfl (lv' := [(0, sv_r a), (1, sv_i v), (2, sv_i w), (3, sv_i Jg14_l3), (4, sv_i Xg1_l4), (5, sv_i Xg6_l5)]) (st' := [sv_i (vu47 + v49), sv_i vu41, sv_i (vu34 + v36), sv_i vu28, sv_i Jg14_l3]) rfl ?_
                        obtain ⟨w50, hw50, ew50⟩ := sv_wr (vu47 + v49)
                        refine sv_sameD (st2 := [sv_i w50, sv_i vu41, sv_i (vu34 + v36), sv_i vu28, sv_i Jg14_l3]) (lv2 := [(0, sv_r a), (1, sv_i v), (2, sv_i w), (3, sv_i Jg14_l3), (4, sv_i Xg1_l4), (5, sv_i Xg6_l5)]) (by simp only [List.map_cons, List.map_nil, sv_den_i, ew50]) rfl ?_
                        obtain ⟨w51, hw51, ew51⟩ := sv_wr (vu34 + v36)
                        refine sv_sameD (st2 := [sv_i w50, sv_i vu41, sv_i w51, sv_i vu28, sv_i Jg14_l3]) (lv2 := [(0, sv_r a), (1, sv_i v), (2, sv_i w), (3, sv_i Jg14_l3), (4, sv_i Xg1_l4), (5, sv_i Xg6_l5)]) (by simp only [List.map_cons, List.map_nil, sv_den_i, ew51]) rfl ?_
                        refine sv_cs C (index := 360) (k := 4) (rest := [sv_i Jg14_l3]) (by decide +kernel) (ct_X11_together l g A ty σ hok46 hTA hI (vu28) ⟨by omega, by omega⟩ (w51) ⟨by omega, by omega⟩ (vu41) ⟨by omega, by omega⟩ (w50) ⟨by omega, by omega⟩) ⟨co_X11_together, in_X11, ⟨by decide, by decide, by decide +kernel⟩, Nat.le_of_ble_eq_true rfl, Nat.le_of_ble_eq_true rfl⟩ ml_X11_360 st_X11_together rfl rfl (Nat.le_of_ble_eq_true rfl) ⟨Nat.zero_le _, Nat.zero_le _⟩ (fun r53 σ54 hpo52 hok55 => ?_)
                        obtain ⟨rfl, ⟨vu56, rfl, hvu56, ivu56_0⟩⟩ := hpo52
                        have hp57 := ivu56_0 (by omega) (by omega)
                        refine sv_same (st2 := [sv_i vu56, sv_i Jg14_l3]) (lv2 := [(0, sv_r a), (1, sv_i v), (2, sv_i w), (3, sv_i Jg14_l3), (4, sv_i Xg1_l4), (5, sv_i Xg6_l5)]) rfl rfl ?_
                        refine sv_min C (index := 331) (by decide +kernel) ml_X11_331 ⟨by omega, by omega⟩ ⟨by omega, by omega⟩ (Nat.le_of_ble_eq_true rfl) (Nat.le_of_ble_eq_true rfl) ⟨Nat.zero_le _, Nat.zero_le _⟩ ?_
                        obtain ⟨mm58, hmm58⟩ : ∃ q : Int, q = (if (vu56 : Int) < Jg14_l3 then vu56 else Jg14_l3) := ⟨_, rfl⟩
                        refine sv_same (st2 := [sv_i mm58]) (lv2 := [(0, sv_r a), (1, sv_i v), (2, sv_i w), (3, sv_i Jg14_l3), (4, sv_i Xg1_l4), (5, sv_i Xg6_l5)]) (by rw [hmm58]) rfl ?_
                        refine sv_go C.1 C.2.1 [(.istore_n 3, 1)] (pc' := 250) (by decide +kernel) rfl (lv' := [(0, sv_r a), (1, sv_i v), (2, sv_i w), (3, sv_i mm58), (4, sv_i Xg1_l4), (5, sv_i Xg6_l5)]) (st' := []) rfl ?_
                        exact J18 mm58 ⟨by omega, by omega⟩ (mJ_min zq (rP_s (by omega) (by omega) (by omega) (by omega)) (hp57.trans ((tog_cg (hp29.trans (hdr_at (by omega)).symm) ((zw_eq hw51 ew51).trans (by rw [ldr_at (by omega), ← hp35, ev36])) (hp42.trans (hdr_at (by omega)).symm) ((zw_eq hw50 ew50).trans (by rw [ldr_at (by omega), ← hp48, ev49]))).trans ((mu_s (by omega) (by omega) (by omega) (by omega)).1 ⟨by omega, by omega⟩).symm)) hmm58)
                      · refine sv_goto C.1 C.2.1 (off := 57) (tgt := 250) (by decide +kernel) (by decide) ?_
                        exact J18 Jg14_l3 ⟨by omega, by omega⟩ (by first | exact mJ_cg (rP_q (by omega) (by omega) (by omega) (by omega) (by omega)) zq | exact mJ_far zq (rP_s (by omega) (by omega) (by omega) (by omega)) ((mu_s (by omega) (by omega) (by omega) (by omega)).2 (fun hh => by omega)))
              refine sv_icmp C.1 C.2.1 (cnd := .ne) (off := 53) (tgt := 109) (by decide +kernel) (by decide) ⟨by omega, by omega⟩ ⟨by omega, by omega⟩ (fun (h13 : v11 ≠ v12) => ?_) (fun (h13 : ¬ (v11 ≠ v12)) => ?_)
              · exact J15 Xg6_l3 ⟨by omega, by omega⟩ (mJ_far zi (fun _ _ => Iff.rfl) ((mu_c (by omega) (by omega) (by omega) (by omega)).2 (by omega)))
              · refine sv_go C.1 C.2.1 [(.iload_n 3, 1), (.aload_n 0, 1), (.iload_n 1, 1), (.iload 4, 2)] (pc' := 64) (by decide +kernel) rfl (lv' := [(0, sv_r a), (1, sv_i v), (2, sv_i w), (3, sv_i Xg6_l3), (4, sv_i Xg1_l4), (5, sv_i Xg6_l5)]) (st' := [sv_i Xg1_l4, sv_i v, sv_r a, sv_i Xg6_l3]) rfl ?_
                refine sv_cv C (index := 356) (k := 2) (rest := [sv_i Xg6_l3]) (ci := 10) (r := (RX11, TX11, 47)) (by decide +kernel) (ct_X11_headAt l g A ty σ hok hTA hI a k_a (v) ⟨by omega, by omega⟩ (Xg1_l4) ⟨by omega, by omega⟩ s2 k_s2 s5 k_s5 es2 es5) ⟨co_X11_headAt, in_X11, ⟨by decide, by decide, by decide +kernel⟩, Nat.le_of_ble_eq_true rfl, Nat.le_of_ble_eq_true rfl⟩ ml_X11_356 im_X11_headAt se_X11_headAt (by rw [k_a]; rfl) rfl rfl rfl (Nat.le_of_ble_eq_true rfl) ⟨Nat.zero_le _, Nat.zero_le _⟩ (fun r60 σ61 hpo59 hok62 => ?_)
                obtain ⟨rfl, ⟨vu63, rfl, hvu63, ivu63_0⟩⟩ := hpo59
                have hp64 := ivu63_0 (by omega) (by omega)
                refine sv_same (st2 := [sv_i vu63, sv_i Xg6_l3]) (lv2 := [(0, sv_r a), (1, sv_i v), (2, sv_i w), (3, sv_i Xg6_l3), (4, sv_i Xg1_l4), (5, sv_i Xg6_l5)]) rfl rfl ?_
                refine sv_go C.1 C.2.1 [(.aload_n 0, 1), (.iload_n 1, 1), (.iload 4, 2)] (pc' := 71) (by decide +kernel) rfl (lv' := [(0, sv_r a), (1, sv_i v), (2, sv_i w), (3, sv_i Xg6_l3), (4, sv_i Xg1_l4), (5, sv_i Xg6_l5)]) (st' := [sv_i Xg1_l4, sv_i v, sv_r a, sv_i vu63, sv_i Xg6_l3]) rfl ?_
                refine sv_cv C (index := 356) (k := 2) (rest := [sv_i vu63, sv_i Xg6_l3]) (ci := 10) (r := (RX11, TX11, 47)) (by decide +kernel) (ct_X11_headAt l g A ty σ hok62 hTA hI a k_a (v) ⟨by omega, by omega⟩ (Xg1_l4) ⟨by omega, by omega⟩ s2 k_s2 s5 k_s5 es2 es5) ⟨co_X11_headAt, in_X11, ⟨by decide, by decide, by decide +kernel⟩, Nat.le_of_ble_eq_true rfl, Nat.le_of_ble_eq_true rfl⟩ ml_X11_356 im_X11_headAt se_X11_headAt (by rw [k_a]; rfl) rfl rfl rfl (Nat.le_of_ble_eq_true rfl) ⟨Nat.zero_le _, Nat.zero_le _⟩ (fun r66 σ67 hpo65 hok68 => ?_)
                obtain ⟨rfl, ⟨vu69, rfl, hvu69, ivu69_0⟩⟩ := hpo65
                have hp70 := ivu69_0 (by omega) (by omega)
                refine sv_same (st2 := [sv_i vu69, sv_i vu63, sv_i Xg6_l3]) (lv2 := [(0, sv_r a), (1, sv_i v), (2, sv_i w), (3, sv_i Xg6_l3), (4, sv_i Xg1_l4), (5, sv_i Xg6_l5)]) rfl rfl ?_
                refine sv_go C.1 C.2.1 [(.aload_n 0, 1)] (pc' := 75) (by decide +kernel) rfl (lv' := [(0, sv_r a), (1, sv_i v), (2, sv_i w), (3, sv_i Xg6_l3), (4, sv_i Xg1_l4), (5, sv_i Xg6_l5)]) (st' := [sv_r a, sv_i vu69, sv_i vu63, sv_i Xg6_l3]) rfl ?_
                refine sv_gf C (index := 157) (ci := 10) (k := 44) (r := (RX11, TX11, 47)) (v := sv_r s3) (by decide +kernel) (by rw [k_a]; rfl) rfl (by decide) fl_X11_157 (congrArg sv_a es3) ?_
                refine sv_go C.1 C.2.1 [(.iload_n 1, 1)] (pc' := 79) (by decide +kernel) rfl (lv' := [(0, sv_r a), (1, sv_i v), (2, sv_i w), (3, sv_i Xg6_l3), (4, sv_i Xg1_l4), (5, sv_i Xg6_l5)]) (st' := [sv_i v, sv_r s3, sv_i vu69, sv_i vu63, sv_i Xg6_l3]) rfl ?_
                refine sv_ia C (n := 12) (by decide +kernel) (by rw [k_s3]; rfl) (by decide) (by omega) (by omega) ?_
                obtain ⟨v71, ev71, hv71⟩ := sv_rdn hI (k := (v : Int).toNat) k_s3 rfl
                rw [ev71]
                refine sv_go C.1 C.2.1 [(.iadd, 1), (.aload_n 0, 1), (.iload_n 2, 1), (.iload 5, 2)] (pc' := 85) (by decide +kernel) rfl (lv' := [(0, sv_r a), (1, sv_i v), (2, sv_i w), (3, sv_i Xg6_l3), (4, sv_i Xg1_l4), (5, sv_i Xg6_l5)]) (st' := [sv_i Xg6_l5, sv_i w, sv_r a, sv_i (vu69 + v71), sv_i vu63, sv_i Xg6_l3]) rfl ?_
                refine sv_cv C (index := 356) (k := 2) (rest := [sv_i (vu69 + v71), sv_i vu63, sv_i Xg6_l3]) (ci := 10) (r := (RX11, TX11, 47)) (by decide +kernel) (ct_X11_headAt l g A ty σ hok68 hTA hI a k_a (w) ⟨by omega, by omega⟩ (Xg6_l5) ⟨by omega, by omega⟩ s2 k_s2 s5 k_s5 es2 es5) ⟨co_X11_headAt, in_X11, ⟨by decide, by decide, by decide +kernel⟩, Nat.le_of_ble_eq_true rfl, Nat.le_of_ble_eq_true rfl⟩ ml_X11_356 im_X11_headAt se_X11_headAt (by rw [k_a]; rfl) rfl rfl rfl (Nat.le_of_ble_eq_true rfl) ⟨Nat.zero_le _, Nat.zero_le _⟩ (fun r73 σ74 hpo72 hok75 => ?_)
                obtain ⟨rfl, ⟨vu76, rfl, hvu76, ivu76_0⟩⟩ := hpo72
                have hp77 := ivu76_0 (by omega) (by omega)
                refine sv_same (st2 := [sv_i vu76, sv_i (vu69 + v71), sv_i vu63, sv_i Xg6_l3]) (lv2 := [(0, sv_r a), (1, sv_i v), (2, sv_i w), (3, sv_i Xg6_l3), (4, sv_i Xg1_l4), (5, sv_i Xg6_l5)]) rfl rfl ?_
                refine sv_go C.1 C.2.1 [(.aload_n 0, 1), (.iload_n 2, 1), (.iload 5, 2)] (pc' := 92) (by decide +kernel) rfl (lv' := [(0, sv_r a), (1, sv_i v), (2, sv_i w), (3, sv_i Xg6_l3), (4, sv_i Xg1_l4), (5, sv_i Xg6_l5)]) (st' := [sv_i Xg6_l5, sv_i w, sv_r a, sv_i vu76, sv_i (vu69 + v71), sv_i vu63, sv_i Xg6_l3]) rfl ?_
                refine sv_cv C (index := 356) (k := 2) (rest := [sv_i vu76, sv_i (vu69 + v71), sv_i vu63, sv_i Xg6_l3]) (ci := 10) (r := (RX11, TX11, 47)) (by decide +kernel) (ct_X11_headAt l g A ty σ hok75 hTA hI a k_a (w) ⟨by omega, by omega⟩ (Xg6_l5) ⟨by omega, by omega⟩ s2 k_s2 s5 k_s5 es2 es5) ⟨co_X11_headAt, in_X11, ⟨by decide, by decide, by decide +kernel⟩, Nat.le_of_ble_eq_true rfl, Nat.le_of_ble_eq_true rfl⟩ ml_X11_356 im_X11_headAt se_X11_headAt (by rw [k_a]; rfl) rfl rfl rfl (Nat.le_of_ble_eq_true rfl) ⟨Nat.zero_le _, Nat.zero_le _⟩ (fun r79 σ80 hpo78 hok81 => ?_)
                obtain ⟨rfl, ⟨vu82, rfl, hvu82, ivu82_0⟩⟩ := hpo78
                have hp83 := ivu82_0 (by omega) (by omega)
                refine sv_same (st2 := [sv_i vu82, sv_i vu76, sv_i (vu69 + v71), sv_i vu63, sv_i Xg6_l3]) (lv2 := [(0, sv_r a), (1, sv_i v), (2, sv_i w), (3, sv_i Xg6_l3), (4, sv_i Xg1_l4), (5, sv_i Xg6_l5)]) rfl rfl ?_
                refine sv_go C.1 C.2.1 [(.aload_n 0, 1)] (pc' := 96) (by decide +kernel) rfl (lv' := [(0, sv_r a), (1, sv_i v), (2, sv_i w), (3, sv_i Xg6_l3), (4, sv_i Xg1_l4), (5, sv_i Xg6_l5)]) (st' := [sv_r a, sv_i vu82, sv_i vu76, sv_i (vu69 + v71), sv_i vu63, sv_i Xg6_l3]) rfl ?_
                refine sv_gf C (index := 157) (ci := 10) (k := 44) (r := (RX11, TX11, 47)) (v := sv_r s3) (by decide +kernel) (by rw [k_a]; rfl) rfl (by decide) fl_X11_157 (congrArg sv_a es3) ?_
                refine sv_go C.1 C.2.1 [(.iload_n 2, 1)] (pc' := 100) (by decide +kernel) rfl (lv' := [(0, sv_r a), (1, sv_i v), (2, sv_i w), (3, sv_i Xg6_l3), (4, sv_i Xg1_l4), (5, sv_i Xg6_l5)]) (st' := [sv_i w, sv_r s3, sv_i vu82, sv_i vu76, sv_i (vu69 + v71), sv_i vu63, sv_i Xg6_l3]) rfl ?_
                refine sv_ia C (n := 12) (by decide +kernel) (by rw [k_s3]; rfl) (by decide) (by omega) (by omega) ?_
                obtain ⟨v84, ev84, hv84⟩ := sv_rdn hI (k := (w : Int).toNat) k_s3 rfl
                rw [ev84]
                refine sv_go C.1 C.2.1 [(.iadd, 1)] (pc' := 102) (by decide +kernel) rfl (lv' := [(0, sv_r a), (1, sv_i v), (2, sv_i w), (3, sv_i Xg6_l3), (4, sv_i Xg1_l4), (5, sv_i Xg6_l5)]) (st' := [sv_i (vu82 + v84), sv_i vu76, sv_i (vu69 + v71), sv_i vu63, sv_i Xg6_l3]) rfl ?_
                obtain ⟨w85, hw85, ew85⟩ := sv_wr (vu82 + v84)
                refine sv_sameD (st2 := [sv_i w85, sv_i vu76, sv_i (vu69 + v71), sv_i vu63, sv_i Xg6_l3]) (lv2 := [(0, sv_r a), (1, sv_i v), (2, sv_i w), (3, sv_i Xg6_l3), (4, sv_i Xg1_l4), (5, sv_i Xg6_l5)]) (by simp only [List.map_cons, List.map_nil, sv_den_i, ew85]) rfl ?_
                obtain ⟨w86, hw86, ew86⟩ := sv_wr (vu69 + v71)
                refine sv_sameD (st2 := [sv_i w85, sv_i vu76, sv_i w86, sv_i vu63, sv_i Xg6_l3]) (lv2 := [(0, sv_r a), (1, sv_i v), (2, sv_i w), (3, sv_i Xg6_l3), (4, sv_i Xg1_l4), (5, sv_i Xg6_l5)]) (by simp only [List.map_cons, List.map_nil, sv_den_i, ew86]) rfl ?_
                refine sv_cs C (index := 360) (k := 4) (rest := [sv_i Xg6_l3]) (by decide +kernel) (ct_X11_together l g A ty σ hok81 hTA hI (vu63) ⟨by omega, by omega⟩ (w86) ⟨by omega, by omega⟩ (vu76) ⟨by omega, by omega⟩ (w85) ⟨by omega, by omega⟩) ⟨co_X11_together, in_X11, ⟨by decide, by decide, by decide +kernel⟩, Nat.le_of_ble_eq_true rfl, Nat.le_of_ble_eq_true rfl⟩ ml_X11_360 st_X11_together rfl rfl (Nat.le_of_ble_eq_true rfl) ⟨Nat.zero_le _, Nat.zero_le _⟩ (fun r88 σ89 hpo87 hok90 => ?_)
                obtain ⟨rfl, ⟨vu91, rfl, hvu91, ivu91_0⟩⟩ := hpo87
                have hp92 := ivu91_0 (by omega) (by omega)
                refine sv_same (st2 := [sv_i vu91, sv_i Xg6_l3]) (lv2 := [(0, sv_r a), (1, sv_i v), (2, sv_i w), (3, sv_i Xg6_l3), (4, sv_i Xg1_l4), (5, sv_i Xg6_l5)]) rfl rfl ?_
                refine sv_min C (index := 331) (by decide +kernel) ml_X11_331 ⟨by omega, by omega⟩ ⟨by omega, by omega⟩ (Nat.le_of_ble_eq_true rfl) (Nat.le_of_ble_eq_true rfl) ⟨Nat.zero_le _, Nat.zero_le _⟩ ?_
                obtain ⟨mm93, hmm93⟩ : ∃ q : Int, q = (if (vu91 : Int) < Xg6_l3 then vu91 else Xg6_l3) := ⟨_, rfl⟩
                refine sv_same (st2 := [sv_i mm93]) (lv2 := [(0, sv_r a), (1, sv_i v), (2, sv_i w), (3, sv_i Xg6_l3), (4, sv_i Xg1_l4), (5, sv_i Xg6_l5)]) (by rw [hmm93]) rfl ?_
                refine sv_go C.1 C.2.1 [(.istore_n 3, 1)] (pc' := 109) (by decide +kernel) rfl (lv' := [(0, sv_r a), (1, sv_i v), (2, sv_i w), (3, sv_i mm93), (4, sv_i Xg1_l4), (5, sv_i Xg6_l5)]) (st' := []) rfl ?_
                exact J15 mm93 ⟨by omega, by omega⟩ (mJ_min zi (fun _ _ => Iff.rfl) (hp92.trans ((tog_cg (hp64.trans (hdr_at (by omega)).symm) ((zw_eq hw86 ew86).trans (by rw [ldr_at (by omega), ← hp70, ev71])) (hp77.trans (hdr_at (by omega)).symm) ((zw_eq hw85 ew85).trans (by rw [ldr_at (by omega), ← hp83, ev84]))).trans ((mu_c (by omega) (by omega) (by omega) (by omega)).1 (by omega)).symm)) hmm93)
        exact L7 (((12 - 0 : Int)).toNat + 1) Xg1_l3 0 ⟨by omega, by omega⟩ ⟨by omega, by omega⟩ zo (by omega)
  exact L2 (((12 - 0 : Int)).toNat + 1) 268435456 0 ⟨by omega, by omega⟩ ⟨by omega, by omega⟩ (rP_0 _) (by omega)

set_option maxHeartbeats 4000000 in
set_option maxRecDepth 100000 in
theorem ct_X11_meeting (l : Launch) (g : sv_G) (A : Nat → Prop) (ty : Nat → Nat) (σ : Nat → Nat → Int) (hok : sv_ok ty σ) (hTA : ∀ q, ty q ≠ 0 → A q) (hI : sv_inv sp_1 ty σ) (a : Nat) (k_a : ty a = 10) (ar1 : Int) (h_ar1 : (-2147483648) ≤ ar1 ∧ ar1 ≤ 2147483647) (ar2 : Int) (h_ar2 : (-2147483648) ≤ ar2 ∧ ar2 ≤ 2147483647) (s1 : Nat) (k_s1 : ty s1 = 102) (s2 : Nat) (k_s2 : ty s2 = 103) (s3 : Nat) (k_s3 : ty s3 = 104) (s4 : Nat) (k_s4 : ty s4 = 105) (s5 : Nat) (k_s5 : ty s5 = 106) (es1 : σ a 42 = (s1 : Int) + 1) (es2 : σ a 43 = (s2 : Int) + 1) (es3 : σ a 44 = (s3 : Int) + 1) (es4 : σ a 45 = (s4 : Int) + 1) (es5 : σ a 46 = (s5 : Int) + 1) : sv_M l yX11_meeting cX11_meeting 4 (some .int) { frames := 3, cells := 0, slots := 0, locals := 70 } g A ty σ [sv_r a, sv_i ar1, sv_i ar2] (fun r σ' => σ = σ' ∧ ∃ rv : Int, r = [sv_i rv] ∧ ((-2147483648) ≤ rv ∧ rv ≤ 268435455) ∧ ((-2147483648) ≤ rv → rv ≤ 2147483647 → zm_meet σ s1 s2 s3 s4 s5 ar1 ar2 rv)) := by
  refine sv_enter (by decide) (Nat.le_of_ble_eq_true rfl) ?_
  intro p e s m args below meth c C hr
  have C : sv_C g A RX11 cX11_meeting 4 p s m args meth c := C
  have hr : meth.sig.returnType = (some .int) := hr
  have hF : sv_ofx [] [] ty σ σ := sv_ofx.rf
  refine sv_same (st2 := []) (lv2 := [(0, sv_r a), (1, sv_i ar1), (2, sv_i ar2)]) rfl rfl ?_
  refine sv_go C.1 C.2.1 [(.aload_n 0, 1), (.iload_n 1, 1)] (pc' := 2) (by decide +kernel) rfl (lv' := [(0, sv_r a), (1, sv_i ar1), (2, sv_i ar2)]) (st' := [sv_i ar1, sv_r a]) rfl ?_
  refine sv_cv C (index := 367) (k := 1) (rest := []) (ci := 10) (r := (RX11, TX11, 47)) (by decide +kernel) (ct_X11_isGoing l g A ty σ hok hTA hI a k_a (ar1) ⟨by omega, by omega⟩ s1 k_s1 es1) ⟨co_X11_isGoing, in_X11, ⟨by decide, by decide, by decide +kernel⟩, Nat.le_of_ble_eq_true rfl, Nat.le_of_ble_eq_true rfl⟩ ml_X11_367 im_X11_isGoing se_X11_isGoing (by rw [k_a]; rfl) rfl rfl rfl (Nat.le_of_ble_eq_true rfl) ⟨Nat.zero_le _, Nat.zero_le _⟩ (fun r2 σ3 hpo1 hok4 => ?_)
  obtain ⟨rfl, ⟨vu5, rfl, hvu5, ivu5_0, ivu5_1⟩⟩ := hpo1
  refine sv_same (st2 := [sv_i vu5]) (lv2 := [(0, sv_r a), (1, sv_i ar1), (2, sv_i ar2)]) rfl rfl ?_
  refine sv_if C.1 C.2.1 (cnd := .eq) (off := 16) (tgt := 21) (by decide +kernel) (by decide) ⟨by omega, by omega⟩ (fun (h6 : vu5 = 0) => ?_) (fun (h6 : ¬ (vu5 = 0)) => ?_)
  · have hp7 := ivu5_1 (by omega) (by omega)
    refine sv_go C.1 C.2.1 [(.bipush (-2), 2)] (pc' := 23) (by decide +kernel) rfl (lv' := [(0, sv_r a), (1, sv_i ar1), (2, sv_i ar2)]) (st' := [sv_i ((-2))]) rfl ?_
    exact sv_iret C hr (by decide +kernel) hok4 (⟨rfl, ⟨_, rfl, ⟨by omega, by omega⟩, fun _ _ => ⟨fun _ => rfl, fun h1 h2 h3 => by exact absurd h1 hp7⟩⟩⟩)
  · have hp8 := ivu5_0 (by omega) (by omega)
    refine sv_go C.1 C.2.1 [(.aload_n 0, 1), (.iload_n 2, 1)] (pc' := 10) (by decide +kernel) rfl (lv' := [(0, sv_r a), (1, sv_i ar1), (2, sv_i ar2)]) (st' := [sv_i ar2, sv_r a]) rfl ?_
    refine sv_cv C (index := 367) (k := 1) (rest := []) (ci := 10) (r := (RX11, TX11, 47)) (by decide +kernel) (ct_X11_isGoing l g A ty σ hok4 hTA hI a k_a (ar2) ⟨by omega, by omega⟩ s1 k_s1 es1) ⟨co_X11_isGoing, in_X11, ⟨by decide, by decide, by decide +kernel⟩, Nat.le_of_ble_eq_true rfl, Nat.le_of_ble_eq_true rfl⟩ ml_X11_367 im_X11_isGoing se_X11_isGoing (by rw [k_a]; rfl) rfl rfl rfl (Nat.le_of_ble_eq_true rfl) ⟨Nat.zero_le _, Nat.zero_le _⟩ (fun r10 σ11 hpo9 hok12 => ?_)
    obtain ⟨rfl, ⟨vu13, rfl, hvu13, ivu13_0, ivu13_1⟩⟩ := hpo9
    refine sv_same (st2 := [sv_i vu13]) (lv2 := [(0, sv_r a), (1, sv_i ar1), (2, sv_i ar2)]) rfl rfl ?_
    refine sv_if C.1 C.2.1 (cnd := .eq) (off := 8) (tgt := 21) (by decide +kernel) (by decide) ⟨by omega, by omega⟩ (fun (h14 : vu13 = 0) => ?_) (fun (h14 : ¬ (vu13 = 0)) => ?_)
    · have hp15 := ivu13_1 (by omega) (by omega)
      refine sv_go C.1 C.2.1 [(.bipush (-2), 2)] (pc' := 23) (by decide +kernel) rfl (lv' := [(0, sv_r a), (1, sv_i ar1), (2, sv_i ar2)]) (st' := [sv_i ((-2))]) rfl ?_
      exact sv_iret C hr (by decide +kernel) hok12 (⟨rfl, ⟨_, rfl, ⟨by omega, by omega⟩, fun _ _ => ⟨fun _ => rfl, fun h1 h2 h3 => by exact absurd h2 hp15⟩⟩⟩)
    · have hp16 := ivu13_0 (by omega) (by omega)
      refine sv_go C.1 C.2.1 [(.iload_n 1, 1), (.iload_n 2, 1)] (pc' := 18) (by decide +kernel) rfl (lv' := [(0, sv_r a), (1, sv_i ar1), (2, sv_i ar2)]) (st' := [sv_i ar2, sv_i ar1]) rfl ?_
      refine sv_icmp C.1 C.2.1 (cnd := .ne) (off := 6) (tgt := 24) (by decide +kernel) (by decide) ⟨by omega, by omega⟩ ⟨by omega, by omega⟩ (fun (h17 : ar1 ≠ ar2) => ?_) (fun (h17 : ¬ (ar1 ≠ ar2)) => ?_)
      · refine sv_go C.1 C.2.1 [(.aload_n 0, 1), (.iload_n 1, 1), (.iload_n 2, 1)] (pc' := 27) (by decide +kernel) rfl (lv' := [(0, sv_r a), (1, sv_i ar1), (2, sv_i ar2)]) (st' := [sv_i ar2, sv_i ar1, sv_r a]) rfl ?_
        refine sv_cv C (index := 370) (k := 2) (rest := []) (ci := 10) (r := (RX11, TX11, 47)) (by decide +kernel) (ct_X11_meet l g A ty σ hok12 hTA hI a k_a (ar1) ⟨by omega, by omega⟩ (ar2) ⟨by omega, by omega⟩ s1 k_s1 s2 k_s2 s3 k_s3 s4 k_s4 s5 k_s5 es1 es2 es3 es4 es5) ⟨co_X11_meet, in_X11, ⟨by decide, by decide, by decide +kernel⟩, Nat.le_of_ble_eq_true rfl, Nat.le_of_ble_eq_true rfl⟩ ml_X11_370 im_X11_meet se_X11_meet (by rw [k_a]; rfl) rfl rfl rfl (Nat.le_of_ble_eq_true rfl) ⟨Nat.zero_le _, Nat.zero_le _⟩ (fun r19 σ20 hpo18 hok21 => ?_)
        obtain ⟨rfl, ⟨vu22, rfl, hvu22, ivu22_0⟩⟩ := hpo18
        have hp23 := ivu22_0 (by omega) (by omega)
        refine sv_same (st2 := [sv_i vu22]) (lv2 := [(0, sv_r a), (1, sv_i ar1), (2, sv_i ar2)]) rfl rfl ?_
        refine sv_go C.1 C.2.1 [(.istore_n 3, 1), (.iload_n 3, 1)] (pc' := 32) (by decide +kernel) rfl (lv' := [(0, sv_r a), (1, sv_i ar1), (2, sv_i ar2), (3, sv_i vu22)]) (st' := [sv_i vu22]) rfl ?_
        refine sv_ldc_w C (index := 359) (z := 268435456) (by decide +kernel) ci_X11_359 (by decide) ?_
        refine sv_icmp C.1 C.2.1 (cnd := .ne) (off := 7) (tgt := 42) (by decide +kernel) (by decide) ⟨by omega, by omega⟩ ⟨by omega, by omega⟩ (fun (h24 : vu22 ≠ 268435456) => ?_) (fun (h24 : ¬ (vu22 ≠ 268435456)) => ?_)
        · refine sv_go C.1 C.2.1 [(.iload_n 3, 1)] (pc' := 43) (by decide +kernel) rfl (lv' := [(0, sv_r a), (1, sv_i ar1), (2, sv_i ar2), (3, sv_i vu22)]) (st' := [sv_i vu22]) rfl ?_
          exact sv_iret C hr (by decide +kernel) hok21 (⟨rfl, ⟨_, rfl, ⟨by omega, by omega⟩, fun _ _ => ⟨fun h => absurd ⟨hp8, hp16, by omega⟩ h, fun _ _ _ => ⟨_, hp23, by first | rw [if_pos (by omega)] | rw [if_neg (by omega)]⟩⟩⟩⟩)
        · refine sv_go C.1 C.2.1 [(.iconst (-1), 1)] (pc' := 39) (by decide +kernel) rfl (lv' := [(0, sv_r a), (1, sv_i ar1), (2, sv_i ar2), (3, sv_i vu22)]) (st' := [sv_i ((-1))]) rfl ?_
          refine sv_goto C.1 C.2.1 (off := 4) (tgt := 43) (by decide +kernel) (by decide) ?_
          exact sv_iret C hr (by decide +kernel) hok21 (⟨rfl, ⟨_, rfl, ⟨by omega, by omega⟩, fun _ _ => ⟨fun h => absurd ⟨hp8, hp16, by omega⟩ h, fun _ _ _ => ⟨_, hp23, by first | rw [if_pos (by omega)] | rw [if_neg (by omega)]⟩⟩⟩⟩)
      · refine sv_go C.1 C.2.1 [(.bipush (-2), 2)] (pc' := 23) (by decide +kernel) rfl (lv' := [(0, sv_r a), (1, sv_i ar1), (2, sv_i ar2)]) (st' := [sv_i ((-2))]) rfl ?_
        exact sv_iret C hr (by decide +kernel) hok12 (⟨rfl, ⟨_, rfl, ⟨by omega, by omega⟩, fun _ _ => ⟨fun _ => rfl, fun h1 h2 h3 => by exfalso; omega⟩⟩⟩)

set_option maxHeartbeats 4000000 in
set_option maxRecDepth 100000 in
theorem ct_X11_meets (l : Launch) (g : sv_G) (A : Nat → Prop) (ty : Nat → Nat) (σ : Nat → Nat → Int) (hok : sv_ok ty σ) (hTA : ∀ q, ty q ≠ 0 → A q) (hI : sv_inv sp_1 ty σ) (a : Nat) (k_a : ty a = 10) (s1 : Nat) (k_s1 : ty s1 = 102) (s2 : Nat) (k_s2 : ty s2 = 103) (s3 : Nat) (k_s3 : ty s3 = 104) (s4 : Nat) (k_s4 : ty s4 = 105) (s5 : Nat) (k_s5 : ty s5 = 106) (es1 : σ a 42 = (s1 : Int) + 1) (es2 : σ a 43 = (s2 : Int) + 1) (es3 : σ a 44 = (s3 : Int) + 1) (es4 : σ a 45 = (s4 : Int) + 1) (es5 : σ a 46 = (s5 : Int) + 1) : sv_M l yX11_meets cX11_meets 3 (some .int) { frames := 3, cells := 0, slots := 0, locals := 70 } g A ty σ [sv_r a] (fun r σ' => σ = σ' ∧ ∃ rv : Int, r = [sv_i rv] ∧ ((-1) ≤ rv ∧ rv ≤ 1111) ∧ ((-2147483648) ≤ rv → rv ≤ 2147483647 → mS (zm_yes σ s1 s2 s3 s4 s5) (zm_no σ s1 s2 s3 s4 s5) rv)) := by
  refine sv_enter (by decide) (Nat.le_of_ble_eq_true rfl) ?_
  intro p e s m args below meth c C hr
  have C : sv_C g A RX11 cX11_meets 3 p s m args meth c := C
  have hr : meth.sig.returnType = (some .int) := hr
  have hF : sv_ofx [] [] ty σ σ := sv_ofx.rf
  refine sv_same (st2 := []) (lv2 := [(0, sv_r a)]) rfl rfl ?_
  refine sv_go C.1 C.2.1 [(.iconst 0, 1), (.istore_n 1, 1)] (pc' := 2) (by decide +kernel) rfl (lv' := [(0, sv_r a), (1, sv_i 0)]) (st' := []) rfl ?_
  have L2 : ∀ (n : Nat) (Xg1_l1 : Int), (0 ≤ Xg1_l1 ∧ Xg1_l1 ≤ 12) → (mB (zm_no σ s1 s2 s3 s4 s5) Xg1_l1 0) → (12 - Xg1_l1) < (n : Int) → sv_E p l e { frames := 3, cells := 0, slots := 0, locals := 70 } s m args below meth c 3 g A ty (fun r σ' => σ = σ' ∧ ∃ rv : Int, r = [sv_i rv] ∧ ((-1) ≤ rv ∧ rv ≤ 1111) ∧ ((-2147483648) ≤ rv → rv ≤ 2147483647 → mS (zm_yes σ s1 s2 s3 s4 s5) (zm_no σ s1 s2 s3 s4 s5) rv)) σ 2 [(0, sv_r a), (1, sv_i Xg1_l1)] [] := by
    intro n
    induction n with
    | zero => intro Xg1_l1 hXg1_l1 zo hmu; exact absurd hmu (by omega)
    | succ n ih3 =>
      intro Xg1_l1 hXg1_l1 zo hmu
      refine sv_go C.1 C.2.1 [(.iload_n 1, 1), (.bipush 12, 2)] (pc' := 5) (by decide +kernel) rfl (lv' := [(0, sv_r a), (1, sv_i Xg1_l1)]) (st' := [sv_i 12, sv_i Xg1_l1]) rfl ?_
      refine sv_icmp C.1 C.2.1 (cnd := .ge) (off := 60) (tgt := 65) (by decide +kernel) (by decide) ⟨by omega, by omega⟩ ⟨by omega, by omega⟩ (fun (h4 : 12 ≤ Xg1_l1) => ?_) (fun (h4 : ¬ (12 ≤ Xg1_l1)) => ?_)
      · refine sv_go C.1 C.2.1 [(.iconst (-1), 1)] (pc' := 66) (by decide +kernel) rfl (lv' := [(0, sv_r a), (1, sv_i Xg1_l1)]) (st' := [sv_i ((-1))]) rfl ?_
        exact sv_iret C hr (by decide +kernel) hok (⟨rfl, ⟨_, rfl, ⟨by omega, by omega⟩, fun _ _ => (Or.inl ⟨rfl, mB_end (by omega) zo⟩)⟩⟩)
      · refine sv_go C.1 C.2.1 [(.iload_n 1, 1), (.iconst 1, 1), (.iadd, 1), (.istore_n 2, 1)] (pc' := 12) (by decide +kernel) rfl (lv' := [(0, sv_r a), (1, sv_i Xg1_l1), (2, sv_i (Xg1_l1 + 1))]) (st' := []) rfl ?_
        have L6 : ∀ (n : Nat) (Xg5_l2 : Int), (1 ≤ Xg5_l2 ∧ Xg5_l2 ≤ 12) → (mB (zm_no σ s1 s2 s3 s4 s5) Xg1_l1 Xg5_l2) → (Xg1_l1 < Xg5_l2) → (12 - Xg5_l2) < (n : Int) → sv_E p l e { frames := 3, cells := 0, slots := 0, locals := 70 } s m args below meth c 3 g A ty (fun r σ' => σ = σ' ∧ ∃ rv : Int, r = [sv_i rv] ∧ ((-1) ≤ rv ∧ rv ≤ 1111) ∧ ((-2147483648) ≤ rv → rv ≤ 2147483647 → mS (zm_yes σ s1 s2 s3 s4 s5) (zm_no σ s1 s2 s3 s4 s5) rv)) σ 12 [(0, sv_r a), (1, sv_i Xg1_l1), (2, sv_i Xg5_l2)] [] := by
          intro n
          induction n with
          | zero => intro Xg5_l2 hXg5_l2 zi zl hmu; exact absurd hmu (by omega)
          | succ n ih7 =>
            intro Xg5_l2 hXg5_l2 zi zl hmu
            refine sv_go C.1 C.2.1 [(.iload_n 2, 1), (.bipush 12, 2)] (pc' := 15) (by decide +kernel) rfl (lv' := [(0, sv_r a), (1, sv_i Xg1_l1), (2, sv_i Xg5_l2)]) (st' := [sv_i 12, sv_i Xg5_l2]) rfl ?_
            refine sv_icmp C.1 C.2.1 (cnd := .ge) (off := 44) (tgt := 59) (by decide +kernel) (by decide) ⟨by omega, by omega⟩ ⟨by omega, by omega⟩ (fun (h8 : 12 ≤ Xg5_l2) => ?_) (fun (h8 : ¬ (12 ≤ Xg5_l2)) => ?_)
            · refine sv_go C.1 C.2.1 [(.iinc 1 1, 3)] (pc' := 62) (by decide +kernel) rfl (lv' := [(0, sv_r a), (1, sv_i (Xg1_l1 + 1)), (2, sv_i Xg5_l2)]) (st' := []) rfl ?_
              refine sv_goto C.1 C.2.1 (off := (-60)) (tgt := 2) (by decide +kernel) (by decide) ?_
              refine sv_pick [0, 1] (lv2 := [(0, sv_r a), (1, sv_i (Xg1_l1 + 1))]) rfl ?_
              exact ih3 (Xg1_l1 + 1) ⟨by omega, by omega⟩ (mB_out (by omega) zi) (by omega)
            · refine sv_go C.1 C.2.1 [(.aload_n 0, 1), (.iload_n 1, 1)] (pc' := 20) (by decide +kernel) rfl (lv' := [(0, sv_r a), (1, sv_i Xg1_l1), (2, sv_i Xg5_l2)]) (st' := [sv_i Xg1_l1, sv_r a]) rfl ?_
              refine sv_cv C (index := 367) (k := 1) (rest := []) (ci := 10) (r := (RX11, TX11, 47)) (by decide +kernel) (ct_X11_isGoing l g A ty σ hok hTA hI a k_a (Xg1_l1) ⟨by omega, by omega⟩ s1 k_s1 es1) ⟨co_X11_isGoing, in_X11, ⟨by decide, by decide, by decide +kernel⟩, Nat.le_of_ble_eq_true rfl, Nat.le_of_ble_eq_true rfl⟩ ml_X11_367 im_X11_isGoing se_X11_isGoing (by rw [k_a]; rfl) rfl rfl rfl (Nat.le_of_ble_eq_true rfl) ⟨Nat.zero_le _, Nat.zero_le _⟩ (fun r10 σ11 hpo9 hok12 => ?_)
              obtain ⟨rfl, ⟨vu13, rfl, hvu13, ivu13_0, ivu13_1⟩⟩ := hpo9
              refine sv_same (st2 := [sv_i vu13]) (lv2 := [(0, sv_r a), (1, sv_i Xg1_l1), (2, sv_i Xg5_l2)]) rfl rfl ?_
              refine sv_if C.1 C.2.1 (cnd := .eq) (off := 30) (tgt := 53) (by decide +kernel) (by decide) ⟨by omega, by omega⟩ (fun (h14 : vu13 = 0) => ?_) (fun (h14 : ¬ (vu13 = 0)) => ?_)
              · have hp15 := ivu13_1 (by omega) (by omega)
                refine sv_go C.1 C.2.1 [(.iinc 2 1, 3)] (pc' := 56) (by decide +kernel) rfl (lv' := [(0, sv_r a), (1, sv_i Xg1_l1), (2, sv_i (Xg5_l2 + 1))]) (st' := []) rfl ?_
                refine sv_goto C.1 C.2.1 (off := (-44)) (tgt := 12) (by decide +kernel) (by decide) ?_
                exact ih7 (Xg5_l2 + 1) ⟨by omega, by omega⟩ (mB_s zi (Or.inl hp15)) (by omega) (by omega)
              · have hp16 := ivu13_0 (by omega) (by omega)
                refine sv_go C.1 C.2.1 [(.aload_n 0, 1), (.iload_n 2, 1)] (pc' := 28) (by decide +kernel) rfl (lv' := [(0, sv_r a), (1, sv_i Xg1_l1), (2, sv_i Xg5_l2)]) (st' := [sv_i Xg5_l2, sv_r a]) rfl ?_
                refine sv_cv C (index := 367) (k := 1) (rest := []) (ci := 10) (r := (RX11, TX11, 47)) (by decide +kernel) (ct_X11_isGoing l g A ty σ hok12 hTA hI a k_a (Xg5_l2) ⟨by omega, by omega⟩ s1 k_s1 es1) ⟨co_X11_isGoing, in_X11, ⟨by decide, by decide, by decide +kernel⟩, Nat.le_of_ble_eq_true rfl, Nat.le_of_ble_eq_true rfl⟩ ml_X11_367 im_X11_isGoing se_X11_isGoing (by rw [k_a]; rfl) rfl rfl rfl (Nat.le_of_ble_eq_true rfl) ⟨Nat.zero_le _, Nat.zero_le _⟩ (fun r18 σ19 hpo17 hok20 => ?_)
                obtain ⟨rfl, ⟨vu21, rfl, hvu21, ivu21_0, ivu21_1⟩⟩ := hpo17
                refine sv_same (st2 := [sv_i vu21]) (lv2 := [(0, sv_r a), (1, sv_i Xg1_l1), (2, sv_i Xg5_l2)]) rfl rfl ?_
                refine sv_if C.1 C.2.1 (cnd := .eq) (off := 22) (tgt := 53) (by decide +kernel) (by decide) ⟨by omega, by omega⟩ (fun (h22 : vu21 = 0) => ?_) (fun (h22 : ¬ (vu21 = 0)) => ?_)
                · have hp23 := ivu21_1 (by omega) (by omega)
                  refine sv_go C.1 C.2.1 [(.iinc 2 1, 3)] (pc' := 56) (by decide +kernel) rfl (lv' := [(0, sv_r a), (1, sv_i Xg1_l1), (2, sv_i (Xg5_l2 + 1))]) (st' := []) rfl ?_
                  refine sv_goto C.1 C.2.1 (off := (-44)) (tgt := 12) (by decide +kernel) (by decide) ?_
                  exact ih7 (Xg5_l2 + 1) ⟨by omega, by omega⟩ (mB_s zi (Or.inr (Or.inl hp23))) (by omega) (by omega)
                · have hp24 := ivu21_0 (by omega) (by omega)
                  refine sv_go C.1 C.2.1 [(.aload_n 0, 1), (.iload_n 1, 1), (.iload_n 2, 1)] (pc' := 37) (by decide +kernel) rfl (lv' := [(0, sv_r a), (1, sv_i Xg1_l1), (2, sv_i Xg5_l2)]) (st' := [sv_i Xg5_l2, sv_i Xg1_l1, sv_r a]) rfl ?_
                  refine sv_cv C (index := 370) (k := 2) (rest := []) (ci := 10) (r := (RX11, TX11, 47)) (by decide +kernel) (ct_X11_meet l g A ty σ hok20 hTA hI a k_a (Xg1_l1) ⟨by omega, by omega⟩ (Xg5_l2) ⟨by omega, by omega⟩ s1 k_s1 s2 k_s2 s3 k_s3 s4 k_s4 s5 k_s5 es1 es2 es3 es4 es5) ⟨co_X11_meet, in_X11, ⟨by decide, by decide, by decide +kernel⟩, Nat.le_of_ble_eq_true rfl, Nat.le_of_ble_eq_true rfl⟩ ml_X11_370 im_X11_meet se_X11_meet (by rw [k_a]; rfl) rfl rfl rfl (Nat.le_of_ble_eq_true rfl) ⟨Nat.zero_le _, Nat.zero_le _⟩ (fun r26 σ27 hpo25 hok28 => ?_)
                  obtain ⟨rfl, ⟨vu29, rfl, hvu29, ivu29_0⟩⟩ := hpo25
                  have hp30 := ivu29_0 (by omega) (by omega)
                  refine sv_same (st2 := [sv_i vu29]) (lv2 := [(0, sv_r a), (1, sv_i Xg1_l1), (2, sv_i Xg5_l2)]) rfl rfl ?_
                  refine sv_ldc_w C (index := 359) (z := 268435456) (by decide +kernel) ci_X11_359 (by decide) ?_
                  refine sv_icmp C.1 C.2.1 (cnd := .ge) (off := 10) (tgt := 53) (by decide +kernel) (by decide) ⟨by omega, by omega⟩ ⟨by omega, by omega⟩ (fun (h31 : 268435456 ≤ vu29) => ?_) (fun (h31 : ¬ (268435456 ≤ vu29)) => ?_)
                  · refine sv_go C.1 C.2.1 [(.iinc 2 1, 3)] (pc' := 56) (by decide +kernel) rfl (lv' := [(0, sv_r a), (1, sv_i Xg1_l1), (2, sv_i (Xg5_l2 + 1))]) (st' := []) rfl ?_
                    refine sv_goto C.1 C.2.1 (off := (-44)) (tgt := 12) (by decide +kernel) (by decide) ?_
                    exact ih7 (Xg5_l2 + 1) ⟨by omega, by omega⟩ (mB_s zi (Or.inr (Or.inr ⟨_, by omega, hp30⟩))) (by omega) (by omega)
                  · refine sv_go C.1 C.2.1 [(.bipush 100, 2), (.iload_n 1, 1), (.imul, 1), (.iload_n 2, 1), (.iadd, 1)] (pc' := 52) (by decide +kernel) rfl (lv' := [(0, sv_r a), (1, sv_i Xg1_l1), (2, sv_i Xg5_l2)]) (st' := [sv_i ((100 * Xg1_l1) + Xg5_l2)]) rfl ?_
                    exact sv_iret C hr (by decide +kernel) hok28 (⟨rfl, ⟨_, rfl, ⟨by omega, by omega⟩, fun _ _ => (Or.inr ⟨_, _, by omega, by omega, by omega, ⟨hp16, hp24, _, by omega, hp30⟩, rfl, zi⟩)⟩⟩)
        exact L6 (((12 - (Xg1_l1 + 1) : Int)).toNat + 1) (Xg1_l1 + 1) ⟨by omega, by omega⟩ (mB_in zo) (by omega) (by omega)
  exact L2 (((12 - 0 : Int)).toNat + 1) 0 ⟨by omega, by omega⟩ (mB_0 _) (by omega)
