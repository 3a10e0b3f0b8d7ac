/-! processions, exactly -/
/-- a number as an int holds it -/
def zw (x : Int) : Int := (Int32.ofInt x).toInt
theorem zw_eq {x w : Int} (h : -2147483648 ≤ w ∧ w ≤ 2147483647) (e : Int32.ofInt x = Int32.ofInt w) : w = zw x := by
  unfold zw
  rw [e]
  exact (sv_oi ⟨h.1, by omega⟩).symm
theorem zw_id {x : Int} (h : -2147483648 ≤ x ∧ x ≤ 2147483647) : zw x = x := sv_oi ⟨h.1, by omega⟩
def zb_ok (k v m t : Int) : Prop := (0 ≤ k ∧ k ≤ 11) ∧ (0 ≤ v ∧ v ≤ 19) ∧ (0 ≤ m ∧ m ≤ 1440) ∧ 0 ≤ t ∧ t ≤ 30
def zc_begin (σ σ' : Nat → Nat → Int) (bq : Nat) (k v m t rv : Int) : Prop := (¬ zb_ok k v m t → rv = -2 ∧ σ' = σ) ∧ (zb_ok k v m t → rv = 1 ∧ ∀ P c r : Nat, σ bq k.toNat = (P : Int) + 1 → σ P 2 = (c : Int) + 1 → σ P 3 = (r : Int) + 1 → σ' = sv_up (sv_up (sv_up (sv_up (sv_up σ P 0 1) c 0 v) r 0 0) P 1 m) P 4 t)
def zm_begin (σ σ' : Nat → Nat → Int) (s1 s2 s3 s4 s5 : Nat) (k v m t rv : Int) : Prop := (¬ zb_ok k v m t → rv = -2 ∧ σ' = σ) ∧ (zb_ok k v m t → rv = 1 ∧ σ' = sv_up (sv_up (sv_up (sv_up (sv_up σ s1 k.toNat 1) s2 k.toNat m) s3 k.toNat t) s4 (12 * k).toNat v) s5 (12 * k).toNat 0)
/-- one corner more: z corners are there, the street has m minutes -/
def zf_go (σ σ' σ1 : Nat → Nat → Int) (z m v rv : Int) : Prop := (z < 1 ∨ ¬ (0 ≤ v ∧ v ≤ 19) → rv = -2 ∧ σ' = σ) ∧ (1 ≤ z → (0 ≤ v ∧ v ≤ 19) → m = 0 → rv = -1 ∧ σ' = σ) ∧ (12 ≤ z → (0 ≤ v ∧ v ≤ 19) → m ≠ 0 → rv = -3 ∧ σ' = σ) ∧ (1 ≤ z → z < 12 → (0 ≤ v ∧ v ≤ 19) → m ≠ 0 → rv = z + 1 ∧ σ' = σ1)
def zc_goes (σ σ' : Nat → Nat → Int) (bq mq : Nat) (k v rv : Int) : Prop := (¬ (0 ≤ k ∧ k ≤ 11) → rv = -2 ∧ σ' = σ) ∧ ∀ (P c r : Nat) (z m : Int), (0 ≤ k ∧ k ≤ 11) → σ bq k.toNat = (P : Int) + 1 → σ P 2 = (c : Int) + 1 → σ P 3 = (r : Int) + 1 → σ P 0 = z → σ mq (20 * σ c (z - 1).toNat + v).toNat = m → zf_go σ σ' (sv_up (sv_up (sv_up σ c z.toNat v) r z.toNat (zw (σ r (z - 1).toNat + m))) P 0 (z + 1)) z m v rv
def zm_goes (σ σ' : Nat → Nat → Int) (sq s1 s4 s5 : Nat) (k v rv : Int) : Prop := (¬ (0 ≤ k ∧ k ≤ 11) → rv = -2 ∧ σ' = σ) ∧ ∀ (z m : Int), (0 ≤ k ∧ k ≤ 11) → σ s1 k.toNat = z → σ sq (20 * σ s4 (12 * k + z - 1).toNat + v).toNat = m → zf_go σ σ' (sv_up (sv_up (sv_up σ s4 (12 * k + z).toNat v) s5 (12 * k + z).toNat (zw (σ s5 (12 * k + z - 1).toNat + m))) s1 k.toNat (z + 1)) z m v rv
def zf_late (σ σ' σ1 : Nat → Nat → Int) (z B w rv : Int) : Prop := (z < 1 ∨ ¬ (1 ≤ w ∧ w ≤ 300) ∨ 1440 < B + w → rv = -2 ∧ σ' = σ) ∧ (1 ≤ z → (1 ≤ w ∧ w ≤ 300) → B + w ≤ 1440 → rv = B + w ∧ σ' = σ1)
def zc_late (σ σ' : Nat → Nat → Int) (bq : Nat) (k w rv : Int) : Prop := (¬ (0 ≤ k ∧ k ≤ 11) → rv = -2 ∧ σ' = σ) ∧ ∀ (P : Nat) (z B : Int), (0 ≤ k ∧ k ≤ 11) → σ bq k.toNat = (P : Int) + 1 → σ P 0 = z → σ P 1 = B → zf_late σ σ' (sv_up σ P 1 (B + w)) z B w rv
def zm_late (σ σ' : Nat → Nat → Int) (s1 s2 : Nat) (k w rv : Int) : Prop := (¬ (0 ≤ k ∧ k ≤ 11) → rv = -2 ∧ σ' = σ) ∧ ∀ (z B : Int), (0 ≤ k ∧ k ≤ 11) → σ s1 k.toNat = z → σ s2 k.toNat = B → zf_late σ σ' (sv_up σ s2 k.toNat (B + w)) z B w rv
/-- what procession() tells: z corners, the beginning B, the end E, corners cf, minutes hf -/
def zt2 (z : Int) (cf hf : Nat → Int) (q : Int) : Int := if 10 ≤ q ∧ q - 10 < z then cf (q - 10).toNat else if 30 ≤ q ∧ q - 30 < z then hf (q - 30).toNat else -1
def zt (z B E : Int) (cf hf : Nat → Int) (q : Int) : Int := if q = 0 then z else if q = 1 then B else if q = 2 then E else zt2 z cf hf q
def zc_tell (σ : Nat → Nat → Int) (bq : Nat) (k q rv : Int) : Prop := (¬ (0 ≤ k ∧ k ≤ 11) → rv = -1) ∧ ∀ (P c r : Nat) (z B T : Int), (0 ≤ k ∧ k ≤ 11) → σ bq k.toNat = (P : Int) + 1 → σ P 2 = (c : Int) + 1 → σ P 3 = (r : Int) + 1 → σ P 0 = z → σ P 1 = B → σ P 4 = T → (z < 1 → rv = -1) ∧ (1 ≤ z → rv = zt z B (zw (B + σ r (z - 1).toNat + T)) (fun i => σ c i) (fun i => zw (B + σ r i)) q)
def zm_tell (σ : Nat → Nat → Int) (s1 s2 s3 s4 s5 : Nat) (k q rv : Int) : Prop := (¬ (0 ≤ k ∧ k ≤ 11) → rv = -1) ∧ ∀ (z B T : Int), (0 ≤ k ∧ k ≤ 11) → σ s1 k.toNat = z → σ s2 k.toNat = B → σ s3 k.toNat = T → (z < 1 → rv = -1) ∧ (1 ≤ z → rv = zt z B (zw (zw (B + σ s5 (12 * k + (z - 1)).toNat) + T)) (fun i => σ s4 (12 * k + (i : Int)).toNat) (fun i => zw (B + σ s5 (12 * k + (i : Int)).toNat)) q)

/-! streets, exactly -/
def fs_ok (a b m : Int) : Prop := (0 ≤ a ∧ a ≤ 19) ∧ (0 ≤ b ∧ b ≤ 19) ∧ a ≠ b ∧ 0 ≤ m ∧ m ≤ 60
/-- what street() does to a table q of minutes, and answers -/
def fs_street (σ σ' : Nat → Nat → Int) (q : Nat) (a b m rv : Int) : Prop := (fs_ok a b m → rv = σ q (20 * a + b).toNat ∧ ∀ j : Nat, σ' q j = if j = (20 * a + b).toNat ∨ j = (20 * b + a).toNat then m else σ q j) ∧ (¬ fs_ok a b m → rv = -2 ∧ ∀ j : Nat, σ' q j = σ q j)
theorem zs_two (σ : Nat → Nat → Int) (q i1 i2 : Nat) (x : Int) (j : Nat) : sv_up (sv_up σ q i1 x) q i2 x q j = if j = i1 ∨ j = i2 then x else σ q j := by
  by_cases h2 : j = i2
  · subst h2; rw [sv_up_s, if_pos (Or.inr rfl)]
  · rw [sv_up_k h2]
    by_cases h1 : j = i1
    · subst h1; rw [sv_up_s, if_pos (Or.inl rfl)]
    · rw [sv_up_k h1, if_neg (fun h => h.elim h1 h2)]

set_option maxHeartbeats 4000000 in
set_option maxRecDepth 100000 in
theorem sf2_X9_isCorner (l : Launch) (g : sv_G) (A : Nat → Prop) (ty : Nat → Nat) (σ : Nat → Nat → Int) (hok : sv_ok ty σ) (hTA : ∀ q, ty q ≠ 0 → A q) (hI : sv_inv sp_1 ty σ) (v : Int) (h_v : (-2147483648) ≤ v ∧ v ≤ 2147483647) : sv_M l yX9_isCorner cX9_isCorner 1 (some .boolean) { frames := 0, cells := 0, slots := 0, locals := 0 } g A ty σ [sv_i v] (fun r σ' => σ = σ' ∧ ∃ rv : Int, r = [sv_i rv] ∧ (0 ≤ rv ∧ rv ≤ 1) ∧ (1 ≤ rv → rv ≤ 1 → 0 ≤ v ∧ v ≤ 19) ∧ (0 ≤ rv → rv ≤ 0 → ¬ (0 ≤ v ∧ v ≤ 19))) := by
  refine sv_enter (by decide) (Nat.le_of_ble_eq_true rfl) ?_
  intro p e s m args below meth c C hr
  have C : sv_C g A RX9 cX9_isCorner 1 p s m args meth c := C
  have hr : meth.sig.returnType = (some .boolean) := hr
  have hF : sv_ofx [] [] ty σ σ := sv_ofx.rf
  refine sv_same (st2 := []) (lv2 := [(0, sv_i v)]) rfl rfl ?_
  refine sv_go C.1 C.2.1 [(.iload_n 0, 1)] (pc' := 1) (by decide +kernel) rfl (lv' := [(0, sv_i v)]) (st' := [sv_i v]) rfl ?_
  refine sv_if C.1 C.2.1 (cnd := .lt) (off := 13) (tgt := 14) (by decide +kernel) (by decide) ⟨by omega, by omega⟩ (fun (h1 : v < 0) => ?_) (fun (h1 : ¬ (v < 0)) => ?_)
  · refine sv_go C.1 C.2.1 [(.iconst 0, 1)] (pc' := 15) (by decide +kernel) rfl (lv' := [(0, sv_i v)]) (st' := [sv_i 0]) rfl ?_
    exact sv_zret C hr (by omega) (by decide +kernel) hok (⟨rfl, ⟨_, rfl, ⟨by omega, by omega⟩, fun _ _ => (by omega), fun _ _ => (by omega)⟩⟩)
  · refine sv_go C.1 C.2.1 [(.iload_n 0, 1), (.bipush 20, 2)] (pc' := 7) (by decide +kernel) rfl (lv' := [(0, sv_i v)]) (st' := [sv_i 20, sv_i v]) rfl ?_
    refine sv_icmp C.1 C.2.1 (cnd := .ge) (off := 7) (tgt := 14) (by decide +kernel) (by decide) ⟨by omega, by omega⟩ ⟨by omega, by omega⟩ (fun (h2 : 20 ≤ v) => ?_) (fun (h2 : ¬ (20 ≤ v)) => ?_)
    · refine sv_go C.1 C.2.1 [(.iconst 0, 1)] (pc' := 15) (by decide +kernel) rfl (lv' := [(0, sv_i v)]) (st' := [sv_i 0]) rfl ?_
      exact sv_zret C hr (by omega) (by decide +kernel) hok (⟨rfl, ⟨_, rfl, ⟨by omega, by omega⟩, fun _ _ => (by omega), fun _ _ => (by omega)⟩⟩)
    · refine sv_go C.1 C.2.1 [(.iconst 1, 1)] (pc' := 11) (by decide +kernel) rfl (lv' := [(0, sv_i v)]) (st' := [sv_i 1]) rfl ?_
      refine sv_goto C.1 C.2.1 (off := 4) (tgt := 15) (by decide +kernel) (by decide) ?_
      exact sv_zret C hr (by omega) (by decide +kernel) hok (⟨rfl, ⟨_, rfl, ⟨by omega, by omega⟩, fun _ _ => (by omega), fun _ _ => (by omega)⟩⟩)

set_option maxHeartbeats 4000000 in
set_option maxRecDepth 100000 in
theorem sf2_X9_isProcession (l : Launch) (g : sv_G) (A : Nat → Prop) (ty : Nat → Nat) (σ : Nat → Nat → Int) (hok : sv_ok ty σ) (hTA : ∀ q, ty q ≠ 0 → A q) (hI : sv_inv sp_1 ty σ) (v : Int) (h_v : (-2147483648) ≤ v ∧ v ≤ 2147483647) : sv_M l yX9_isProcession cX9_isProcession 1 (some .boolean) { frames := 0, cells := 0, slots := 0, locals := 0 } g A ty σ [sv_i v] (fun r σ' => σ = σ' ∧ ∃ rv : Int, r = [sv_i rv] ∧ (0 ≤ rv ∧ rv ≤ 1) ∧ (1 ≤ rv → rv ≤ 1 → 0 ≤ v ∧ v ≤ 11) ∧ (0 ≤ rv → rv ≤ 0 → ¬ (0 ≤ v ∧ v ≤ 11))) := by
  refine sv_enter (by decide) (Nat.le_of_ble_eq_true rfl) ?_
  intro p e s m args below meth c C hr
  have C : sv_C g A RX9 cX9_isProcession 1 p s m args meth c := C
  have hr : meth.sig.returnType = (some .boolean) := hr
  have hF : sv_ofx [] [] ty σ σ := sv_ofx.rf
  refine sv_same (st2 := []) (lv2 := [(0, sv_i v)]) rfl rfl ?_
  refine sv_go C.1 C.2.1 [(.iload_n 0, 1)] (pc' := 1) (by decide +kernel) rfl (lv' := [(0, sv_i v)]) (st' := [sv_i v]) rfl ?_
  refine sv_if C.1 C.2.1 (cnd := .lt) (off := 13) (tgt := 14) (by decide +kernel) (by decide) ⟨by omega, by omega⟩ (fun (h1 : v < 0) => ?_) (fun (h1 : ¬ (v < 0)) => ?_)
  · refine sv_go C.1 C.2.1 [(.iconst 0, 1)] (pc' := 15) (by decide +kernel) rfl (lv' := [(0, sv_i v)]) (st' := [sv_i 0]) rfl ?_
    exact sv_zret C hr (by omega) (by decide +kernel) hok (⟨rfl, ⟨_, rfl, ⟨by omega, by omega⟩, fun _ _ => (by omega), fun _ _ => (by omega)⟩⟩)
  · refine sv_go C.1 C.2.1 [(.iload_n 0, 1), (.bipush 12, 2)] (pc' := 7) (by decide +kernel) rfl (lv' := [(0, sv_i v)]) (st' := [sv_i 12, sv_i v]) rfl ?_
    refine sv_icmp C.1 C.2.1 (cnd := .ge) (off := 7) (tgt := 14) (by decide +kernel) (by decide) ⟨by omega, by omega⟩ ⟨by omega, by omega⟩ (fun (h2 : 12 ≤ v) => ?_) (fun (h2 : ¬ (12 ≤ v)) => ?_)
    · refine sv_go C.1 C.2.1 [(.iconst 0, 1)] (pc' := 15) (by decide +kernel) rfl (lv' := [(0, sv_i v)]) (st' := [sv_i 0]) rfl ?_
      exact sv_zret C hr (by omega) (by decide +kernel) hok (⟨rfl, ⟨_, rfl, ⟨by omega, by omega⟩, fun _ _ => (by omega), fun _ _ => (by omega)⟩⟩)
    · refine sv_go C.1 C.2.1 [(.iconst 1, 1)] (pc' := 11) (by decide +kernel) rfl (lv' := [(0, sv_i v)]) (st' := [sv_i 1]) rfl ?_
      refine sv_goto C.1 C.2.1 (off := 4) (tgt := 15) (by decide +kernel) (by decide) ?_
      exact sv_zret C hr (by omega) (by decide +kernel) hok (⟨rfl, ⟨_, rfl, ⟨by omega, by omega⟩, fun _ _ => (by omega), fun _ _ => (by omega)⟩⟩)

set_option maxHeartbeats 4000000 in
set_option maxRecDepth 100000 in
theorem sf2_X9_isBeginning (l : Launch) (g : sv_G) (A : Nat → Prop) (ty : Nat → Nat) (σ : Nat → Nat → Int) (hok : sv_ok ty σ) (hTA : ∀ q, ty q ≠ 0 → A q) (hI : sv_inv sp_1 ty σ) (v : Int) (h_v : (-2147483648) ≤ v ∧ v ≤ 2147483647) : sv_M l yX9_isBeginning cX9_isBeginning 1 (some .boolean) { frames := 0, cells := 0, slots := 0, locals := 0 } g A ty σ [sv_i v] (fun r σ' => σ = σ' ∧ ∃ rv : Int, r = [sv_i rv] ∧ (0 ≤ rv ∧ rv ≤ 1) ∧ (1 ≤ rv → rv ≤ 1 → 0 ≤ v ∧ v ≤ 1440) ∧ (0 ≤ rv → rv ≤ 0 → ¬ (0 ≤ v ∧ v ≤ 1440))) := by
  refine sv_enter (by decide) (Nat.le_of_ble_eq_true rfl) ?_
  intro p e s m args below meth c C hr
  have C : sv_C g A RX9 cX9_isBeginning 1 p s m args meth c := C
  have hr : meth.sig.returnType = (some .boolean) := hr
  have hF : sv_ofx [] [] ty σ σ := sv_ofx.rf
  refine sv_same (st2 := []) (lv2 := [(0, sv_i v)]) rfl rfl ?_
  refine sv_go C.1 C.2.1 [(.iload_n 0, 1)] (pc' := 1) (by decide +kernel) rfl (lv' := [(0, sv_i v)]) (st' := [sv_i v]) rfl ?_
  refine sv_if C.1 C.2.1 (cnd := .lt) (off := 14) (tgt := 15) (by decide +kernel) (by decide) ⟨by omega, by omega⟩ (fun (h1 : v < 0) => ?_) (fun (h1 : ¬ (v < 0)) => ?_)
  · refine sv_go C.1 C.2.1 [(.iconst 0, 1)] (pc' := 16) (by decide +kernel) rfl (lv' := [(0, sv_i v)]) (st' := [sv_i 0]) rfl ?_
    exact sv_zret C hr (by omega) (by decide +kernel) hok (⟨rfl, ⟨_, rfl, ⟨by omega, by omega⟩, fun _ _ => (by omega), fun _ _ => (by omega)⟩⟩)
  · refine sv_go C.1 C.2.1 [(.iload_n 0, 1), (.sipush 1440, 3)] (pc' := 8) (by decide +kernel) rfl (lv' := [(0, sv_i v)]) (st' := [sv_i 1440, sv_i v]) rfl ?_
    refine sv_icmp C.1 C.2.1 (cnd := .gt) (off := 7) (tgt := 15) (by decide +kernel) (by decide) ⟨by omega, by omega⟩ ⟨by omega, by omega⟩ (fun (h2 : 1440 < v) => ?_) (fun (h2 : ¬ (1440 < v)) => ?_)
    · refine sv_go C.1 C.2.1 [(.iconst 0, 1)] (pc' := 16) (by decide +kernel) rfl (lv' := [(0, sv_i v)]) (st' := [sv_i 0]) rfl ?_
      exact sv_zret C hr (by omega) (by decide +kernel) hok (⟨rfl, ⟨_, rfl, ⟨by omega, by omega⟩, fun _ _ => (by omega), fun _ _ => (by omega)⟩⟩)
    · refine sv_go C.1 C.2.1 [(.iconst 1, 1)] (pc' := 12) (by decide +kernel) rfl (lv' := [(0, sv_i v)]) (st' := [sv_i 1]) rfl ?_
      refine sv_goto C.1 C.2.1 (off := 4) (tgt := 16) (by decide +kernel) (by decide) ?_
      exact sv_zret C hr (by omega) (by decide +kernel) hok (⟨rfl, ⟨_, rfl, ⟨by omega, by omega⟩, fun _ _ => (by omega), fun _ _ => (by omega)⟩⟩)

set_option maxHeartbeats 4000000 in
set_option maxRecDepth 100000 in
theorem sf2_X11_isCorner (l : Launch) (g : sv_G) (A : Nat → Prop) (ty : Nat → Nat) (σ : Nat → Nat → Int) (hok : sv_ok ty σ) (hTA : ∀ q, ty q ≠ 0 → A q) (hI : sv_inv sp_1 ty σ) (v : Int) (h_v : (-2147483648) ≤ v ∧ v ≤ 2147483647) : sv_M l yX11_isCorner cX11_isCorner 1 (some .boolean) { frames := 1, cells := 0, slots := 0, locals := 25 } g A ty σ [sv_i v] (fun r σ' => σ = σ' ∧ ∃ rv : Int, r = [sv_i rv] ∧ (0 ≤ rv ∧ rv ≤ 1) ∧ (1 ≤ rv → rv ≤ 1 → 0 ≤ v ∧ v ≤ 19) ∧ (0 ≤ rv → rv ≤ 0 → ¬ (0 ≤ v ∧ v ≤ 19))) := by
  refine sv_enter (by decide) (Nat.le_of_ble_eq_true rfl) ?_
  intro p e s m args below meth c C hr
  have C : sv_C g A RX11 cX11_isCorner 1 p s m args meth c := C
  have hr : meth.sig.returnType = (some .boolean) := hr
  have hF : sv_ofx [] [] ty σ σ := sv_ofx.rf
  refine sv_same (st2 := []) (lv2 := [(0, sv_i v)]) rfl rfl ?_
  refine sv_go C.1 C.2.1 [(.iload_n 0, 1)] (pc' := 1) (by decide +kernel) rfl (lv' := [(0, sv_i v)]) (st' := [sv_i v]) rfl ?_
  refine sv_i2l C.1 C.2.1 (by decide +kernel) ⟨by omega, by omega⟩ ?_
  refine sv_go C.1 C.2.1 [(.lconst 0, 1)] (pc' := 3) (by decide +kernel) rfl (lv' := [(0, sv_i v)]) (st' := [sv_l 0, sv_l v]) rfl ?_
  refine sv_ldc2 C (index := 336) (z := 19) (by decide +kernel) cl_X11_336 (by decide) ?_
  refine sv_cs C (index := 9) (k := 3) (rest := []) (by decide +kernel) (ct_X11_in l g A ty σ hok (v) ⟨by omega, by omega⟩ (0) ⟨by omega, by omega⟩ (19) ⟨by omega, by omega⟩) ⟨co_X11_in, in_X11, ⟨by decide, by decide, by decide +kernel⟩, Nat.le_of_ble_eq_true rfl, Nat.le_of_ble_eq_true rfl⟩ ml_X11_9 st_X11_in rfl rfl (Nat.le_of_ble_eq_true rfl) ⟨Nat.zero_le _, Nat.zero_le _⟩ (fun r2 σ3 hpo1 hok4 => ?_)
  obtain ⟨rfl, ⟨h5, rfl⟩ | ⟨h5, rfl⟩⟩ := hpo1
  · refine sv_same (st2 := [sv_i 1]) (lv2 := [(0, sv_i v)]) rfl rfl ?_
    exact sv_zret C hr (by omega) (by decide +kernel) hok4 (⟨rfl, ⟨_, rfl, ⟨by omega, by omega⟩, fun _ _ => (by omega), fun _ _ => (by omega)⟩⟩)
  · refine sv_same (st2 := [sv_i 0]) (lv2 := [(0, sv_i v)]) rfl rfl ?_
    exact sv_zret C hr (by omega) (by decide +kernel) hok4 (⟨rfl, ⟨_, rfl, ⟨by omega, by omega⟩, fun _ _ => (by omega), fun _ _ => (by omega)⟩⟩)

set_option maxHeartbeats 4000000 in
set_option maxRecDepth 100000 in
theorem sf2_X11_isWalk (l : Launch) (g : sv_G) (A : Nat → Prop) (ty : Nat → Nat) (σ : Nat → Nat → Int) (hok : sv_ok ty σ) (hTA : ∀ q, ty q ≠ 0 → A q) (hI : sv_inv sp_1 ty σ) (v : Int) (h_v : (-2147483648) ≤ v ∧ v ≤ 2147483647) : sv_M l yX11_isWalk cX11_isWalk 1 (some .boolean) { frames := 1, cells := 0, slots := 0, locals := 25 } g A ty σ [sv_i v] (fun r σ' => σ = σ' ∧ ∃ rv : Int, r = [sv_i rv] ∧ (0 ≤ rv ∧ rv ≤ 1) ∧ (1 ≤ rv → rv ≤ 1 → 0 ≤ v ∧ v ≤ 11) ∧ (0 ≤ rv → rv ≤ 0 → ¬ (0 ≤ v ∧ v ≤ 11))) := by
  refine sv_enter (by decide) (Nat.le_of_ble_eq_true rfl) ?_
  intro p e s m args below meth c C hr
  have C : sv_C g A RX11 cX11_isWalk 1 p s m args meth c := C
  have hr : meth.sig.returnType = (some .boolean) := hr
  have hF : sv_ofx [] [] ty σ σ := sv_ofx.rf
  refine sv_same (st2 := []) (lv2 := [(0, sv_i v)]) rfl rfl ?_
  refine sv_go C.1 C.2.1 [(.iload_n 0, 1)] (pc' := 1) (by decide +kernel) rfl (lv' := [(0, sv_i v)]) (st' := [sv_i v]) rfl ?_
  refine sv_i2l C.1 C.2.1 (by decide +kernel) ⟨by omega, by omega⟩ ?_
  refine sv_go C.1 C.2.1 [(.lconst 0, 1)] (pc' := 3) (by decide +kernel) rfl (lv' := [(0, sv_i v)]) (st' := [sv_l 0, sv_l v]) rfl ?_
  refine sv_ldc2 C (index := 343) (z := 11) (by decide +kernel) cl_X11_343 (by decide) ?_
  refine sv_cs C (index := 9) (k := 3) (rest := []) (by decide +kernel) (ct_X11_in l g A ty σ hok (v) ⟨by omega, by omega⟩ (0) ⟨by omega, by omega⟩ (11) ⟨by omega, by omega⟩) ⟨co_X11_in, in_X11, ⟨by decide, by decide, by decide +kernel⟩, Nat.le_of_ble_eq_true rfl, Nat.le_of_ble_eq_true rfl⟩ ml_X11_9 st_X11_in rfl rfl (Nat.le_of_ble_eq_true rfl) ⟨Nat.zero_le _, Nat.zero_le _⟩ (fun r2 σ3 hpo1 hok4 => ?_)
  obtain ⟨rfl, ⟨h5, rfl⟩ | ⟨h5, rfl⟩⟩ := hpo1
  · refine sv_same (st2 := [sv_i 1]) (lv2 := [(0, sv_i v)]) rfl rfl ?_
    exact sv_zret C hr (by omega) (by decide +kernel) hok4 (⟨rfl, ⟨_, rfl, ⟨by omega, by omega⟩, fun _ _ => (by omega), fun _ _ => (by omega)⟩⟩)
  · refine sv_same (st2 := [sv_i 0]) (lv2 := [(0, sv_i v)]) rfl rfl ?_
    exact sv_zret C hr (by omega) (by decide +kernel) hok4 (⟨rfl, ⟨_, rfl, ⟨by omega, by omega⟩, fun _ _ => (by omega), fun _ _ => (by omega)⟩⟩)

set_option maxHeartbeats 4000000 in
set_option maxRecDepth 100000 in
theorem ct_X5_start (l : Launch) (g : sv_G) (A : Nat → Prop) (ty : Nat → Nat) (σ : Nat → Nat → Int) (hok : sv_ok ty σ) (hTA : ∀ q, ty q ≠ 0 → A q) (hI : sv_inv sp_1 ty σ) (a : Nat) (k_a : ty a = 9) (v : Int) (h_v : 0 ≤ v ∧ v ≤ 19) (w : Int) (h_w : 0 ≤ w ∧ w ≤ 1440) (x : Int) (h_x : 0 ≤ x ∧ x ≤ 30) (qc : Nat) (k_qc : ty qc = 40) (qr : Nat) (k_qr : ty qr = 41) (ea2 : σ a 2 = (qc : Int) + 1) (ea3 : σ a 3 = (qr : Int) + 1) : sv_M l yX5_start cX5_start 4 none { frames := 0, cells := 0, slots := 0, locals := 0 } g A ty σ [sv_r a, sv_i v, sv_i w, sv_i x] (fun r σ' => (r = []) ∧ sv_inv sp_1 ty σ' ∧ sv_ofx [(9, 0), (9, 1), (9, 4)] [40, 41] ty σ σ' ∧ σ' = sv_up (sv_up (sv_up (sv_up (sv_up σ a 0 1) qc 0 v) qr 0 0) a 1 w) a 4 x) := by
  refine sv_enter (by decide) (Nat.le_of_ble_eq_true rfl) ?_
  intro p e s m args below meth c C hr
  have C : sv_C g A RX5 cX5_start 4 p s m args meth c := C
  have hr : meth.sig.returnType = none := hr
  have hF : sv_ofx [(9, 0), (9, 1), (9, 4)] [40, 41] ty σ σ := sv_ofx.rf
  refine sv_same (st2 := []) (lv2 := [(0, sv_r a), (1, sv_i v), (2, sv_i w), (3, sv_i x)]) rfl rfl ?_
  refine sv_go C.1 C.2.1 [(.aload_n 0, 1), (.iconst 1, 1)] (pc' := 2) (by decide +kernel) rfl (lv' := [(0, sv_r a), (1, sv_i v), (2, sv_i w), (3, sv_i x)]) (st' := [sv_i 1, sv_r a]) rfl ?_
  refine sv_pf C (index := 18) (ci := 4) (k := 0) (r := (RX5, TX5, 5)) (z := 1) (by decide +kernel) (by rw [k_a]; rfl) rfl (by decide) rfl fl_X5_18 rfl (Or.inl rfl) ⟨by omega, by omega⟩ (hTA _ (by rw [k_a]; decide)) hok (fun hok1 => ?_)
  have hI3 := hI.up (a := a) (k := 0) (z := 1) (by rw [k_a]; exact ⟨by omega, by omega⟩)
  have hF4 := hF.up (a := a) (k := 0) (z := 1) (Or.inr (by rw [k_a]; decide))
  generalize eσ2 : sv_up σ a 0 1 = σ2 at hok1 hI3 hF4 ⊢
  have t5 : σ2 a 2 = (qc : Int) + 1 := by rw [← eσ2, sv_up_k (by decide)]; exact ea2
  have t6 : σ2 a 3 = (qr : Int) + 1 := by rw [← eσ2, sv_up_k (by decide)]; exact ea3
  have t7 : σ2 a 0 = 1 := by rw [← eσ2]; exact sv_up_s _ _ _ _
  refine sv_go C.1 C.2.1 [(.aload_n 0, 1)] (pc' := 6) (by decide +kernel) rfl (lv' := [(0, sv_r a), (1, sv_i v), (2, sv_i w), (3, sv_i x)]) (st' := [sv_r a]) rfl ?_
  refine sv_gf C (index := 9) (ci := 4) (k := 2) (r := (RX5, TX5, 5)) (v := sv_r qc) (by decide +kernel) (by rw [k_a]; rfl) rfl (by decide) fl_X5_9 (congrArg sv_a t5) ?_
  refine sv_go C.1 C.2.1 [(.iconst 0, 1), (.iload_n 1, 1)] (pc' := 11) (by decide +kernel) rfl (lv' := [(0, sv_r a), (1, sv_i v), (2, sv_i w), (3, sv_i x)]) (st' := [sv_i v, sv_i 0, sv_r qc]) rfl ?_
  refine sv_is C (n := 12) (by decide +kernel) (by rw [k_qc]; rfl) (by decide) (by omega) (by omega) ⟨by omega, by omega⟩ (hTA _ (by rw [k_qc]; decide)) hok1 (fun hok8 => ?_)
  have hI10 := hI3.up (a := qc) (k := (0 : Int).toNat) (z := v) (by rw [k_qc]; exact ⟨by omega, by omega⟩)
  have hF11 := hF4.up (a := qc) (k := (0 : Int).toNat) (z := v) (Or.inl (by rw [k_qc]; decide))
  generalize eσ9 : sv_up σ2 qc (0 : Int).toNat v = σ9 at hok8 hI10 hF11 ⊢
  have t12 : σ9 a 2 = (qc : Int) + 1 := by rw [← eσ9, sv_up_a (sv_ne k_a k_qc (by decide))]; exact t5
  have t13 : σ9 a 3 = (qr : Int) + 1 := by rw [← eσ9, sv_up_a (sv_ne k_a k_qc (by decide))]; exact t6
  have t14 : σ9 a 0 = 1 := by rw [← eσ9, sv_up_a (sv_ne k_a k_qc (by decide))]; exact t7
  have t15 : σ9 qc (0 : Int).toNat = v := by rw [← eσ9]; exact sv_up_s _ _ _ _
  refine sv_go C.1 C.2.1 [(.aload_n 0, 1)] (pc' := 13) (by decide +kernel) rfl (lv' := [(0, sv_r a), (1, sv_i v), (2, sv_i w), (3, sv_i x)]) (st' := [sv_r a]) rfl ?_
  refine sv_gf C (index := 15) (ci := 4) (k := 3) (r := (RX5, TX5, 5)) (v := sv_r qr) (by decide +kernel) (by rw [k_a]; rfl) rfl (by decide) fl_X5_15 (congrArg sv_a t13) ?_
  refine sv_go C.1 C.2.1 [(.iconst 0, 1), (.iconst 0, 1)] (pc' := 18) (by decide +kernel) rfl (lv' := [(0, sv_r a), (1, sv_i v), (2, sv_i w), (3, sv_i x)]) (st' := [sv_i 0, sv_i 0, sv_r qr]) rfl ?_
  refine sv_is C (n := 12) (by decide +kernel) (by rw [k_qr]; rfl) (by decide) (by omega) (by omega) ⟨by omega, by omega⟩ (hTA _ (by rw [k_qr]; decide)) hok8 (fun hok16 => ?_)
  have hI18 := hI10.up (a := qr) (k := (0 : Int).toNat) (z := 0) (by rw [k_qr]; exact trivial)
  have hF19 := hF11.up (a := qr) (k := (0 : Int).toNat) (z := 0) (Or.inl (by rw [k_qr]; decide))
  generalize eσ17 : sv_up σ9 qr (0 : Int).toNat 0 = σ17 at hok16 hI18 hF19 ⊢
  have t20 : σ17 a 2 = (qc : Int) + 1 := by rw [← eσ17, sv_up_a (sv_ne k_a k_qr (by decide))]; exact t12
  have t21 : σ17 a 3 = (qr : Int) + 1 := by rw [← eσ17, sv_up_a (sv_ne k_a k_qr (by decide))]; exact t13
  have t22 : σ17 a 0 = 1 := by rw [← eσ17, sv_up_a (sv_ne k_a k_qr (by decide))]; exact t14
  have t23 : σ17 qc (0 : Int).toNat = v := by rw [← eσ17, sv_up_a (sv_ne k_qc k_qr (by decide))]; exact t15
  have t24 : σ17 qr (0 : Int).toNat = 0 := by rw [← eσ17]; exact sv_up_s _ _ _ _
  refine sv_go C.1 C.2.1 [(.aload_n 0, 1), (.iload_n 2, 1)] (pc' := 21) (by decide +kernel) rfl (lv' := [(0, sv_r a), (1, sv_i v), (2, sv_i w), (3, sv_i x)]) (st' := [sv_i w, sv_r a]) rfl ?_
  refine sv_pf C (index := 22) (ci := 4) (k := 1) (r := (RX5, TX5, 5)) (z := w) (by decide +kernel) (by rw [k_a]; rfl) rfl (by decide) rfl fl_X5_22 rfl (Or.inl rfl) ⟨by omega, by omega⟩ (hTA _ (by rw [k_a]; decide)) hok16 (fun hok25 => ?_)
  have hI27 := hI18.up (a := a) (k := 1) (z := w) (by rw [k_a]; exact ⟨by omega, by omega⟩)
  have hF28 := hF19.up (a := a) (k := 1) (z := w) (Or.inr (by rw [k_a]; decide))
  generalize eσ26 : sv_up σ17 a 1 w = σ26 at hok25 hI27 hF28 ⊢
  have t29 : σ26 a 2 = (qc : Int) + 1 := by rw [← eσ26, sv_up_k (by decide)]; exact t20
  have t30 : σ26 a 3 = (qr : Int) + 1 := by rw [← eσ26, sv_up_k (by decide)]; exact t21
  have t31 : σ26 a 0 = 1 := by rw [← eσ26, sv_up_k (by decide)]; exact t22
  have t32 : σ26 qc (0 : Int).toNat = v := by rw [← eσ26, sv_up_a (sv_ne k_qc k_a (by decide))]; exact t23
  have t33 : σ26 qr (0 : Int).toNat = 0 := by rw [← eσ26, sv_up_a (sv_ne k_qr k_a (by decide))]; exact t24
  have t34 : σ26 a 1 = w := by rw [← eσ26]; exact sv_up_s _ _ _ _
  refine sv_go C.1 C.2.1 [(.aload_n 0, 1), (.iload_n 3, 1)] (pc' := 26) (by decide +kernel) rfl (lv' := [(0, sv_r a), (1, sv_i v), (2, sv_i w), (3, sv_i x)]) (st' := [sv_i x, sv_r a]) rfl ?_
  refine sv_pf C (index := 25) (ci := 4) (k := 4) (r := (RX5, TX5, 5)) (z := x) (by decide +kernel) (by rw [k_a]; rfl) rfl (by decide) rfl fl_X5_25 rfl (Or.inl rfl) ⟨by omega, by omega⟩ (hTA _ (by rw [k_a]; decide)) hok25 (fun hok35 => ?_)
  have hI37 := hI27.up (a := a) (k := 4) (z := x) (by rw [k_a]; exact ⟨by omega, by omega⟩)
  have hF38 := hF28.up (a := a) (k := 4) (z := x) (Or.inr (by rw [k_a]; decide))
  generalize eσ36 : sv_up σ26 a 4 x = σ36 at hok35 hI37 hF38 ⊢
  have t39 : σ36 a 2 = (qc : Int) + 1 := by rw [← eσ36, sv_up_k (by decide)]; exact t29
  have t40 : σ36 a 3 = (qr : Int) + 1 := by rw [← eσ36, sv_up_k (by decide)]; exact t30
  have t41 : σ36 a 0 = 1 := by rw [← eσ36, sv_up_k (by decide)]; exact t31
  have t42 : σ36 qc (0 : Int).toNat = v := by rw [← eσ36, sv_up_a (sv_ne k_qc k_a (by decide))]; exact t32
  have t43 : σ36 qr (0 : Int).toNat = 0 := by rw [← eσ36, sv_up_a (sv_ne k_qr k_a (by decide))]; exact t33
  have t44 : σ36 a 1 = w := by rw [← eσ36, sv_up_k (by decide)]; exact t34
  have t45 : σ36 a 4 = x := by rw [← eσ36]; exact sv_up_s _ _ _ _
  exact sv_vret C hr (by decide +kernel) hok35 (⟨rfl, hI37, hF38, (by rw [← eσ36, ← eσ26, ← eσ17, ← eσ9, ← eσ2] <;> rfl)⟩)

set_option maxHeartbeats 4000000 in
set_option maxRecDepth 100000 in
theorem ct_X5_lastCorner (l : Launch) (g : sv_G) (A : Nat → Prop) (ty : Nat → Nat) (σ : Nat → Nat → Int) (hok : sv_ok ty σ) (hTA : ∀ q, ty q ≠ 0 → A q) (hI : sv_inv sp_1 ty σ) (a : Nat) (k_a : ty a = 9) (zz : Int) (h_zz : 0 ≤ zz ∧ zz ≤ 12) (qc : Nat) (k_qc : ty qc = 40) (ea0 : σ a 0 = zz) (ea2 : σ a 2 = (qc : Int) + 1) : sv_M l yX5_lastCorner cX5_lastCorner 1 (some .int) { frames := 0, cells := 0, slots := 0, locals := 0 } g A ty σ [sv_r a] (fun r σ' => σ = σ' ∧ ∃ rv : Int, r = [sv_i rv] ∧ ((-1) ≤ rv ∧ rv ≤ 19) ∧ ((-2147483648) ≤ rv → rv ≤ 2147483647 → 1 ≤ zz → rv = σ qc (zz - 1).toNat ∧ 0 ≤ rv)) := by
  refine sv_enter (by decide) (Nat.le_of_ble_eq_true rfl) ?_
  intro p e s m args below meth c C hr
  have C : sv_C g A RX5 cX5_lastCorner 1 p s m args meth c := C
  have hr : meth.sig.returnType = (some .int) := hr
  have hF : sv_ofx [] [] ty σ σ := sv_ofx.rf
  refine sv_same (st2 := []) (lv2 := [(0, sv_r a)]) rfl rfl ?_
  refine sv_go C.1 C.2.1 [(.aload_n 0, 1)] (pc' := 1) (by decide +kernel) rfl (lv' := [(0, sv_r a)]) (st' := [sv_r a]) rfl ?_
  refine sv_gf C (index := 18) (ci := 4) (k := 0) (r := (RX5, TX5, 5)) (v := sv_i zz) (by decide +kernel) (by rw [k_a]; rfl) rfl (by decide) fl_X5_18 (congrArg sv_i ea0) ?_
  refine sv_go C.1 C.2.1 [(.iconst 1, 1)] (pc' := 5) (by decide +kernel) rfl (lv' := [(0, sv_r a)]) (st' := [sv_i 1, sv_i zz]) rfl ?_
  refine sv_icmp C.1 C.2.1 (cnd := .lt) (off := 26) (tgt := 31) (by decide +kernel) (by decide) ⟨by omega, by omega⟩ ⟨by omega, by omega⟩ (fun (h1 : zz < 1) => ?_) (fun (h1 : ¬ (zz < 1)) => ?_)
  · refine sv_go C.1 C.2.1 [(.iconst (-1), 1)] (pc' := 32) (by decide +kernel) rfl (lv' := [(0, sv_r a)]) (st' := [sv_i ((-1))]) rfl ?_
    exact sv_iret C hr (by decide +kernel) hok (⟨rfl, ⟨_, rfl, ⟨by omega, by omega⟩, fun _ _ => (fun _ => by exfalso; omega)⟩⟩)
  · refine sv_go C.1 C.2.1 [(.aload_n 0, 1)] (pc' := 9) (by decide +kernel) rfl (lv' := [(0, sv_r a)]) (st' := [sv_r a]) rfl ?_
    refine sv_gf C (index := 18) (ci := 4) (k := 0) (r := (RX5, TX5, 5)) (v := sv_i zz) (by decide +kernel) (by rw [k_a]; rfl) rfl (by decide) fl_X5_18 (congrArg sv_i ea0) ?_
    refine sv_go C.1 C.2.1 [(.bipush 12, 2)] (pc' := 14) (by decide +kernel) rfl (lv' := [(0, sv_r a)]) (st' := [sv_i 12, sv_i zz]) rfl ?_
    refine sv_icmp_f C.1 C.2.1 (cnd := .gt) (off := 17) (tgt := 31) (by decide +kernel) (by decide) ⟨by omega, by omega⟩ ⟨by omega, by omega⟩ (show ¬ (12 < zz) by omega) ?_
    refine sv_go C.1 C.2.1 [(.aload_n 0, 1)] (pc' := 18) (by decide +kernel) rfl (lv' := [(0, sv_r a)]) (st' := [sv_r a]) rfl ?_
    refine sv_gf C (index := 9) (ci := 4) (k := 2) (r := (RX5, TX5, 5)) (v := sv_r qc) (by decide +kernel) (by rw [k_a]; rfl) rfl (by decide) fl_X5_9 (congrArg sv_a ea2) ?_
    refine sv_go C.1 C.2.1 [(.aload_n 0, 1)] (pc' := 22) (by decide +kernel) rfl (lv' := [(0, sv_r a)]) (st' := [sv_r a, sv_r qc]) rfl ?_
    refine sv_gf C (index := 18) (ci := 4) (k := 0) (r := (RX5, TX5, 5)) (v := sv_i zz) (by decide +kernel) (by rw [k_a]; rfl) rfl (by decide) fl_X5_18 (congrArg sv_i ea0) ?_
    refine sv_go C.1 C.2.1 [(.iconst 1, 1), (.isub, 1)] (pc' := 27) (by decide +kernel) rfl (lv' := [(0, sv_r a)]) (st' := [sv_i (zz - 1), sv_r qc]) rfl ?_
    refine sv_ia C (n := 12) (by decide +kernel) (by rw [k_qc]; rfl) (by decide) (by omega) (by omega) ?_
    obtain ⟨v2, ev2, hv2⟩ := sv_rdn hI (k := (zz - 1 : Int).toNat) k_qc rfl
    rw [ev2]
    refine sv_goto C.1 C.2.1 (off := 4) (tgt := 32) (by decide +kernel) (by decide) ?_
    exact sv_iret C hr (by decide +kernel) hok (⟨rfl, ⟨_, rfl, ⟨by omega, by omega⟩, fun _ _ => (fun _ => ⟨by omega, by omega⟩)⟩⟩)

set_option maxHeartbeats 4000000 in
set_option maxRecDepth 100000 in
theorem ct_X5_goOn (l : Launch) (g : sv_G) (A : Nat → Prop) (ty : Nat → Nat) (σ : Nat → Nat → Int) (hok : sv_ok ty σ) (hTA : ∀ q, ty q ≠ 0 → A q) (hI : sv_inv sp_1 ty σ) (a : Nat) (k_a : ty a = 9) (v : Int) (h_v : 0 ≤ v ∧ v ≤ 19) (w : Int) (h_w : 1 ≤ w ∧ w ≤ 60) (zz : Int) (h_zz : 0 ≤ zz ∧ zz ≤ 12) (qc : Nat) (k_qc : ty qc = 40) (qr : Nat) (k_qr : ty qr = 41) (ea0 : σ a 0 = zz) (ea2 : σ a 2 = (qc : Int) + 1) (ea3 : σ a 3 = (qr : Int) + 1) : sv_M l yX5_goOn cX5_goOn 3 (some .boolean) { frames := 0, cells := 0, slots := 0, locals := 0 } g A ty σ [sv_r a, sv_i v, sv_i w] (fun r σ' => (∃ rv : Int, r = [sv_i rv] ∧ (0 ≤ rv ∧ rv ≤ 1) ∧ (1 ≤ rv → rv ≤ 1 → (1 ≤ zz ∧ zz < 12) ∧ σ' = sv_up (sv_up (sv_up σ qc zz.toNat v) qr zz.toNat (zw (σ qr (zz - 1).toNat + w))) a 0 (zz + 1)) ∧ (0 ≤ rv → rv ≤ 0 → (zz < 1 ∨ 12 ≤ zz) ∧ σ' = σ)) ∧ sv_inv sp_1 ty σ' ∧ sv_ofx [(9, 0)] [40, 41] ty σ σ') := by
  refine sv_enter (by decide) (Nat.le_of_ble_eq_true rfl) ?_
  intro p e s m args below meth c C hr
  have C : sv_C g A RX5 cX5_goOn 3 p s m args meth c := C
  have hr : meth.sig.returnType = (some .boolean) := hr
  have hF : sv_ofx [(9, 0)] [40, 41] ty σ σ := sv_ofx.rf
  refine sv_same (st2 := []) (lv2 := [(0, sv_r a), (1, sv_i v), (2, sv_i w)]) rfl rfl ?_
  refine sv_go C.1 C.2.1 [(.aload_n 0, 1)] (pc' := 1) (by decide +kernel) rfl (lv' := [(0, sv_r a), (1, sv_i v), (2, sv_i w)]) (st' := [sv_r a]) rfl ?_
  refine sv_gf C (index := 18) (ci := 4) (k := 0) (r := (RX5, TX5, 5)) (v := sv_i zz) (by decide +kernel) (by rw [k_a]; rfl) rfl (by decide) fl_X5_18 (congrArg sv_i ea0) ?_
  refine sv_go C.1 C.2.1 [(.iconst 1, 1)] (pc' := 5) (by decide +kernel) rfl (lv' := [(0, sv_r a), (1, sv_i v), (2, sv_i w)]) (st' := [sv_i 1, sv_i zz]) rfl ?_
  refine sv_icmp C.1 C.2.1 (cnd := .lt) (off := 12) (tgt := 17) (by decide +kernel) (by decide) ⟨by omega, by omega⟩ ⟨by omega, by omega⟩ (fun (h1 : zz < 1) => ?_) (fun (h1 : ¬ (zz < 1)) => ?_)
  · refine sv_go C.1 C.2.1 [(.iconst 0, 1)] (pc' := 18) (by decide +kernel) rfl (lv' := [(0, sv_r a), (1, sv_i v), (2, sv_i w)]) (st' := [sv_i 0]) rfl ?_
    exact sv_zret C hr (by omega) (by decide +kernel) hok (⟨⟨_, rfl, ⟨by omega, by omega⟩, fun _ _ => (by exfalso; omega), fun _ _ => ⟨by omega, rfl⟩⟩, hI, hF⟩)
  · refine sv_go C.1 C.2.1 [(.aload_n 0, 1)] (pc' := 9) (by decide +kernel) rfl (lv' := [(0, sv_r a), (1, sv_i v), (2, sv_i w)]) (st' := [sv_r a]) rfl ?_
    refine sv_gf C (index := 18) (ci := 4) (k := 0) (r := (RX5, TX5, 5)) (v := sv_i zz) (by decide +kernel) (by rw [k_a]; rfl) rfl (by decide) fl_X5_18 (congrArg sv_i ea0) ?_
    refine sv_go C.1 C.2.1 [(.bipush 12, 2)] (pc' := 14) (by decide +kernel) rfl (lv' := [(0, sv_r a), (1, sv_i v), (2, sv_i w)]) (st' := [sv_i 12, sv_i zz]) rfl ?_
    refine sv_icmp C.1 C.2.1 (cnd := .lt) (off := 5) (tgt := 19) (by decide +kernel) (by decide) ⟨by omega, by omega⟩ ⟨by omega, by omega⟩ (fun (h2 : zz < 12) => ?_) (fun (h2 : ¬ (zz < 12)) => ?_)
    · refine sv_go C.1 C.2.1 [(.aload_n 0, 1)] (pc' := 20) (by decide +kernel) rfl (lv' := [(0, sv_r a), (1, sv_i v), (2, sv_i w)]) (st' := [sv_r a]) rfl ?_
      refine sv_gf C (index := 9) (ci := 4) (k := 2) (r := (RX5, TX5, 5)) (v := sv_r qc) (by decide +kernel) (by rw [k_a]; rfl) rfl (by decide) fl_X5_9 (congrArg sv_a ea2) ?_
      refine sv_go C.1 C.2.1 [(.aload_n 0, 1)] (pc' := 24) (by decide +kernel) rfl (lv' := [(0, sv_r a), (1, sv_i v), (2, sv_i w)]) (st' := [sv_r a, sv_r qc]) rfl ?_
      refine sv_gf C (index := 18) (ci := 4) (k := 0) (r := (RX5, TX5, 5)) (v := sv_i zz) (by decide +kernel) (by rw [k_a]; rfl) rfl (by decide) fl_X5_18 (congrArg sv_i ea0) ?_
      refine sv_go C.1 C.2.1 [(.iload_n 1, 1)] (pc' := 28) (by decide +kernel) rfl (lv' := [(0, sv_r a), (1, sv_i v), (2, sv_i w)]) (st' := [sv_i v, sv_i zz, sv_r qc]) rfl ?_
      refine sv_is C (n := 12) (by decide +kernel) (by rw [k_qc]; rfl) (by decide) (by omega) (by omega) ⟨by omega, by omega⟩ (hTA _ (by rw [k_qc]; decide)) hok (fun hok3 => ?_)
      have hI5 := hI.up (a := qc) (k := (zz : Int).toNat) (z := v) (by rw [k_qc]; exact ⟨by omega, by omega⟩)
      have hF6 := hF.up (a := qc) (k := (zz : Int).toNat) (z := v) (Or.inl (by rw [k_qc]; decide))
      generalize eσ4 : sv_up σ qc (zz : Int).toNat v = σ4 at hok3 hI5 hF6 ⊢
      have t7 : σ4 a 0 = zz := by rw [← eσ4, sv_up_a (sv_ne k_a k_qc (by decide))]; exact ea0
      have t8 : σ4 a 2 = (qc : Int) + 1 := by rw [← eσ4, sv_up_a (sv_ne k_a k_qc (by decide))]; exact ea2
      have t9 : σ4 a 3 = (qr : Int) + 1 := by rw [← eσ4, sv_up_a (sv_ne k_a k_qc (by decide))]; exact ea3
      have t10 : σ4 qc (zz : Int).toNat = v := by rw [← eσ4]; exact sv_up_s _ _ _ _
      refine sv_go C.1 C.2.1 [(.aload_n 0, 1)] (pc' := 30) (by decide +kernel) rfl (lv' := [(0, sv_r a), (1, sv_i v), (2, sv_i w)]) (st' := [sv_r a]) rfl ?_
      refine sv_gf C (index := 15) (ci := 4) (k := 3) (r := (RX5, TX5, 5)) (v := sv_r qr) (by decide +kernel) (by rw [k_a]; rfl) rfl (by decide) fl_X5_15 (congrArg sv_a t9) ?_
      refine sv_go C.1 C.2.1 [(.aload_n 0, 1)] (pc' := 34) (by decide +kernel) rfl (lv' := [(0, sv_r a), (1, sv_i v), (2, sv_i w)]) (st' := [sv_r a, sv_r qr]) rfl ?_
      refine sv_gf C (index := 18) (ci := 4) (k := 0) (r := (RX5, TX5, 5)) (v := sv_i zz) (by decide +kernel) (by rw [k_a]; rfl) rfl (by decide) fl_X5_18 (congrArg sv_i t7) ?_
      refine sv_go C.1 C.2.1 [(.aload_n 0, 1)] (pc' := 38) (by decide +kernel) rfl (lv' := [(0, sv_r a), (1, sv_i v), (2, sv_i w)]) (st' := [sv_r a, sv_i zz, sv_r qr]) rfl ?_
      refine sv_gf C (index := 15) (ci := 4) (k := 3) (r := (RX5, TX5, 5)) (v := sv_r qr) (by decide +kernel) (by rw [k_a]; rfl) rfl (by decide) fl_X5_15 (congrArg sv_a t9) ?_
      refine sv_go C.1 C.2.1 [(.aload_n 0, 1)] (pc' := 42) (by decide +kernel) rfl (lv' := [(0, sv_r a), (1, sv_i v), (2, sv_i w)]) (st' := [sv_r a, sv_r qr, sv_i zz, sv_r qr]) rfl ?_
      refine sv_gf C (index := 18) (ci := 4) (k := 0) (r := (RX5, TX5, 5)) (v := sv_i zz) (by decide +kernel) (by rw [k_a]; rfl) rfl (by decide) fl_X5_18 (congrArg sv_i t7) ?_
      refine sv_go C.1 C.2.1 [(.iconst 1, 1), (.isub, 1)] (pc' := 47) (by decide +kernel) rfl (lv' := [(0, sv_r a), (1, sv_i v), (2, sv_i w)]) (st' := [sv_i (zz - 1), sv_r qr, sv_i zz, sv_r qr]) rfl ?_
      refine sv_ia C (n := 12) (by decide +kernel) (by rw [k_qr]; rfl) (by decide) (by omega) (by omega) ?_
      obtain ⟨v11, ev11, hv11⟩ := sv_rde hok3 (a := qr) (k := (zz - 1 : Int).toNat) (n := 12) (by rw [k_qr]; rfl) (by omega)
      rw [ev11]
      refine sv_go C.1 C.2.1 [(.iload_n 2, 1), (.iadd, 1)] (pc' := 50) (by decide +kernel) rfl (lv' := [(0, sv_r a), (1, sv_i v), (2, sv_i w)]) (st' := [sv_i (v11 + w), sv_i zz, sv_r qr]) rfl ?_
      have hq0 : σ qr (zz - 1).toNat = v11 := by rw [← ev11, ← eσ4, sv_up_a (sv_ne k_qr k_qc (by decide))]
      obtain ⟨w12, hw12, ew12⟩ := sv_wr (v11 + w)
      refine sv_sameD (st2 := [sv_i w12, sv_i zz, sv_r qr]) (lv2 := [(0, sv_r a), (1, sv_i v), (2, sv_i w)]) (by simp only [List.map_cons, List.map_nil, sv_den_i, ew12]) rfl ?_
      refine sv_is C (n := 12) (by decide +kernel) (by rw [k_qr]; rfl) (by decide) (by omega) (by omega) ⟨by omega, by omega⟩ (hTA _ (by rw [k_qr]; decide)) hok3 (fun hok13 => ?_)
      have hI15 := hI5.up (a := qr) (k := (zz : Int).toNat) (z := w12) (by rw [k_qr]; exact trivial)
      have hF16 := hF6.up (a := qr) (k := (zz : Int).toNat) (z := w12) (Or.inl (by rw [k_qr]; decide))
      generalize eσ14 : sv_up σ4 qr (zz : Int).toNat w12 = σ14 at hok13 hI15 hF16 ⊢
      have t17 : σ14 a 0 = zz := by rw [← eσ14, sv_up_a (sv_ne k_a k_qr (by decide))]; exact t7
      have t18 : σ14 a 2 = (qc : Int) + 1 := by rw [← eσ14, sv_up_a (sv_ne k_a k_qr (by decide))]; exact t8
      have t19 : σ14 a 3 = (qr : Int) + 1 := by rw [← eσ14, sv_up_a (sv_ne k_a k_qr (by decide))]; exact t9
      have t20 : σ14 qc (zz : Int).toNat = v := by rw [← eσ14, sv_up_a (sv_ne k_qc k_qr (by decide))]; exact t10
      have t22 : σ14 qr (zz : Int).toNat = w12 := by rw [← eσ14]; exact sv_up_s _ _ _ _
      refine sv_go C.1 C.2.1 [(.aload_n 0, 1), (.dup, 1)] (pc' := 53) (by decide +kernel) rfl (lv' := [(0, sv_r a), (1, sv_i v), (2, sv_i w)]) (st' := [sv_r a, sv_r a]) rfl ?_
      refine sv_gf C (index := 18) (ci := 4) (k := 0) (r := (RX5, TX5, 5)) (v := sv_i zz) (by decide +kernel) (by rw [k_a]; rfl) rfl (by decide) fl_X5_18 (congrArg sv_i t17) ?_
      refine sv_go C.1 C.2.1 [(.iconst 1, 1), (.iadd, 1)] (pc' := 58) (by decide +kernel) rfl (lv' := [(0, sv_r a), (1, sv_i v), (2, sv_i w)]) (st' := [sv_i (zz + 1), sv_r a]) rfl ?_
      refine sv_pf C (index := 18) (ci := 4) (k := 0) (r := (RX5, TX5, 5)) (z := zz + 1) (by decide +kernel) (by rw [k_a]; rfl) rfl (by decide) rfl fl_X5_18 rfl (Or.inl rfl) ⟨by omega, by omega⟩ (hTA _ (by rw [k_a]; decide)) hok13 (fun hok23 => ?_)
      have hI25 := hI15.up (a := a) (k := 0) (z := zz + 1) (by rw [k_a]; exact ⟨by omega, by omega⟩)
      have hF26 := hF16.up (a := a) (k := 0) (z := zz + 1) (Or.inr (by rw [k_a]; decide))
      generalize eσ24 : sv_up σ14 a 0 (zz + 1) = σ24 at hok23 hI25 hF26 ⊢
      have t27 : σ24 a 2 = (qc : Int) + 1 := by rw [← eσ24, sv_up_k (by decide)]; exact t18
      have t28 : σ24 a 3 = (qr : Int) + 1 := by rw [← eσ24, sv_up_k (by decide)]; exact t19
      have t29 : σ24 qc (zz : Int).toNat = v := by rw [← eσ24, sv_up_a (sv_ne k_qc k_a (by decide))]; exact t20
      have t30 : σ24 qr (zz : Int).toNat = w12 := by rw [← eσ24, sv_up_a (sv_ne k_qr k_a (by decide))]; exact t22
      have t31 : σ24 a 0 = zz + 1 := by rw [← eσ24]; exact sv_up_s _ _ _ _
      refine sv_go C.1 C.2.1 [(.iconst 1, 1)] (pc' := 62) (by decide +kernel) rfl (lv' := [(0, sv_r a), (1, sv_i v), (2, sv_i w)]) (st' := [sv_i 1]) rfl ?_
      exact sv_zret C hr (by omega) (by decide +kernel) hok23 (⟨⟨_, rfl, ⟨by omega, by omega⟩, fun _ _ => ⟨⟨by omega, by omega⟩, by rw [hq0, ← zw_eq hw12 ew12, ← eσ24, ← eσ14, ← eσ4]⟩, fun _ _ => (by exfalso; omega)⟩, hI25, hF26⟩)
    · refine sv_go C.1 C.2.1 [(.iconst 0, 1)] (pc' := 18) (by decide +kernel) rfl (lv' := [(0, sv_r a), (1, sv_i v), (2, sv_i w)]) (st' := [sv_i 0]) rfl ?_
      exact sv_zret C hr (by omega) (by decide +kernel) hok (⟨⟨_, rfl, ⟨by omega, by omega⟩, fun _ _ => (by exfalso; omega), fun _ _ => ⟨by omega, rfl⟩⟩, hI, hF⟩)

set_option maxHeartbeats 4000000 in
set_option maxRecDepth 100000 in
theorem ct_X8_minutesBetween (l : Launch) (g : sv_G) (A : Nat → Prop) (ty : Nat → Nat) (σ : Nat → Nat → Int) (hok : sv_ok ty σ) (hTA : ∀ q, ty q ≠ 0 → A q) (hI : sv_inv sp_1 ty σ) (a : Nat) (k_a : ty a = 6) (v : Int) (h_v : (-2147483648) ≤ v ∧ v ≤ 2147483647) (w : Int) (h_w : (-2147483648) ≤ w ∧ w ≤ 2147483647) (mq : Nat) (k_mq : ty mq = 38) (em : σ a 2 = (mq : Int) + 1) : sv_M l yX8_minutesBetween cX8_minutesBetween 3 (some .int) { frames := 1, cells := 0, slots := 0, locals := 20 } g A ty σ [sv_r a, sv_i v, sv_i w] (fun r σ' => σ = σ' ∧ ∃ rv : Int, r = [sv_i rv] ∧ (0 ≤ rv ∧ rv ≤ 60) ∧ ((-2147483648) ≤ rv → rv ≤ 2147483647 → (0 ≤ v ∧ v ≤ 19) → (0 ≤ w ∧ w ≤ 19) → rv = σ mq (20 * v + w).toNat)) := by
  refine sv_enter (by decide) (Nat.le_of_ble_eq_true rfl) ?_
  intro p e s m args below meth c C hr
  have C : sv_C g A RX8 cX8_minutesBetween 3 p s m args meth c := C
  have hr : meth.sig.returnType = (some .int) := hr
  have hF : sv_ofx [] [] ty σ σ := sv_ofx.rf
  refine sv_same (st2 := []) (lv2 := [(0, sv_r a), (1, sv_i v), (2, sv_i w)]) rfl rfl ?_
  refine sv_go C.1 C.2.1 [(.iload_n 1, 1)] (pc' := 1) (by decide +kernel) rfl (lv' := [(0, sv_r a), (1, sv_i v), (2, sv_i w)]) (st' := [sv_i v]) rfl ?_
  refine sv_csN C (index := 25) (k := 1) (rest := []) (by decide +kernel) (sf2_X9_isCorner l g A ty σ hok hTA hI (v) ⟨by omega, by omega⟩) ⟨co_X9_isCorner, in_X9, ⟨by decide, by decide, by decide +kernel⟩, Nat.le_of_ble_eq_true rfl, Nat.le_of_ble_eq_true rfl⟩ mn_X8_25 st_X9_isCorner rfl rfl (Nat.le_of_ble_eq_true rfl) ⟨Nat.zero_le _, Nat.zero_le _⟩ (fun r2 σ3 hpo1 hok4 => ?_)
  obtain ⟨rfl, ⟨vu5, rfl, hvu5, ivu5_0, ivu5_1⟩⟩ := hpo1
  refine sv_same (st2 := [sv_i vu5]) (lv2 := [(0, sv_r a), (1, sv_i v), (2, sv_i w)]) rfl rfl ?_
  refine sv_if C.1 C.2.1 (cnd := .eq) (off := 24) (tgt := 28) (by decide +kernel) (by decide) ⟨by omega, by omega⟩ (fun (h6 : vu5 = 0) => ?_) (fun (h6 : ¬ (vu5 = 0)) => ?_)
  · have hp7 := ivu5_1 (by omega) (by omega)
    refine sv_go C.1 C.2.1 [(.iconst 0, 1)] (pc' := 29) (by decide +kernel) rfl (lv' := [(0, sv_r a), (1, sv_i v), (2, sv_i w)]) (st' := [sv_i 0]) rfl ?_
    exact sv_iret C hr (by decide +kernel) hok4 (⟨rfl, ⟨_, rfl, ⟨by omega, by omega⟩, fun _ _ => (fun _ _ => by omega)⟩⟩)
  · have hp8 := ivu5_0 (by omega) (by omega)
    refine sv_go C.1 C.2.1 [(.iload_n 2, 1)] (pc' := 8) (by decide +kernel) rfl (lv' := [(0, sv_r a), (1, sv_i v), (2, sv_i w)]) (st' := [sv_i w]) rfl ?_
    refine sv_csN C (index := 25) (k := 1) (rest := []) (by decide +kernel) (sf2_X9_isCorner l g A ty σ hok4 hTA hI (w) ⟨by omega, by omega⟩) ⟨co_X9_isCorner, in_X9, ⟨by decide, by decide, by decide +kernel⟩, Nat.le_of_ble_eq_true rfl, Nat.le_of_ble_eq_true rfl⟩ mn_X8_25 st_X9_isCorner rfl rfl (Nat.le_of_ble_eq_true rfl) ⟨Nat.zero_le _, Nat.zero_le _⟩ (fun r10 σ11 hpo9 hok12 => ?_)
    obtain ⟨rfl, ⟨vu13, rfl, hvu13, ivu13_0, ivu13_1⟩⟩ := hpo9
    refine sv_same (st2 := [sv_i vu13]) (lv2 := [(0, sv_r a), (1, sv_i v), (2, sv_i w)]) rfl rfl ?_
    refine sv_if C.1 C.2.1 (cnd := .eq) (off := 17) (tgt := 28) (by decide +kernel) (by decide) ⟨by omega, by omega⟩ (fun (h14 : vu13 = 0) => ?_) (fun (h14 : ¬ (vu13 = 0)) => ?_)
    · have hp15 := ivu13_1 (by omega) (by omega)
      refine sv_go C.1 C.2.1 [(.iconst 0, 1)] (pc' := 29) (by decide +kernel) rfl (lv' := [(0, sv_r a), (1, sv_i v), (2, sv_i w)]) (st' := [sv_i 0]) rfl ?_
      exact sv_iret C hr (by decide +kernel) hok12 (⟨rfl, ⟨_, rfl, ⟨by omega, by omega⟩, fun _ _ => (fun _ _ => by omega)⟩⟩)
    · have hp16 := ivu13_0 (by omega) (by omega)
      refine sv_go C.1 C.2.1 [(.aload_n 0, 1)] (pc' := 15) (by decide +kernel) rfl (lv' := [(0, sv_r a), (1, sv_i v), (2, sv_i w)]) (st' := [sv_r a]) rfl ?_
      refine sv_gf C (index := 17) (ci := 7) (k := 2) (r := (RX8, TX8, 4)) (v := sv_r mq) (by decide +kernel) (by rw [k_a]; rfl) rfl (by decide) fl_X8_17 (congrArg sv_a em) ?_
      refine sv_go C.1 C.2.1 [(.bipush 20, 2), (.iload_n 1, 1), (.imul, 1), (.iload_n 2, 1), (.iadd, 1)] (pc' := 24) (by decide +kernel) rfl (lv' := [(0, sv_r a), (1, sv_i v), (2, sv_i w)]) (st' := [sv_i ((20 * v) + w), sv_r mq]) rfl ?_
      refine sv_ia C (n := 400) (by decide +kernel) (by rw [k_mq]; rfl) (by decide) (by omega) (by omega) ?_
      obtain ⟨v17, ev17, hv17⟩ := sv_rdn hI (k := ((20 * v) + w : Int).toNat) k_mq rfl
      rw [ev17]
      refine sv_goto C.1 C.2.1 (off := 4) (tgt := 29) (by decide +kernel) (by decide) ?_
      exact sv_iret C hr (by decide +kernel) hok12 (⟨rfl, ⟨_, rfl, ⟨by omega, by omega⟩, fun _ _ => (fun _ _ => by omega)⟩⟩)

set_option maxHeartbeats 4000000 in
set_option maxRecDepth 100000 in
theorem ct_X9_isLong (l : Launch) (g : sv_G) (A : Nat → Prop) (ty : Nat → Nat) (σ : Nat → Nat → Int) (hok : sv_ok ty σ) (hTA : ∀ q, ty q ≠ 0 → A q) (hI : sv_inv sp_1 ty σ) (a : Nat) (k_a : ty a = 1) (v : Int) (h_v : (-2147483648) ≤ v ∧ v ≤ 2147483647) (w : Int) (h_w : 1 ≤ w ∧ w ≤ 2) (tq : Nat) (k_tq : ty tq = 6) (bq : Nat) (k_bq : ty bq = 37) (et : σ a 4 = (tq : Int) + 1) (eb : σ tq 0 = (bq : Int) + 1) : sv_M l yX9_isLong cX9_isLong 3 (some .boolean) { frames := 1, cells := 0, slots := 0, locals := 20 } g A ty σ [sv_r a, sv_i v, sv_i w] (fun r σ' => σ = σ' ∧ ∃ rv : Int, r = [sv_i rv] ∧ (0 ≤ rv ∧ rv ≤ 1) ∧ (1 ≤ rv → rv ≤ 1 → (0 ≤ v ∧ v ≤ 11) ∧ ∀ P : Nat, σ bq v.toNat = (P : Int) + 1 → w ≤ σ P 0) ∧ (0 ≤ rv → rv ≤ 0 → (0 ≤ v ∧ v ≤ 11) → ∀ P : Nat, σ bq v.toNat = (P : Int) + 1 → σ P 0 < w)) := by
  refine sv_enter (by decide) (Nat.le_of_ble_eq_true rfl) ?_
  intro p e s m args below meth c C hr
  have C : sv_C g A RX9 cX9_isLong 3 p s m args meth c := C
  have hr : meth.sig.returnType = (some .boolean) := hr
  have hF : sv_ofx [] [] ty σ σ := sv_ofx.rf
  refine sv_same (st2 := []) (lv2 := [(0, sv_r a), (1, sv_i v), (2, sv_i w)]) rfl rfl ?_
  refine sv_go C.1 C.2.1 [(.iload_n 1, 1)] (pc' := 1) (by decide +kernel) rfl (lv' := [(0, sv_r a), (1, sv_i v), (2, sv_i w)]) (st' := [sv_i v]) rfl ?_
  refine sv_cs C (index := 184) (k := 1) (rest := []) (by decide +kernel) (sf2_X9_isProcession l g A ty σ hok hTA hI (v) ⟨by omega, by omega⟩) ⟨co_X9_isProcession, in_X9, ⟨by decide, by decide, by decide +kernel⟩, Nat.le_of_ble_eq_true rfl, Nat.le_of_ble_eq_true rfl⟩ ml_X9_184 st_X9_isProcession rfl rfl (Nat.le_of_ble_eq_true rfl) ⟨Nat.zero_le _, Nat.zero_le _⟩ (fun r2 σ3 hpo1 hok4 => ?_)
  obtain ⟨rfl, ⟨vu5, rfl, hvu5, ivu5_0, ivu5_1⟩⟩ := hpo1
  refine sv_same (st2 := [sv_i vu5]) (lv2 := [(0, sv_r a), (1, sv_i v), (2, sv_i w)]) rfl rfl ?_
  refine sv_if C.1 C.2.1 (cnd := .eq) (off := 23) (tgt := 27) (by decide +kernel) (by decide) ⟨by omega, by omega⟩ (fun (h6 : vu5 = 0) => ?_) (fun (h6 : ¬ (vu5 = 0)) => ?_)
  · have hp7 := ivu5_1 (by omega) (by omega)
    refine sv_go C.1 C.2.1 [(.iconst 0, 1)] (pc' := 28) (by decide +kernel) rfl (lv' := [(0, sv_r a), (1, sv_i v), (2, sv_i w)]) (st' := [sv_i 0]) rfl ?_
    exact sv_zret C hr (by omega) (by decide +kernel) hok4 (⟨rfl, ⟨_, rfl, ⟨by omega, by omega⟩, fun _ _ => (by exfalso; omega), fun _ _ => (fun h P q => by first | (exfalso; omega) | omega)⟩⟩)
  · have hp8 := ivu5_0 (by omega) (by omega)
    refine sv_go C.1 C.2.1 [(.aload_n 0, 1)] (pc' := 8) (by decide +kernel) rfl (lv' := [(0, sv_r a), (1, sv_i v), (2, sv_i w)]) (st' := [sv_r a]) rfl ?_
    refine sv_gf C (index := 40) (ci := 8) (k := 4) (r := (RX9, TX9, 6)) (v := sv_r tq) (by decide +kernel) (by rw [k_a]; rfl) rfl (by decide) fl_X9_40 (congrArg sv_a et) ?_
    refine sv_gf C (index := 190) (ci := 7) (k := 0) (r := (RX8, TX8, 4)) (v := sv_r bq) (by decide +kernel) (by rw [k_tq]; rfl) rfl (by decide) fl_X9_190 (congrArg sv_a eb) ?_
    refine sv_go C.1 C.2.1 [(.iload_n 1, 1)] (pc' := 15) (by decide +kernel) rfl (lv' := [(0, sv_r a), (1, sv_i v), (2, sv_i w)]) (st' := [sv_i v, sv_r bq]) rfl ?_
    refine sv_aa C (N := "SaintsRoad$Procession") (by decide) (n := 12) (by decide +kernel) (by rw [k_bq]; rfl) (by decide) (by omega) (by omega) ?_
    obtain ⟨v9, ev9, kv9⟩ := hI.ref (k := (v : Int).toNat) k_bq (by first | rfl | (show (if _ then _ else _) = _; rw [if_pos (by omega)]))
    rw [ev9]
    obtain ⟨v10, ev10, hv10⟩ := sv_rdn hI (k := 0) kv9 rfl
    refine sv_gf C (index := 213) (ci := 4) (k := 0) (r := (RX5, TX5, 5)) (v := sv_i v10) (by decide +kernel) (by rw [kv9]; rfl) rfl (by decide) fl_X9_213 (congrArg sv_i ev10) ?_
    refine sv_go C.1 C.2.1 [(.iload_n 2, 1)] (pc' := 20) (by decide +kernel) rfl (lv' := [(0, sv_r a), (1, sv_i v), (2, sv_i w)]) (st' := [sv_i w, sv_i v10]) rfl ?_
    refine sv_icmp C.1 C.2.1 (cnd := .lt) (off := 7) (tgt := 27) (by decide +kernel) (by decide) ⟨by omega, by omega⟩ ⟨by omega, by omega⟩ (fun (h11 : v10 < w) => ?_) (fun (h11 : ¬ (v10 < w)) => ?_)
    · refine sv_go C.1 C.2.1 [(.iconst 0, 1)] (pc' := 28) (by decide +kernel) rfl (lv' := [(0, sv_r a), (1, sv_i v), (2, sv_i w)]) (st' := [sv_i 0]) rfl ?_
      exact sv_zret C hr (by omega) (by decide +kernel) hok4 (⟨rfl, ⟨_, rfl, ⟨by omega, by omega⟩, fun _ _ => (by exfalso; omega), fun _ _ => (fun h P q => by first | (exfalso; omega) | (have tP : v9 = P := (by omega); subst tP; omega))⟩⟩)
    · refine sv_go C.1 C.2.1 [(.iconst 1, 1)] (pc' := 24) (by decide +kernel) rfl (lv' := [(0, sv_r a), (1, sv_i v), (2, sv_i w)]) (st' := [sv_i 1]) rfl ?_
      refine sv_goto C.1 C.2.1 (off := 4) (tgt := 28) (by decide +kernel) (by decide) ?_
      exact sv_zret C hr (by omega) (by decide +kernel) hok4 (⟨rfl, ⟨_, rfl, ⟨by omega, by omega⟩, fun _ _ => ⟨by omega, fun P q => by have tP : v9 = P := (by omega); subst tP; omega⟩, fun _ _ => (by exfalso; omega)⟩⟩)

set_option maxHeartbeats 4000000 in
set_option maxRecDepth 100000 in
theorem ct_X9_begin (l : Launch) (g : sv_G) (A : Nat → Prop) (ty : Nat → Nat) (σ : Nat → Nat → Int) (hok : sv_ok ty σ) (hTA : ∀ q, ty q ≠ 0 → A q) (hI : sv_inv sp_1 ty σ) (a : Nat) (k_a : ty a = 1) (ar1 : Int) (h_ar1 : (-2147483648) ≤ ar1 ∧ ar1 ≤ 2147483647) (ar2 : Int) (h_ar2 : (-2147483648) ≤ ar2 ∧ ar2 ≤ 2147483647) (ar3 : Int) (h_ar3 : (-2147483648) ≤ ar3 ∧ ar3 ≤ 2147483647) (ar4 : Int) (h_ar4 : (-2147483648) ≤ ar4 ∧ ar4 ≤ 2147483647) (tq : Nat) (k_tq : ty tq = 6) (bq : Nat) (k_bq : ty bq = 37) (et : σ a 4 = (tq : Int) + 1) (eb : σ tq 0 = (bq : Int) + 1) : sv_M l yX9_begin cX9_begin 5 (some .int) { frames := 1, cells := 0, slots := 0, locals := 23 } g A ty σ [sv_r a, sv_i ar1, sv_i ar2, sv_i ar3, sv_i ar4] (fun r σ' => (∃ rv : Int, r = [sv_i rv] ∧ ((-2) ≤ rv ∧ rv ≤ 1) ∧ ((-2147483648) ≤ rv → rv ≤ 2147483647 → zc_begin σ σ' bq ar1 ar2 ar3 ar4 rv)) ∧ sv_inv sp_1 ty σ' ∧ sv_ofx [(9, 0), (9, 1), (9, 4)] [40, 41] ty σ σ') := by
  refine sv_enter (by decide) (Nat.le_of_ble_eq_true rfl) ?_
  intro p e s m args below meth c C hr
  have C : sv_C g A RX9 cX9_begin 5 p s m args meth c := C
  have hr : meth.sig.returnType = (some .int) := hr
  have hF : sv_ofx [(9, 0), (9, 1), (9, 4)] [40, 41] ty σ σ := sv_ofx.rf
  refine sv_same (st2 := []) (lv2 := [(0, sv_r a), (1, sv_i ar1), (2, sv_i ar2), (3, sv_i ar3), (4, sv_i ar4)]) rfl rfl ?_
  refine sv_go C.1 C.2.1 [(.iload_n 1, 1)] (pc' := 1) (by decide +kernel) rfl (lv' := [(0, sv_r a), (1, sv_i ar1), (2, sv_i ar2), (3, sv_i ar3), (4, sv_i ar4)]) (st' := [sv_i ar1]) rfl ?_
  refine sv_cs C (index := 184) (k := 1) (rest := []) (by decide +kernel) (sf2_X9_isProcession l g A ty σ hok hTA hI (ar1) ⟨by omega, by omega⟩) ⟨co_X9_isProcession, in_X9, ⟨by decide, by decide, by decide +kernel⟩, Nat.le_of_ble_eq_true rfl, Nat.le_of_ble_eq_true rfl⟩ ml_X9_184 st_X9_isProcession rfl rfl (Nat.le_of_ble_eq_true rfl) ⟨Nat.zero_le _, Nat.zero_le _⟩ (fun r2 σ3 hpo1 hok4 => ?_)
  obtain ⟨rfl, ⟨vu5, rfl, hvu5, ivu5_0, ivu5_1⟩⟩ := hpo1
  refine sv_same (st2 := [sv_i vu5]) (lv2 := [(0, sv_r a), (1, sv_i ar1), (2, sv_i ar2), (3, sv_i ar3), (4, sv_i ar4)]) rfl rfl ?_
  refine sv_if C.1 C.2.1 (cnd := .eq) (off := 17) (tgt := 21) (by decide +kernel) (by decide) ⟨by omega, by omega⟩ (fun (h6 : vu5 = 0) => ?_) (fun (h6 : ¬ (vu5 = 0)) => ?_)
  · have hp7 := ivu5_1 (by omega) (by omega)
    refine sv_go C.1 C.2.1 [(.bipush (-2), 2)] (pc' := 23) (by decide +kernel) rfl (lv' := [(0, sv_r a), (1, sv_i ar1), (2, sv_i ar2), (3, sv_i ar3), (4, sv_i ar4)]) (st' := [sv_i ((-2))]) rfl ?_
    exact sv_iret C hr (by decide +kernel) hok4 (⟨⟨_, rfl, ⟨by omega, by omega⟩, fun _ _ => ⟨fun _ => ⟨rfl, rfl⟩, fun h => by unfold zb_ok at h; exfalso; omega⟩⟩, hI, hF⟩)
  · have hp8 := ivu5_0 (by omega) (by omega)
    refine sv_go C.1 C.2.1 [(.iload_n 2, 1)] (pc' := 8) (by decide +kernel) rfl (lv' := [(0, sv_r a), (1, sv_i ar1), (2, sv_i ar2), (3, sv_i ar3), (4, sv_i ar4)]) (st' := [sv_i ar2]) rfl ?_
    refine sv_cs C (index := 177) (k := 1) (rest := []) (by decide +kernel) (sf2_X9_isCorner l g A ty σ hok4 hTA hI (ar2) ⟨by omega, by omega⟩) ⟨co_X9_isCorner, in_X9, ⟨by decide, by decide, by decide +kernel⟩, Nat.le_of_ble_eq_true rfl, Nat.le_of_ble_eq_true rfl⟩ ml_X9_177 st_X9_isCorner rfl rfl (Nat.le_of_ble_eq_true rfl) ⟨Nat.zero_le _, Nat.zero_le _⟩ (fun r10 σ11 hpo9 hok12 => ?_)
    obtain ⟨rfl, ⟨vu13, rfl, hvu13, ivu13_0, ivu13_1⟩⟩ := hpo9
    refine sv_same (st2 := [sv_i vu13]) (lv2 := [(0, sv_r a), (1, sv_i ar1), (2, sv_i ar2), (3, sv_i ar3), (4, sv_i ar4)]) rfl rfl ?_
    refine sv_if C.1 C.2.1 (cnd := .eq) (off := 10) (tgt := 21) (by decide +kernel) (by decide) ⟨by omega, by omega⟩ (fun (h14 : vu13 = 0) => ?_) (fun (h14 : ¬ (vu13 = 0)) => ?_)
    · have hp15 := ivu13_1 (by omega) (by omega)
      refine sv_go C.1 C.2.1 [(.bipush (-2), 2)] (pc' := 23) (by decide +kernel) rfl (lv' := [(0, sv_r a), (1, sv_i ar1), (2, sv_i ar2), (3, sv_i ar3), (4, sv_i ar4)]) (st' := [sv_i ((-2))]) rfl ?_
      exact sv_iret C hr (by decide +kernel) hok12 (⟨⟨_, rfl, ⟨by omega, by omega⟩, fun _ _ => ⟨fun _ => ⟨rfl, rfl⟩, fun h => by unfold zb_ok at h; exfalso; omega⟩⟩, hI, hF⟩)
    · have hp16 := ivu13_0 (by omega) (by omega)
      refine sv_go C.1 C.2.1 [(.iload_n 3, 1)] (pc' := 15) (by decide +kernel) rfl (lv' := [(0, sv_r a), (1, sv_i ar1), (2, sv_i ar2), (3, sv_i ar3), (4, sv_i ar4)]) (st' := [sv_i ar3]) rfl ?_
      refine sv_cs C (index := 187) (k := 1) (rest := []) (by decide +kernel) (sf2_X9_isBeginning l g A ty σ hok12 hTA hI (ar3) ⟨by omega, by omega⟩) ⟨co_X9_isBeginning, in_X9, ⟨by decide, by decide, by decide +kernel⟩, Nat.le_of_ble_eq_true rfl, Nat.le_of_ble_eq_true rfl⟩ ml_X9_187 st_X9_isBeginning rfl rfl (Nat.le_of_ble_eq_true rfl) ⟨Nat.zero_le _, Nat.zero_le _⟩ (fun r18 σ19 hpo17 hok20 => ?_)
      obtain ⟨rfl, ⟨vu21, rfl, hvu21, ivu21_0, ivu21_1⟩⟩ := hpo17
      refine sv_same (st2 := [sv_i vu21]) (lv2 := [(0, sv_r a), (1, sv_i ar1), (2, sv_i ar2), (3, sv_i ar3), (4, sv_i ar4)]) rfl rfl ?_
      refine sv_if C.1 C.2.1 (cnd := .ne) (off := 6) (tgt := 24) (by decide +kernel) (by decide) ⟨by omega, by omega⟩ (fun (h22 : vu21 ≠ 0) => ?_) (fun (h22 : ¬ (vu21 ≠ 0)) => ?_)
      · have hp23 := ivu21_0 (by omega) (by omega)
        refine sv_go C.1 C.2.1 [(.iload 4, 2)] (pc' := 26) (by decide +kernel) rfl (lv' := [(0, sv_r a), (1, sv_i ar1), (2, sv_i ar2), (3, sv_i ar3), (4, sv_i ar4)]) (st' := [sv_i ar4]) rfl ?_
        refine sv_if C.1 C.2.1 (cnd := .lt) (off := 10) (tgt := 36) (by decide +kernel) (by decide) ⟨by omega, by omega⟩ (fun (h24 : ar4 < 0) => ?_) (fun (h24 : ¬ (ar4 < 0)) => ?_)
        · refine sv_go C.1 C.2.1 [(.bipush (-2), 2)] (pc' := 38) (by decide +kernel) rfl (lv' := [(0, sv_r a), (1, sv_i ar1), (2, sv_i ar2), (3, sv_i ar3), (4, sv_i ar4)]) (st' := [sv_i ((-2))]) rfl ?_
          exact sv_iret C hr (by decide +kernel) hok20 (⟨⟨_, rfl, ⟨by omega, by omega⟩, fun _ _ => ⟨fun _ => ⟨rfl, rfl⟩, fun h => by unfold zb_ok at h; exfalso; omega⟩⟩, hI, hF⟩)
        · refine sv_go C.1 C.2.1 [(.iload 4, 2), (.bipush 30, 2)] (pc' := 33) (by decide +kernel) rfl (lv' := [(0, sv_r a), (1, sv_i ar1), (2, sv_i ar2), (3, sv_i ar3), (4, sv_i ar4)]) (st' := [sv_i 30, sv_i ar4]) rfl ?_
          refine sv_icmp C.1 C.2.1 (cnd := .le) (off := 6) (tgt := 39) (by decide +kernel) (by decide) ⟨by omega, by omega⟩ ⟨by omega, by omega⟩ (fun (h25 : ar4 ≤ 30) => ?_) (fun (h25 : ¬ (ar4 ≤ 30)) => ?_)
          · refine sv_go C.1 C.2.1 [(.aload_n 0, 1)] (pc' := 40) (by decide +kernel) rfl (lv' := [(0, sv_r a), (1, sv_i ar1), (2, sv_i ar2), (3, sv_i ar3), (4, sv_i ar4)]) (st' := [sv_r a]) rfl ?_
            refine sv_gf C (index := 40) (ci := 8) (k := 4) (r := (RX9, TX9, 6)) (v := sv_r tq) (by decide +kernel) (by rw [k_a]; rfl) rfl (by decide) fl_X9_40 (congrArg sv_a et) ?_
            refine sv_gf C (index := 190) (ci := 7) (k := 0) (r := (RX8, TX8, 4)) (v := sv_r bq) (by decide +kernel) (by rw [k_tq]; rfl) rfl (by decide) fl_X9_190 (congrArg sv_a eb) ?_
            refine sv_go C.1 C.2.1 [(.iload_n 1, 1)] (pc' := 47) (by decide +kernel) rfl (lv' := [(0, sv_r a), (1, sv_i ar1), (2, sv_i ar2), (3, sv_i ar3), (4, sv_i ar4)]) (st' := [sv_i ar1, sv_r bq]) rfl ?_
            refine sv_aa C (N := "SaintsRoad$Procession") (by decide) (n := 12) (by decide +kernel) (by rw [k_bq]; rfl) (by decide) (by omega) (by omega) ?_
            obtain ⟨v26, ev26, kv26⟩ := hI.ref (k := (ar1 : Int).toNat) k_bq (by first | rfl | (show (if _ then _ else _) = _; rw [if_pos (by omega)]))
            rw [ev26]
            refine sv_go C.1 C.2.1 [(.iload_n 2, 1), (.iload_n 3, 1), (.iload 4, 2)] (pc' := 52) (by decide +kernel) rfl (lv' := [(0, sv_r a), (1, sv_i ar1), (2, sv_i ar2), (3, sv_i ar3), (4, sv_i ar4)]) (st' := [sv_i ar4, sv_i ar3, sv_i ar2, sv_r v26]) rfl ?_
            obtain ⟨gq27, egq27, kgq27⟩ := hI.ref (k := 2) kv26 rfl
            obtain ⟨gq28, egq28, kgq28⟩ := hI.ref (k := 3) kv26 rfl
            refine sv_cv C (index := 194) (k := 3) (rest := []) (ci := 4) (r := (RX5, TX5, 5)) (by decide +kernel) (ct_X5_start l g A ty σ hok20 hTA hI v26 kv26 (ar2) ⟨by omega, by omega⟩ (ar3) ⟨by omega, by omega⟩ (ar4) ⟨by omega, by omega⟩ gq27 kgq27 gq28 kgq28 egq27 egq28) ⟨co_X5_start, in_X5, ⟨by decide, by decide, by decide +kernel⟩, Nat.le_of_ble_eq_true rfl, Nat.le_of_ble_eq_true rfl⟩ ml_X9_194 im_X5_start se_X5_start (by rw [kv26]; rfl) rfl rfl rfl (Nat.le_of_ble_eq_true rfl) ⟨Nat.zero_le _, Nat.zero_le _⟩ (fun r30 σ31 hpo29 hok32 => ?_)
            obtain ⟨rfl, hIu33, hFu33, xu33⟩ := hpo29
            have hGu33 := hF.tr hFu33 (by decide) (by decide)
            have t34 : σ31 a 4 = (tq : Int) + 1 := (hFu33.at k_a (by decide) (by decide)).trans et
            have t35 : σ31 tq 0 = (bq : Int) + 1 := (hFu33.at k_tq (by decide) (by decide)).trans eb
            have t36 : σ31 bq (ar1 : Int).toNat = (v26 : Int) + 1 := (hFu33.atA k_bq (by decide) (by decide)).trans ev26
            have t37 : σ31 v26 2 = (gq27 : Int) + 1 := (hFu33.at kv26 (by decide) (by decide)).trans egq27
            have t38 : σ31 v26 3 = (gq28 : Int) + 1 := (hFu33.at kv26 (by decide) (by decide)).trans egq28
            refine sv_same (st2 := []) (lv2 := [(0, sv_r a), (1, sv_i ar1), (2, sv_i ar2), (3, sv_i ar3), (4, sv_i ar4)]) rfl rfl ?_
            refine sv_go C.1 C.2.1 [(.iconst 1, 1)] (pc' := 56) (by decide +kernel) rfl (lv' := [(0, sv_r a), (1, sv_i ar1), (2, sv_i ar2), (3, sv_i ar3), (4, sv_i ar4)]) (st' := [sv_i 1]) rfl ?_
            exact sv_iret C hr (by decide +kernel) hok32 (⟨⟨_, rfl, ⟨by omega, by omega⟩, fun _ _ => ⟨fun h => absurd (by unfold zb_ok; omega) h, fun _ => ⟨rfl, fun P c r q1 q2 q3 => by have tP : v26 = P := (by omega); subst tP; have tc : gq27 = c := (by omega); subst tc; have tr : gq28 = r := (by omega); subst tr; exact xu33⟩⟩⟩, hIu33, hGu33⟩)
          · refine sv_go C.1 C.2.1 [(.bipush (-2), 2)] (pc' := 38) (by decide +kernel) rfl (lv' := [(0, sv_r a), (1, sv_i ar1), (2, sv_i ar2), (3, sv_i ar3), (4, sv_i ar4)]) (st' := [sv_i ((-2))]) rfl ?_
            exact sv_iret C hr (by decide +kernel) hok20 (⟨⟨_, rfl, ⟨by omega, by omega⟩, fun _ _ => ⟨fun _ => ⟨rfl, rfl⟩, fun h => by unfold zb_ok at h; exfalso; omega⟩⟩, hI, hF⟩)
      · have hp39 := ivu21_1 (by omega) (by omega)
        refine sv_go C.1 C.2.1 [(.bipush (-2), 2)] (pc' := 23) (by decide +kernel) rfl (lv' := [(0, sv_r a), (1, sv_i ar1), (2, sv_i ar2), (3, sv_i ar3), (4, sv_i ar4)]) (st' := [sv_i ((-2))]) rfl ?_
        exact sv_iret C hr (by decide +kernel) hok20 (⟨⟨_, rfl, ⟨by omega, by omega⟩, fun _ _ => ⟨fun _ => ⟨rfl, rfl⟩, fun h => by unfold zb_ok at h; exfalso; omega⟩⟩, hI, hF⟩)

set_option maxHeartbeats 4000000 in
set_option maxRecDepth 100000 in
theorem ct_X11_begin (l : Launch) (g : sv_G) (A : Nat → Prop) (ty : Nat → Nat) (σ : Nat → Nat → Int) (hok : sv_ok ty σ) (hTA : ∀ q, ty q ≠ 0 → A q) (hI : sv_inv sp_1 ty σ) (a : Nat) (k_a : ty a = 10) (ar1 : Int) (h_ar1 : (-2147483648) ≤ ar1 ∧ ar1 ≤ 2147483647) (ar2 : Int) (h_ar2 : (-2147483648) ≤ ar2 ∧ ar2 ≤ 2147483647) (ar3 : Int) (h_ar3 : (-2147483648) ≤ ar3 ∧ ar3 ≤ 2147483647) (ar4 : Int) (h_ar4 : (-2147483648) ≤ ar4 ∧ ar4 ≤ 2147483647) (s1 : Nat) (k_s1 : ty s1 = 102) (s2 : Nat) (k_s2 : ty s2 = 103) (s3 : Nat) (k_s3 : ty s3 = 104) (s4 : Nat) (k_s4 : ty s4 = 105) (s5 : Nat) (k_s5 : ty s5 = 106) (es1 : σ a 42 = (s1 : Int) + 1) (es2 : σ a 43 = (s2 : Int) + 1) (es3 : σ a 44 = (s3 : Int) + 1) (es4 : σ a 45 = (s4 : Int) + 1) (es5 : σ a 46 = (s5 : Int) + 1) : sv_M l yX11_begin cX11_begin 5 (some .int) { frames := 2, cells := 0, slots := 0, locals := 45 } g A ty σ [sv_r a, sv_i ar1, sv_i ar2, sv_i ar3, sv_i ar4] (fun r σ' => (∃ rv : Int, r = [sv_i rv] ∧ ((-2) ≤ rv ∧ rv ≤ 1) ∧ ((-2147483648) ≤ rv → rv ≤ 2147483647 → zm_begin σ σ' s1 s2 s3 s4 s5 ar1 ar2 ar3 ar4 rv)) ∧ sv_inv sp_1 ty σ' ∧ sv_ofx [] [102, 103, 104, 105, 106] ty σ σ') := by
  refine sv_enter (by decide) (Nat.le_of_ble_eq_true rfl) ?_
  intro p e s m args below meth c C hr
  have C : sv_C g A RX11 cX11_begin 5 p s m args meth c := C
  have hr : meth.sig.returnType = (some .int) := hr
  have hF : sv_ofx [] [102, 103, 104, 105, 106] ty σ σ := sv_ofx.rf
  refine sv_same (st2 := []) (lv2 := [(0, sv_r a), (1, sv_i ar1), (2, sv_i ar2), (3, sv_i ar3), (4, sv_i ar4)]) rfl rfl ?_
  refine sv_go C.1 C.2.1 [(.iload_n 1, 1)] (pc' := 1) (by decide +kernel) rfl (lv' := [(0, sv_r a), (1, sv_i ar1), (2, sv_i ar2), (3, sv_i ar3), (4, sv_i ar4)]) (st' := [sv_i ar1]) rfl ?_
  refine sv_cs C (index := 345) (k := 1) (rest := []) (by decide +kernel) (sf2_X11_isWalk l g A ty σ hok hTA hI (ar1) ⟨by omega, by omega⟩) ⟨co_X11_isWalk, in_X11, ⟨by decide, by decide, by decide +kernel⟩, Nat.le_of_ble_eq_true rfl, Nat.le_of_ble_eq_true rfl⟩ ml_X11_345 st_X11_isWalk rfl rfl (Nat.le_of_ble_eq_true rfl) ⟨Nat.zero_le _, Nat.zero_le _⟩ (fun r2 σ3 hpo1 hok4 => ?_)
  obtain ⟨rfl, ⟨vu5, rfl, hvu5, ivu5_0, ivu5_1⟩⟩ := hpo1
  refine sv_same (st2 := [sv_i vu5]) (lv2 := [(0, sv_r a), (1, sv_i ar1), (2, sv_i ar2), (3, sv_i ar3), (4, sv_i ar4)]) rfl rfl ?_
  refine sv_if C.1 C.2.1 (cnd := .eq) (off := 35) (tgt := 39) (by decide +kernel) (by decide) ⟨by omega, by omega⟩ (fun (h6 : vu5 = 0) => ?_) (fun (h6 : ¬ (vu5 = 0)) => ?_)
  · have hp7 := ivu5_1 (by omega) (by omega)
    refine sv_go C.1 C.2.1 [(.bipush (-2), 2)] (pc' := 41) (by decide +kernel) rfl (lv' := [(0, sv_r a), (1, sv_i ar1), (2, sv_i ar2), (3, sv_i ar3), (4, sv_i ar4)]) (st' := [sv_i ((-2))]) rfl ?_
    exact sv_iret C hr (by decide +kernel) hok4 (⟨⟨_, rfl, ⟨by omega, by omega⟩, fun _ _ => ⟨fun _ => ⟨rfl, rfl⟩, fun h => by unfold zb_ok at h; exfalso; omega⟩⟩, hI, hF⟩)
  · have hp8 := ivu5_0 (by omega) (by omega)
    refine sv_go C.1 C.2.1 [(.iload_n 2, 1)] (pc' := 8) (by decide +kernel) rfl (lv' := [(0, sv_r a), (1, sv_i ar1), (2, sv_i ar2), (3, sv_i ar3), (4, sv_i ar4)]) (st' := [sv_i ar2]) rfl ?_
    refine sv_cs C (index := 338) (k := 1) (rest := []) (by decide +kernel) (sf2_X11_isCorner l g A ty σ hok4 hTA hI (ar2) ⟨by omega, by omega⟩) ⟨co_X11_isCorner, in_X11, ⟨by decide, by decide, by decide +kernel⟩, Nat.le_of_ble_eq_true rfl, Nat.le_of_ble_eq_true rfl⟩ ml_X11_338 st_X11_isCorner rfl rfl (Nat.le_of_ble_eq_true rfl) ⟨Nat.zero_le _, Nat.zero_le _⟩ (fun r10 σ11 hpo9 hok12 => ?_)
    obtain ⟨rfl, ⟨vu13, rfl, hvu13, ivu13_0, ivu13_1⟩⟩ := hpo9
    refine sv_same (st2 := [sv_i vu13]) (lv2 := [(0, sv_r a), (1, sv_i ar1), (2, sv_i ar2), (3, sv_i ar3), (4, sv_i ar4)]) rfl rfl ?_
    refine sv_if C.1 C.2.1 (cnd := .eq) (off := 28) (tgt := 39) (by decide +kernel) (by decide) ⟨by omega, by omega⟩ (fun (h14 : vu13 = 0) => ?_) (fun (h14 : ¬ (vu13 = 0)) => ?_)
    · have hp15 := ivu13_1 (by omega) (by omega)
      refine sv_go C.1 C.2.1 [(.bipush (-2), 2)] (pc' := 41) (by decide +kernel) rfl (lv' := [(0, sv_r a), (1, sv_i ar1), (2, sv_i ar2), (3, sv_i ar3), (4, sv_i ar4)]) (st' := [sv_i ((-2))]) rfl ?_
      exact sv_iret C hr (by decide +kernel) hok12 (⟨⟨_, rfl, ⟨by omega, by omega⟩, fun _ _ => ⟨fun _ => ⟨rfl, rfl⟩, fun h => by unfold zb_ok at h; exfalso; omega⟩⟩, hI, hF⟩)
    · have hp16 := ivu13_0 (by omega) (by omega)
      refine sv_go C.1 C.2.1 [(.iload_n 3, 1)] (pc' := 15) (by decide +kernel) rfl (lv' := [(0, sv_r a), (1, sv_i ar1), (2, sv_i ar2), (3, sv_i ar3), (4, sv_i ar4)]) (st' := [sv_i ar3]) rfl ?_
      refine sv_i2l C.1 C.2.1 (by decide +kernel) ⟨by omega, by omega⟩ ?_
      refine sv_go C.1 C.2.1 [(.lconst 0, 1)] (pc' := 17) (by decide +kernel) rfl (lv' := [(0, sv_r a), (1, sv_i ar1), (2, sv_i ar2), (3, sv_i ar3), (4, sv_i ar4)]) (st' := [sv_l 0, sv_l ar3]) rfl ?_
      refine sv_ldc2 C (index := 348) (z := 1440) (by decide +kernel) cl_X11_348 (by decide) ?_
      refine sv_cs C (index := 9) (k := 3) (rest := []) (by decide +kernel) (ct_X11_in l g A ty σ hok12 (ar3) ⟨by omega, by omega⟩ (0) ⟨by omega, by omega⟩ (1440) ⟨by omega, by omega⟩) ⟨co_X11_in, in_X11, ⟨by decide, by decide, by decide +kernel⟩, Nat.le_of_ble_eq_true rfl, Nat.le_of_ble_eq_true rfl⟩ ml_X11_9 st_X11_in rfl rfl (Nat.le_of_ble_eq_true rfl) ⟨Nat.zero_le _, Nat.zero_le _⟩ (fun r18 σ19 hpo17 hok20 => ?_)
      obtain ⟨rfl, ⟨h21, rfl⟩ | ⟨h21, rfl⟩⟩ := hpo17
      · refine sv_same (st2 := [sv_i 1]) (lv2 := [(0, sv_r a), (1, sv_i ar1), (2, sv_i ar2), (3, sv_i ar3), (4, sv_i ar4)]) rfl rfl ?_
        refine sv_if_f C.1 C.2.1 (cnd := .eq) (off := 16) (tgt := 39) (by decide +kernel) (by decide) ⟨by omega, by omega⟩ (show ¬ (1 = 0) by omega) ?_
        refine sv_go C.1 C.2.1 [(.iload 4, 2)] (pc' := 28) (by decide +kernel) rfl (lv' := [(0, sv_r a), (1, sv_i ar1), (2, sv_i ar2), (3, sv_i ar3), (4, sv_i ar4)]) (st' := [sv_i ar4]) rfl ?_
        refine sv_i2l C.1 C.2.1 (by decide +kernel) ⟨by omega, by omega⟩ ?_
        refine sv_go C.1 C.2.1 [(.lconst 0, 1)] (pc' := 30) (by decide +kernel) rfl (lv' := [(0, sv_r a), (1, sv_i ar1), (2, sv_i ar2), (3, sv_i ar3), (4, sv_i ar4)]) (st' := [sv_l 0, sv_l ar4]) rfl ?_
        refine sv_ldc2 C (index := 350) (z := 30) (by decide +kernel) cl_X11_350 (by decide) ?_
        refine sv_cs C (index := 9) (k := 3) (rest := []) (by decide +kernel) (ct_X11_in l g A ty σ hok20 (ar4) ⟨by omega, by omega⟩ (0) ⟨by omega, by omega⟩ (30) ⟨by omega, by omega⟩) ⟨co_X11_in, in_X11, ⟨by decide, by decide, by decide +kernel⟩, Nat.le_of_ble_eq_true rfl, Nat.le_of_ble_eq_true rfl⟩ ml_X11_9 st_X11_in rfl rfl (Nat.le_of_ble_eq_true rfl) ⟨Nat.zero_le _, Nat.zero_le _⟩ (fun r23 σ24 hpo22 hok25 => ?_)
        obtain ⟨rfl, ⟨h26, rfl⟩ | ⟨h26, rfl⟩⟩ := hpo22
        · refine sv_same (st2 := [sv_i 1]) (lv2 := [(0, sv_r a), (1, sv_i ar1), (2, sv_i ar2), (3, sv_i ar3), (4, sv_i ar4)]) rfl rfl ?_
          refine sv_if_t C.1 C.2.1 (cnd := .ne) (off := 6) (tgt := 42) (by decide +kernel) (by decide) ⟨by omega, by omega⟩ (show 1 ≠ 0 by omega) ?_
          refine sv_go C.1 C.2.1 [(.aload_n 0, 1)] (pc' := 43) (by decide +kernel) rfl (lv' := [(0, sv_r a), (1, sv_i ar1), (2, sv_i ar2), (3, sv_i ar3), (4, sv_i ar4)]) (st' := [sv_r a]) rfl ?_
          refine sv_gf C (index := 151) (ci := 10) (k := 42) (r := (RX11, TX11, 47)) (v := sv_r s1) (by decide +kernel) (by rw [k_a]; rfl) rfl (by decide) fl_X11_151 (congrArg sv_a es1) ?_
          refine sv_go C.1 C.2.1 [(.iload_n 1, 1), (.iconst 1, 1)] (pc' := 48) (by decide +kernel) rfl (lv' := [(0, sv_r a), (1, sv_i ar1), (2, sv_i ar2), (3, sv_i ar3), (4, sv_i ar4)]) (st' := [sv_i 1, sv_i ar1, sv_r s1]) rfl ?_
          refine sv_is C (n := 12) (by decide +kernel) (by rw [k_s1]; rfl) (by decide) (by omega) (by omega) ⟨by omega, by omega⟩ (hTA _ (by rw [k_s1]; decide)) hok25 (fun hok27 => ?_)
          have hI29 := hI.up (a := s1) (k := (ar1 : Int).toNat) (z := 1) (by rw [k_s1]; exact ⟨by omega, by omega⟩)
          have hF30 := hF.up (a := s1) (k := (ar1 : Int).toNat) (z := 1) (Or.inl (by rw [k_s1]; decide))
          generalize eσ28 : sv_up σ s1 (ar1 : Int).toNat 1 = σ28 at hok27 hI29 hF30 ⊢
          have t31 : σ28 a 42 = (s1 : Int) + 1 := by rw [← eσ28, sv_up_a (sv_ne k_a k_s1 (by decide))]; exact es1
          have t32 : σ28 a 43 = (s2 : Int) + 1 := by rw [← eσ28, sv_up_a (sv_ne k_a k_s1 (by decide))]; exact es2
          have t33 : σ28 a 44 = (s3 : Int) + 1 := by rw [← eσ28, sv_up_a (sv_ne k_a k_s1 (by decide))]; exact es3
          have t34 : σ28 a 45 = (s4 : Int) + 1 := by rw [← eσ28, sv_up_a (sv_ne k_a k_s1 (by decide))]; exact es4
          have t35 : σ28 a 46 = (s5 : Int) + 1 := by rw [← eσ28, sv_up_a (sv_ne k_a k_s1 (by decide))]; exact es5
          have t36 : σ28 s1 (ar1 : Int).toNat = 1 := by rw [← eσ28]; exact sv_up_s _ _ _ _
          refine sv_go C.1 C.2.1 [(.aload_n 0, 1)] (pc' := 50) (by decide +kernel) rfl (lv' := [(0, sv_r a), (1, sv_i ar1), (2, sv_i ar2), (3, sv_i ar3), (4, sv_i ar4)]) (st' := [sv_r a]) rfl ?_
          refine sv_gf C (index := 154) (ci := 10) (k := 43) (r := (RX11, TX11, 47)) (v := sv_r s2) (by decide +kernel) (by rw [k_a]; rfl) rfl (by decide) fl_X11_154 (congrArg sv_a t32) ?_
          refine sv_go C.1 C.2.1 [(.iload_n 1, 1), (.iload_n 3, 1)] (pc' := 55) (by decide +kernel) rfl (lv' := [(0, sv_r a), (1, sv_i ar1), (2, sv_i ar2), (3, sv_i ar3), (4, sv_i ar4)]) (st' := [sv_i ar3, sv_i ar1, sv_r s2]) rfl ?_
          refine sv_is C (n := 12) (by decide +kernel) (by rw [k_s2]; rfl) (by decide) (by omega) (by omega) ⟨by omega, by omega⟩ (hTA _ (by rw [k_s2]; decide)) hok27 (fun hok37 => ?_)
          have hI39 := hI29.up (a := s2) (k := (ar1 : Int).toNat) (z := ar3) (by rw [k_s2]; exact ⟨by omega, by omega⟩)
          have hF40 := hF30.up (a := s2) (k := (ar1 : Int).toNat) (z := ar3) (Or.inl (by rw [k_s2]; decide))
          generalize eσ38 : sv_up σ28 s2 (ar1 : Int).toNat ar3 = σ38 at hok37 hI39 hF40 ⊢
          have t41 : σ38 a 42 = (s1 : Int) + 1 := by rw [← eσ38, sv_up_a (sv_ne k_a k_s2 (by decide))]; exact t31
          have t42 : σ38 a 43 = (s2 : Int) + 1 := by rw [← eσ38, sv_up_a (sv_ne k_a k_s2 (by decide))]; exact t32
          have t43 : σ38 a 44 = (s3 : Int) + 1 := by rw [← eσ38, sv_up_a (sv_ne k_a k_s2 (by decide))]; exact t33
          have t44 : σ38 a 45 = (s4 : Int) + 1 := by rw [← eσ38, sv_up_a (sv_ne k_a k_s2 (by decide))]; exact t34
          have t45 : σ38 a 46 = (s5 : Int) + 1 := by rw [← eσ38, sv_up_a (sv_ne k_a k_s2 (by decide))]; exact t35
          have t46 : σ38 s1 (ar1 : Int).toNat = 1 := by rw [← eσ38, sv_up_a (sv_ne k_s1 k_s2 (by decide))]; exact t36
          have t47 : σ38 s2 (ar1 : Int).toNat = ar3 := by rw [← eσ38]; exact sv_up_s _ _ _ _
          refine sv_go C.1 C.2.1 [(.aload_n 0, 1)] (pc' := 57) (by decide +kernel) rfl (lv' := [(0, sv_r a), (1, sv_i ar1), (2, sv_i ar2), (3, sv_i ar3), (4, sv_i ar4)]) (st' := [sv_r a]) rfl ?_
          refine sv_gf C (index := 157) (ci := 10) (k := 44) (r := (RX11, TX11, 47)) (v := sv_r s3) (by decide +kernel) (by rw [k_a]; rfl) rfl (by decide) fl_X11_157 (congrArg sv_a t43) ?_
          refine sv_go C.1 C.2.1 [(.iload_n 1, 1), (.iload 4, 2)] (pc' := 63) (by decide +kernel) rfl (lv' := [(0, sv_r a), (1, sv_i ar1), (2, sv_i ar2), (3, sv_i ar3), (4, sv_i ar4)]) (st' := [sv_i ar4, sv_i ar1, sv_r s3]) rfl ?_
          refine sv_is C (n := 12) (by decide +kernel) (by rw [k_s3]; rfl) (by decide) (by omega) (by omega) ⟨by omega, by omega⟩ (hTA _ (by rw [k_s3]; decide)) hok37 (fun hok48 => ?_)
          have hI50 := hI39.up (a := s3) (k := (ar1 : Int).toNat) (z := ar4) (by rw [k_s3]; exact ⟨by omega, by omega⟩)
          have hF51 := hF40.up (a := s3) (k := (ar1 : Int).toNat) (z := ar4) (Or.inl (by rw [k_s3]; decide))
          generalize eσ49 : sv_up σ38 s3 (ar1 : Int).toNat ar4 = σ49 at hok48 hI50 hF51 ⊢
          have t52 : σ49 a 42 = (s1 : Int) + 1 := by rw [← eσ49, sv_up_a (sv_ne k_a k_s3 (by decide))]; exact t41
          have t53 : σ49 a 43 = (s2 : Int) + 1 := by rw [← eσ49, sv_up_a (sv_ne k_a k_s3 (by decide))]; exact t42
          have t54 : σ49 a 44 = (s3 : Int) + 1 := by rw [← eσ49, sv_up_a (sv_ne k_a k_s3 (by decide))]; exact t43
          have t55 : σ49 a 45 = (s4 : Int) + 1 := by rw [← eσ49, sv_up_a (sv_ne k_a k_s3 (by decide))]; exact t44
          have t56 : σ49 a 46 = (s5 : Int) + 1 := by rw [← eσ49, sv_up_a (sv_ne k_a k_s3 (by decide))]; exact t45
          have t57 : σ49 s1 (ar1 : Int).toNat = 1 := by rw [← eσ49, sv_up_a (sv_ne k_s1 k_s3 (by decide))]; exact t46
          have t58 : σ49 s2 (ar1 : Int).toNat = ar3 := by rw [← eσ49, sv_up_a (sv_ne k_s2 k_s3 (by decide))]; exact t47
          have t59 : σ49 s3 (ar1 : Int).toNat = ar4 := by rw [← eσ49]; exact sv_up_s _ _ _ _
          refine sv_go C.1 C.2.1 [(.aload_n 0, 1)] (pc' := 65) (by decide +kernel) rfl (lv' := [(0, sv_r a), (1, sv_i ar1), (2, sv_i ar2), (3, sv_i ar3), (4, sv_i ar4)]) (st' := [sv_r a]) rfl ?_
          refine sv_gf C (index := 160) (ci := 10) (k := 45) (r := (RX11, TX11, 47)) (v := sv_r s4) (by decide +kernel) (by rw [k_a]; rfl) rfl (by decide) fl_X11_160 (congrArg sv_a t55) ?_
          refine sv_go C.1 C.2.1 [(.bipush 12, 2), (.iload_n 1, 1), (.imul, 1), (.iload_n 2, 1)] (pc' := 73) (by decide +kernel) rfl (lv' := [(0, sv_r a), (1, sv_i ar1), (2, sv_i ar2), (3, sv_i ar3), (4, sv_i ar4)]) (st' := [sv_i ar2, sv_i (12 * ar1), sv_r s4]) rfl ?_
          refine sv_is C (n := 144) (by decide +kernel) (by rw [k_s4]; rfl) (by decide) (by omega) (by omega) ⟨by omega, by omega⟩ (hTA _ (by rw [k_s4]; decide)) hok48 (fun hok60 => ?_)
          have hI62 := hI50.up (a := s4) (k := (12 * ar1 : Int).toNat) (z := ar2) (by rw [k_s4]; exact ⟨by omega, by omega⟩)
          have hF63 := hF51.up (a := s4) (k := (12 * ar1 : Int).toNat) (z := ar2) (Or.inl (by rw [k_s4]; decide))
          generalize eσ61 : sv_up σ49 s4 (12 * ar1 : Int).toNat ar2 = σ61 at hok60 hI62 hF63 ⊢
          have t64 : σ61 a 42 = (s1 : Int) + 1 := by rw [← eσ61, sv_up_a (sv_ne k_a k_s4 (by decide))]; exact t52
          have t65 : σ61 a 43 = (s2 : Int) + 1 := by rw [← eσ61, sv_up_a (sv_ne k_a k_s4 (by decide))]; exact t53
          have t66 : σ61 a 44 = (s3 : Int) + 1 := by rw [← eσ61, sv_up_a (sv_ne k_a k_s4 (by decide))]; exact t54
          have t67 : σ61 a 45 = (s4 : Int) + 1 := by rw [← eσ61, sv_up_a (sv_ne k_a k_s4 (by decide))]; exact t55
          have t68 : σ61 a 46 = (s5 : Int) + 1 := by rw [← eσ61, sv_up_a (sv_ne k_a k_s4 (by decide))]; exact t56
          have t69 : σ61 s1 (ar1 : Int).toNat = 1 := by rw [← eσ61, sv_up_a (sv_ne k_s1 k_s4 (by decide))]; exact t57
          have t70 : σ61 s2 (ar1 : Int).toNat = ar3 := by rw [← eσ61, sv_up_a (sv_ne k_s2 k_s4 (by decide))]; exact t58
          have t71 : σ61 s3 (ar1 : Int).toNat = ar4 := by rw [← eσ61, sv_up_a (sv_ne k_s3 k_s4 (by decide))]; exact t59
          have t72 : σ61 s4 (12 * ar1 : Int).toNat = ar2 := by rw [← eσ61]; exact sv_up_s _ _ _ _
          refine sv_go C.1 C.2.1 [(.aload_n 0, 1)] (pc' := 75) (by decide +kernel) rfl (lv' := [(0, sv_r a), (1, sv_i ar1), (2, sv_i ar2), (3, sv_i ar3), (4, sv_i ar4)]) (st' := [sv_r a]) rfl ?_
          refine sv_gf C (index := 163) (ci := 10) (k := 46) (r := (RX11, TX11, 47)) (v := sv_r s5) (by decide +kernel) (by rw [k_a]; rfl) rfl (by decide) fl_X11_163 (congrArg sv_a t68) ?_
          refine sv_go C.1 C.2.1 [(.bipush 12, 2), (.iload_n 1, 1), (.imul, 1), (.iconst 0, 1)] (pc' := 83) (by decide +kernel) rfl (lv' := [(0, sv_r a), (1, sv_i ar1), (2, sv_i ar2), (3, sv_i ar3), (4, sv_i ar4)]) (st' := [sv_i 0, sv_i (12 * ar1), sv_r s5]) rfl ?_
          refine sv_is C (n := 144) (by decide +kernel) (by rw [k_s5]; rfl) (by decide) (by omega) (by omega) ⟨by omega, by omega⟩ (hTA _ (by rw [k_s5]; decide)) hok60 (fun hok73 => ?_)
          have hI75 := hI62.up (a := s5) (k := (12 * ar1 : Int).toNat) (z := 0) (by rw [k_s5]; exact trivial)
          have hF76 := hF63.up (a := s5) (k := (12 * ar1 : Int).toNat) (z := 0) (Or.inl (by rw [k_s5]; decide))
          generalize eσ74 : sv_up σ61 s5 (12 * ar1 : Int).toNat 0 = σ74 at hok73 hI75 hF76 ⊢
          have t77 : σ74 a 42 = (s1 : Int) + 1 := by rw [← eσ74, sv_up_a (sv_ne k_a k_s5 (by decide))]; exact t64
          have t78 : σ74 a 43 = (s2 : Int) + 1 := by rw [← eσ74, sv_up_a (sv_ne k_a k_s5 (by decide))]; exact t65
          have t79 : σ74 a 44 = (s3 : Int) + 1 := by rw [← eσ74, sv_up_a (sv_ne k_a k_s5 (by decide))]; exact t66
          have t80 : σ74 a 45 = (s4 : Int) + 1 := by rw [← eσ74, sv_up_a (sv_ne k_a k_s5 (by decide))]; exact t67
          have t81 : σ74 a 46 = (s5 : Int) + 1 := by rw [← eσ74, sv_up_a (sv_ne k_a k_s5 (by decide))]; exact t68
          have t82 : σ74 s1 (ar1 : Int).toNat = 1 := by rw [← eσ74, sv_up_a (sv_ne k_s1 k_s5 (by decide))]; exact t69
          have t83 : σ74 s2 (ar1 : Int).toNat = ar3 := by rw [← eσ74, sv_up_a (sv_ne k_s2 k_s5 (by decide))]; exact t70
          have t84 : σ74 s3 (ar1 : Int).toNat = ar4 := by rw [← eσ74, sv_up_a (sv_ne k_s3 k_s5 (by decide))]; exact t71
          have t85 : σ74 s4 (12 * ar1 : Int).toNat = ar2 := by rw [← eσ74, sv_up_a (sv_ne k_s4 k_s5 (by decide))]; exact t72
          have t86 : σ74 s5 (12 * ar1 : Int).toNat = 0 := by rw [← eσ74]; exact sv_up_s _ _ _ _
          refine sv_go C.1 C.2.1 [(.iconst 1, 1)] (pc' := 85) (by decide +kernel) rfl (lv' := [(0, sv_r a), (1, sv_i ar1), (2, sv_i ar2), (3, sv_i ar3), (4, sv_i ar4)]) (st' := [sv_i 1]) rfl ?_
          exact sv_iret C hr (by decide +kernel) hok73 (⟨⟨_, rfl, ⟨by omega, by omega⟩, fun _ _ => ⟨fun h => absurd (by unfold zb_ok; omega) h, fun _ => ⟨rfl, by rw [← eσ74, ← eσ61, ← eσ49, ← eσ38, ← eσ28] <;> rfl⟩⟩⟩, hI75, hF76⟩)
        · refine sv_same (st2 := [sv_i 0]) (lv2 := [(0, sv_r a), (1, sv_i ar1), (2, sv_i ar2), (3, sv_i ar3), (4, sv_i ar4)]) rfl rfl ?_
          refine sv_if_f C.1 C.2.1 (cnd := .ne) (off := 6) (tgt := 42) (by decide +kernel) (by decide) ⟨by omega, by omega⟩ (show ¬ (0 ≠ 0) by omega) ?_
          refine sv_go C.1 C.2.1 [(.bipush (-2), 2)] (pc' := 41) (by decide +kernel) rfl (lv' := [(0, sv_r a), (1, sv_i ar1), (2, sv_i ar2), (3, sv_i ar3), (4, sv_i ar4)]) (st' := [sv_i ((-2))]) rfl ?_
          exact sv_iret C hr (by decide +kernel) hok25 (⟨⟨_, rfl, ⟨by omega, by omega⟩, fun _ _ => ⟨fun _ => ⟨rfl, rfl⟩, fun h => by unfold zb_ok at h; exfalso; omega⟩⟩, hI, hF⟩)
      · refine sv_same (st2 := [sv_i 0]) (lv2 := [(0, sv_r a), (1, sv_i ar1), (2, sv_i ar2), (3, sv_i ar3), (4, sv_i ar4)]) rfl rfl ?_
        refine sv_if_t C.1 C.2.1 (cnd := .eq) (off := 16) (tgt := 39) (by decide +kernel) (by decide) ⟨by omega, by omega⟩ (show 0 = 0 by omega) ?_
        refine sv_go C.1 C.2.1 [(.bipush (-2), 2)] (pc' := 41) (by decide +kernel) rfl (lv' := [(0, sv_r a), (1, sv_i ar1), (2, sv_i ar2), (3, sv_i ar3), (4, sv_i ar4)]) (st' := [sv_i ((-2))]) rfl ?_
        exact sv_iret C hr (by decide +kernel) hok20 (⟨⟨_, rfl, ⟨by omega, by omega⟩, fun _ _ => ⟨fun _ => ⟨rfl, rfl⟩, fun h => by unfold zb_ok at h; exfalso; omega⟩⟩, hI, hF⟩)

set_option maxHeartbeats 4000000 in
set_option maxRecDepth 100000 in
theorem ct_X9_goes (l : Launch) (g : sv_G) (A : Nat → Prop) (ty : Nat → Nat) (σ : Nat → Nat → Int) (hok : sv_ok ty σ) (hTA : ∀ q, ty q ≠ 0 → A q) (hI : sv_inv sp_1 ty σ) (a : Nat) (k_a : ty a = 1) (ar1 : Int) (h_ar1 : (-2147483648) ≤ ar1 ∧ ar1 ≤ 2147483647) (ar2 : Int) (h_ar2 : (-2147483648) ≤ ar2 ∧ ar2 ≤ 2147483647) (tq : Nat) (k_tq : ty tq = 6) (bq : Nat) (k_bq : ty bq = 37) (mq : Nat) (k_mq : ty mq = 38) (et : σ a 4 = (tq : Int) + 1) (eb : σ tq 0 = (bq : Int) + 1) (em : σ tq 2 = (mq : Int) + 1) : sv_M l yX9_goes cX9_goes 5 (some .int) { frames := 2, cells := 0, slots := 0, locals := 42 } g A ty σ [sv_r a, sv_i ar1, sv_i ar2] (fun r σ' => (∃ rv : Int, r = [sv_i rv] ∧ ((-3) ≤ rv ∧ rv ≤ 12) ∧ ((-2147483648) ≤ rv → rv ≤ 2147483647 → zc_goes σ σ' bq mq ar1 ar2 rv)) ∧ sv_inv sp_1 ty σ' ∧ sv_ofx [(9, 0)] [40, 41] ty σ σ') := by
  refine sv_enter (by decide) (Nat.le_of_ble_eq_true rfl) ?_
  intro p e s m args below meth c C hr
  have C : sv_C g A RX9 cX9_goes 5 p s m args meth c := C
  have hr : meth.sig.returnType = (some .int) := hr
  have hF : sv_ofx [(9, 0)] [40, 41] ty σ σ := sv_ofx.rf
  refine sv_same (st2 := []) (lv2 := [(0, sv_r a), (1, sv_i ar1), (2, sv_i ar2)]) rfl rfl ?_
  refine sv_go C.1 C.2.1 [(.aload_n 0, 1), (.iload_n 1, 1), (.iconst 1, 1)] (pc' := 3) (by decide +kernel) rfl (lv' := [(0, sv_r a), (1, sv_i ar1), (2, sv_i ar2)]) (st' := [sv_i 1, sv_i ar1, sv_r a]) rfl ?_
  refine sv_cv C (index := 200) (k := 2) (rest := []) (ci := 8) (r := (RX9, TX9, 6)) (by decide +kernel) (ct_X9_isLong l g A ty σ hok hTA hI a k_a (ar1) ⟨by omega, by omega⟩ (1) ⟨by omega, by omega⟩ tq k_tq bq k_bq et eb) ⟨co_X9_isLong, in_X9, ⟨by decide, by decide, by decide +kernel⟩, Nat.le_of_ble_eq_true rfl, Nat.le_of_ble_eq_true rfl⟩ ml_X9_200 im_X9_isLong se_X9_isLong (by rw [k_a]; rfl) rfl rfl rfl (Nat.le_of_ble_eq_true rfl) ⟨Nat.zero_le _, Nat.zero_le _⟩ (fun r2 σ3 hpo1 hok4 => ?_)
  obtain ⟨rfl, ⟨vu5, rfl, hvu5, ivu5_0, ivu5_1⟩⟩ := hpo1
  refine sv_same (st2 := [sv_i vu5]) (lv2 := [(0, sv_r a), (1, sv_i ar1), (2, sv_i ar2)]) rfl rfl ?_
  refine sv_if C.1 C.2.1 (cnd := .eq) (off := 10) (tgt := 16) (by decide +kernel) (by decide) ⟨by omega, by omega⟩ (fun (h6 : vu5 = 0) => ?_) (fun (h6 : ¬ (vu5 = 0)) => ?_)
  · have hp7 := ivu5_1 (by omega) (by omega)
    refine sv_go C.1 C.2.1 [(.bipush (-2), 2)] (pc' := 18) (by decide +kernel) rfl (lv' := [(0, sv_r a), (1, sv_i ar1), (2, sv_i ar2)]) (st' := [sv_i ((-2))]) rfl ?_
    exact sv_iret C hr (by decide +kernel) hok4 (⟨⟨_, rfl, ⟨by omega, by omega⟩, fun _ _ => ⟨fun _ => ⟨rfl, rfl⟩, fun P c r z m hk q1 q2 q3 q4 q5 => by have hz := hp7 hk P q1; exact ⟨fun _ => ⟨rfl, rfl⟩, fun h1 h2 h3 => by exfalso; omega, fun h1 h2 h3 => by exfalso; omega, fun h1 h2 h3 h4 => by exfalso; omega⟩⟩⟩, hI, hF⟩)
  · have hp8 := ivu5_0 (by omega) (by omega)
    refine sv_go C.1 C.2.1 [(.iload_n 2, 1)] (pc' := 10) (by decide +kernel) rfl (lv' := [(0, sv_r a), (1, sv_i ar1), (2, sv_i ar2)]) (st' := [sv_i ar2]) rfl ?_
    refine sv_cs C (index := 177) (k := 1) (rest := []) (by decide +kernel) (sf2_X9_isCorner l g A ty σ hok4 hTA hI (ar2) ⟨by omega, by omega⟩) ⟨co_X9_isCorner, in_X9, ⟨by decide, by decide, by decide +kernel⟩, Nat.le_of_ble_eq_true rfl, Nat.le_of_ble_eq_true rfl⟩ ml_X9_177 st_X9_isCorner rfl rfl (Nat.le_of_ble_eq_true rfl) ⟨Nat.zero_le _, Nat.zero_le _⟩ (fun r10 σ11 hpo9 hok12 => ?_)
    obtain ⟨rfl, ⟨vu13, rfl, hvu13, ivu13_0, ivu13_1⟩⟩ := hpo9
    refine sv_same (st2 := [sv_i vu13]) (lv2 := [(0, sv_r a), (1, sv_i ar1), (2, sv_i ar2)]) rfl rfl ?_
    refine sv_if C.1 C.2.1 (cnd := .ne) (off := 6) (tgt := 19) (by decide +kernel) (by decide) ⟨by omega, by omega⟩ (fun (h14 : vu13 ≠ 0) => ?_) (fun (h14 : ¬ (vu13 ≠ 0)) => ?_)
    · have hp15 := ivu13_0 (by omega) (by omega)
      refine sv_go C.1 C.2.1 [(.aload_n 0, 1)] (pc' := 20) (by decide +kernel) rfl (lv' := [(0, sv_r a), (1, sv_i ar1), (2, sv_i ar2)]) (st' := [sv_r a]) rfl ?_
      refine sv_gf C (index := 40) (ci := 8) (k := 4) (r := (RX9, TX9, 6)) (v := sv_r tq) (by decide +kernel) (by rw [k_a]; rfl) rfl (by decide) fl_X9_40 (congrArg sv_a et) ?_
      refine sv_gf C (index := 190) (ci := 7) (k := 0) (r := (RX8, TX8, 4)) (v := sv_r bq) (by decide +kernel) (by rw [k_tq]; rfl) rfl (by decide) fl_X9_190 (congrArg sv_a eb) ?_
      refine sv_go C.1 C.2.1 [(.iload_n 1, 1)] (pc' := 27) (by decide +kernel) rfl (lv' := [(0, sv_r a), (1, sv_i ar1), (2, sv_i ar2)]) (st' := [sv_i ar1, sv_r bq]) rfl ?_
      refine sv_aa C (N := "SaintsRoad$Procession") (by decide) (n := 12) (by decide +kernel) (by rw [k_bq]; rfl) (by decide) (by omega) (by omega) ?_
      obtain ⟨v16, ev16, kv16⟩ := hI.ref (k := (ar1 : Int).toNat) k_bq (by first | rfl | (show (if _ then _ else _) = _; rw [if_pos (by omega)]))
      rw [ev16]
      refine sv_go C.1 C.2.1 [(.astore_n 3, 1), (.aload_n 0, 1)] (pc' := 30) (by decide +kernel) rfl (lv' := [(0, sv_r a), (1, sv_i ar1), (2, sv_i ar2), (3, sv_r v16)]) (st' := [sv_r a]) rfl ?_
      refine sv_gf C (index := 40) (ci := 8) (k := 4) (r := (RX9, TX9, 6)) (v := sv_r tq) (by decide +kernel) (by rw [k_a]; rfl) rfl (by decide) fl_X9_40 (congrArg sv_a et) ?_
      refine sv_go C.1 C.2.1 [(.aload_n 3, 1)] (pc' := 34) (by decide +kernel) rfl (lv' := [(0, sv_r a), (1, sv_i ar1), (2, sv_i ar2), (3, sv_r v16)]) (st' := [sv_r v16, sv_r tq]) rfl ?_
      obtain ⟨gn17, egn17, hgn17⟩ := sv_rdn hI (k := 0) kv16 rfl
      obtain ⟨gq18, egq18, kgq18⟩ := hI.ref (k := 2) kv16 rfl
      obtain ⟨gq19, egq19, kgq19⟩ := hI.ref (k := 3) kv16 rfl
      have hz1 := (hp8).2 v16 ev16
      refine sv_cv C (index := 203) (k := 0) (rest := [sv_r tq]) (ci := 4) (r := (RX5, TX5, 5)) (by decide +kernel) (ct_X5_lastCorner l g A ty σ hok12 hTA hI v16 kv16 (gn17) ⟨by omega, by omega⟩ gq18 kgq18 egn17 egq18) ⟨co_X5_lastCorner, in_X5, ⟨by decide, by decide, by decide +kernel⟩, Nat.le_of_ble_eq_true rfl, Nat.le_of_ble_eq_true rfl⟩ ml_X9_203 im_X5_lastCorner se_X5_lastCorner (by rw [kv16]; rfl) rfl rfl rfl (Nat.le_of_ble_eq_true rfl) ⟨Nat.zero_le _, Nat.zero_le _⟩ (fun r21 σ22 hpo20 hok23 => ?_)
      obtain ⟨rfl, ⟨vu24, rfl, hvu24, ivu24_0⟩⟩ := hpo20
      have hp25 := ivu24_0 (by omega) (by omega)
      refine sv_same (st2 := [sv_i vu24, sv_r tq]) (lv2 := [(0, sv_r a), (1, sv_i ar1), (2, sv_i ar2), (3, sv_r v16)]) rfl rfl ?_
      refine sv_go C.1 C.2.1 [(.iload_n 2, 1)] (pc' := 38) (by decide +kernel) rfl (lv' := [(0, sv_r a), (1, sv_i ar1), (2, sv_i ar2), (3, sv_r v16)]) (st' := [sv_i ar2, sv_i vu24, sv_r tq]) rfl ?_
      refine sv_cv C (index := 207) (k := 2) (rest := []) (ci := 7) (r := (RX8, TX8, 4)) (by decide +kernel) (ct_X8_minutesBetween l g A ty σ hok23 hTA hI tq k_tq (vu24) ⟨by omega, by omega⟩ (ar2) ⟨by omega, by omega⟩ mq k_mq em) ⟨co_X8_minutesBetween, in_X8, ⟨by decide, by decide, by decide +kernel⟩, Nat.le_of_ble_eq_true rfl, Nat.le_of_ble_eq_true rfl⟩ ml_X9_207 im_X8_minutesBetween se_X8_minutesBetween (by rw [k_tq]; rfl) rfl rfl rfl (Nat.le_of_ble_eq_true rfl) ⟨Nat.zero_le _, Nat.zero_le _⟩ (fun r27 σ28 hpo26 hok29 => ?_)
      obtain ⟨rfl, ⟨vu30, rfl, hvu30, ivu30_0⟩⟩ := hpo26
      have hp31 := ivu30_0 (by omega) (by omega)
      refine sv_same (st2 := [sv_i vu30]) (lv2 := [(0, sv_r a), (1, sv_i ar1), (2, sv_i ar2), (3, sv_r v16)]) rfl rfl ?_
      refine sv_go C.1 C.2.1 [(.istore 4, 2), (.iload 4, 2)] (pc' := 45) (by decide +kernel) rfl (lv' := [(0, sv_r a), (1, sv_i ar1), (2, sv_i ar2), (3, sv_r v16), (4, sv_i vu30)]) (st' := [sv_i vu30]) rfl ?_
      refine sv_if C.1 C.2.1 (cnd := .ne) (off := 5) (tgt := 50) (by decide +kernel) (by decide) ⟨by omega, by omega⟩ (fun (h32 : vu30 ≠ 0) => ?_) (fun (h32 : ¬ (vu30 ≠ 0)) => ?_)
      · refine sv_go C.1 C.2.1 [(.aload_n 3, 1), (.iload_n 2, 1), (.iload 4, 2)] (pc' := 54) (by decide +kernel) rfl (lv' := [(0, sv_r a), (1, sv_i ar1), (2, sv_i ar2), (3, sv_r v16), (4, sv_i vu30)]) (st' := [sv_i vu30, sv_i ar2, sv_r v16]) rfl ?_
        refine sv_cv C (index := 210) (k := 2) (rest := []) (ci := 4) (r := (RX5, TX5, 5)) (by decide +kernel) (ct_X5_goOn l g A ty σ hok29 hTA hI v16 kv16 (ar2) ⟨by omega, by omega⟩ (vu30) ⟨by omega, by omega⟩ (gn17) ⟨by omega, by omega⟩ gq18 kgq18 gq19 kgq19 egn17 egq18 egq19) ⟨co_X5_goOn, in_X5, ⟨by decide, by decide, by decide +kernel⟩, Nat.le_of_ble_eq_true rfl, Nat.le_of_ble_eq_true rfl⟩ ml_X9_210 im_X5_goOn se_X5_goOn (by rw [kv16]; rfl) rfl rfl rfl (Nat.le_of_ble_eq_true rfl) ⟨Nat.zero_le _, Nat.zero_le _⟩ (fun r34 σ35 hpo33 hok36 => ?_)
        obtain ⟨⟨vu37, rfl, hvu37, ivu37_0, ivu37_1⟩, hIu37, hFu37⟩ := hpo33
        have hGu37 := hF.tr hFu37 (by decide) (by decide)
        have t38 : σ35 a 4 = (tq : Int) + 1 := (hFu37.at k_a (by decide) (by decide)).trans et
        have t39 : σ35 tq 0 = (bq : Int) + 1 := (hFu37.at k_tq (by decide) (by decide)).trans eb
        have t40 : σ35 tq 2 = (mq : Int) + 1 := (hFu37.at k_tq (by decide) (by decide)).trans em
        have t41 : σ35 bq (ar1 : Int).toNat = (v16 : Int) + 1 := (hFu37.atA k_bq (by decide) (by decide)).trans ev16
        have t42 : σ35 v16 2 = (gq18 : Int) + 1 := (hFu37.at kv16 (by decide) (by decide)).trans egq18
        have t43 : σ35 v16 3 = (gq19 : Int) + 1 := (hFu37.at kv16 (by decide) (by decide)).trans egq19
        refine sv_same (st2 := [sv_i vu37]) (lv2 := [(0, sv_r a), (1, sv_i ar1), (2, sv_i ar2), (3, sv_r v16), (4, sv_i vu30)]) rfl rfl ?_
        refine sv_if C.1 C.2.1 (cnd := .eq) (off := 10) (tgt := 67) (by decide +kernel) (by decide) ⟨by omega, by omega⟩ (fun (h44 : vu37 = 0) => ?_) (fun (h44 : ¬ (vu37 = 0)) => ?_)
        · have hp45 := ivu37_1 (by omega) (by omega)
          refine sv_go C.1 C.2.1 [(.bipush (-3), 2)] (pc' := 69) (by decide +kernel) rfl (lv' := [(0, sv_r a), (1, sv_i ar1), (2, sv_i ar2), (3, sv_r v16), (4, sv_i vu30)]) (st' := [sv_i ((-3))]) rfl ?_
          exact sv_iret C hr (by decide +kernel) hok36 (⟨⟨_, rfl, ⟨by omega, by omega⟩, fun _ _ => ⟨fun h => by exfalso; omega, fun P c r z m hk q1 q2 q3 q4 q5 => by have tP : v16 = P := (by omega); subst tP; have tc : gq18 = c := (by omega); subst tc; have tr : gq19 = r := (by omega); subst tr; have tz : gn17 = z := (by omega); subst tz; have hlc := hp25 (by omega); have tm : vu30 = m := (by rw [← q5, ← hlc.1]; exact hp31 ⟨by omega, by omega⟩ ⟨by omega, by omega⟩); subst tm; have hg := hp45.1; exact ⟨fun _ => by exfalso; omega, fun h1 h2 h3 => by exfalso; omega, fun h1 h2 h3 => ⟨rfl, hp45.2⟩, fun h1 h2 h3 h4 => by exfalso; omega⟩⟩⟩, hIu37, hGu37⟩)
        · have hp46 := ivu37_0 (by omega) (by omega)
          refine sv_go C.1 C.2.1 [(.aload_n 3, 1)] (pc' := 61) (by decide +kernel) rfl (lv' := [(0, sv_r a), (1, sv_i ar1), (2, sv_i ar2), (3, sv_r v16), (4, sv_i vu30)]) (st' := [sv_r v16]) rfl ?_
          obtain ⟨v47, ev47, hv47⟩ := sv_rdn hIu37 (k := 0) kv16 rfl
          refine sv_gf C (index := 213) (ci := 4) (k := 0) (r := (RX5, TX5, 5)) (v := sv_i v47) (by decide +kernel) (by rw [kv16]; rfl) rfl (by decide) fl_X9_213 (congrArg sv_i ev47) ?_
          refine sv_goto C.1 C.2.1 (off := 5) (tgt := 69) (by decide +kernel) (by decide) ?_
          exact sv_iret C hr (by decide +kernel) hok36 (⟨⟨_, rfl, ⟨by omega, by omega⟩, fun _ _ => ⟨fun h => by exfalso; omega, fun P c r z m hk q1 q2 q3 q4 q5 => by have tP : v16 = P := (by omega); subst tP; have tc : gq18 = c := (by omega); subst tc; have tr : gq19 = r := (by omega); subst tr; have tz : gn17 = z := (by omega); subst tz; have hlc := hp25 (by omega); have tm : vu30 = m := (by rw [← q5, ← hlc.1]; exact hp31 ⟨by omega, by omega⟩ ⟨by omega, by omega⟩); subst tm; have hg := hp46.1; have hs : σ35 v16 0 = gn17 + 1 := (by rw [hp46.2]; exact sv_up_s _ _ _ _); exact ⟨fun _ => by exfalso; omega, fun h1 h2 h3 => by exfalso; omega, fun h1 h2 h3 => by exfalso; omega, fun h1 h2 h3 h4 => ⟨by omega, hp46.2⟩⟩⟩⟩, hIu37, hGu37⟩)
      · refine sv_go C.1 C.2.1 [(.iconst (-1), 1)] (pc' := 49) (by decide +kernel) rfl (lv' := [(0, sv_r a), (1, sv_i ar1), (2, sv_i ar2), (3, sv_r v16), (4, sv_i vu30)]) (st' := [sv_i ((-1))]) rfl ?_
        exact sv_iret C hr (by decide +kernel) hok29 (⟨⟨_, rfl, ⟨by omega, by omega⟩, fun _ _ => ⟨fun h => by exfalso; omega, fun P c r z m hk q1 q2 q3 q4 q5 => by have tP : v16 = P := (by omega); subst tP; have tc : gq18 = c := (by omega); subst tc; have tr : gq19 = r := (by omega); subst tr; have tz : gn17 = z := (by omega); subst tz; have hlc := hp25 (by omega); have tm : vu30 = m := (by rw [← q5, ← hlc.1]; exact hp31 ⟨by omega, by omega⟩ ⟨by omega, by omega⟩); subst tm; exact ⟨fun _ => by exfalso; omega, fun h1 h2 h3 => ⟨rfl, rfl⟩, fun h1 h2 h3 => by exfalso; omega, fun h1 h2 h3 h4 => by exfalso; omega⟩⟩⟩, hI, hF⟩)
    · have hp48 := ivu13_1 (by omega) (by omega)
      refine sv_go C.1 C.2.1 [(.bipush (-2), 2)] (pc' := 18) (by decide +kernel) rfl (lv' := [(0, sv_r a), (1, sv_i ar1), (2, sv_i ar2)]) (st' := [sv_i ((-2))]) rfl ?_
      exact sv_iret C hr (by decide +kernel) hok12 (⟨⟨_, rfl, ⟨by omega, by omega⟩, fun _ _ => ⟨fun _ => ⟨rfl, rfl⟩, fun P c r z m hk q1 q2 q3 q4 q5 => ⟨fun _ => ⟨rfl, rfl⟩, fun h1 h2 h3 => by exfalso; omega, fun h1 h2 h3 => by exfalso; omega, fun h1 h2 h3 h4 => by exfalso; omega⟩⟩⟩, hI, hF⟩)

set_option maxHeartbeats 4000000 in
set_option maxRecDepth 100000 in
theorem ct_X11_goes (l : Launch) (g : sv_G) (A : Nat → Prop) (ty : Nat → Nat) (σ : Nat → Nat → Int) (hok : sv_ok ty σ) (hTA : ∀ q, ty q ≠ 0 → A q) (hI : sv_inv sp_1 ty σ) (a : Nat) (k_a : ty a = 10) (ar1 : Int) (h_ar1 : (-2147483648) ≤ ar1 ∧ ar1 ≤ 2147483647) (ar2 : Int) (h_ar2 : (-2147483648) ≤ ar2 ∧ ar2 ≤ 2147483647) (sq : Nat) (k_sq : ty sq = 101) (s1 : Nat) (k_s1 : ty s1 = 102) (s4 : Nat) (k_s4 : ty s4 = 105) (s5 : Nat) (k_s5 : ty s5 = 106) (es0 : σ a 41 = (sq : Int) + 1) (es1 : σ a 42 = (s1 : Int) + 1) (es4 : σ a 45 = (s4 : Int) + 1) (es5 : σ a 46 = (s5 : Int) + 1) : sv_M l yX11_goes cX11_goes 5 (some .int) { frames := 2, cells := 0, slots := 0, locals := 45 } g A ty σ [sv_r a, sv_i ar1, sv_i ar2] (fun r σ' => (∃ rv : Int, r = [sv_i rv] ∧ ((-3) ≤ rv ∧ rv ≤ 12) ∧ ((-2147483648) ≤ rv → rv ≤ 2147483647 → zm_goes σ σ' sq s1 s4 s5 ar1 ar2 rv)) ∧ sv_inv sp_1 ty σ' ∧ sv_ofx [] [102, 105, 106] ty σ σ') := by
  refine sv_enter (by decide) (Nat.le_of_ble_eq_true rfl) ?_
  intro p e s m args below meth c C hr
  have C : sv_C g A RX11 cX11_goes 5 p s m args meth c := C
  have hr : meth.sig.returnType = (some .int) := hr
  have hF : sv_ofx [] [102, 105, 106] ty σ σ := sv_ofx.rf
  refine sv_same (st2 := []) (lv2 := [(0, sv_r a), (1, sv_i ar1), (2, sv_i ar2)]) rfl rfl ?_
  refine sv_go C.1 C.2.1 [(.iload_n 1, 1)] (pc' := 1) (by decide +kernel) rfl (lv' := [(0, sv_r a), (1, sv_i ar1), (2, sv_i ar2)]) (st' := [sv_i ar1]) rfl ?_
  refine sv_cs C (index := 345) (k := 1) (rest := []) (by decide +kernel) (sf2_X11_isWalk l g A ty σ hok hTA hI (ar1) ⟨by omega, by omega⟩) ⟨co_X11_isWalk, in_X11, ⟨by decide, by decide, by decide +kernel⟩, Nat.le_of_ble_eq_true rfl, Nat.le_of_ble_eq_true rfl⟩ ml_X11_345 st_X11_isWalk rfl rfl (Nat.le_of_ble_eq_true rfl) ⟨Nat.zero_le _, Nat.zero_le _⟩ (fun r2 σ3 hpo1 hok4 => ?_)
  obtain ⟨rfl, ⟨vu5, rfl, hvu5, ivu5_0, ivu5_1⟩⟩ := hpo1
  refine sv_same (st2 := [sv_i vu5]) (lv2 := [(0, sv_r a), (1, sv_i ar1), (2, sv_i ar2)]) rfl rfl ?_
  refine sv_if C.1 C.2.1 (cnd := .eq) (off := 19) (tgt := 23) (by decide +kernel) (by decide) ⟨by omega, by omega⟩ (fun (h6 : vu5 = 0) => ?_) (fun (h6 : ¬ (vu5 = 0)) => ?_)
  · have hp7 := ivu5_1 (by omega) (by omega)
    refine sv_go C.1 C.2.1 [(.bipush (-2), 2)] (pc' := 25) (by decide +kernel) rfl (lv' := [(0, sv_r a), (1, sv_i ar1), (2, sv_i ar2)]) (st' := [sv_i ((-2))]) rfl ?_
    exact sv_iret C hr (by decide +kernel) hok4 (⟨⟨_, rfl, ⟨by omega, by omega⟩, fun _ _ => ⟨fun _ => ⟨rfl, rfl⟩, fun z m hk q1 q2 => ⟨fun _ => ⟨rfl, rfl⟩, fun h1 h2 h3 => by exfalso; omega, fun h1 h2 h3 => by exfalso; omega, fun h1 h2 h3 h4 => by exfalso; omega⟩⟩⟩, hI, hF⟩)
  · have hp8 := ivu5_0 (by omega) (by omega)
    refine sv_go C.1 C.2.1 [(.aload_n 0, 1)] (pc' := 8) (by decide +kernel) rfl (lv' := [(0, sv_r a), (1, sv_i ar1), (2, sv_i ar2)]) (st' := [sv_r a]) rfl ?_
    refine sv_gf C (index := 151) (ci := 10) (k := 42) (r := (RX11, TX11, 47)) (v := sv_r s1) (by decide +kernel) (by rw [k_a]; rfl) rfl (by decide) fl_X11_151 (congrArg sv_a es1) ?_
    refine sv_go C.1 C.2.1 [(.iload_n 1, 1)] (pc' := 12) (by decide +kernel) rfl (lv' := [(0, sv_r a), (1, sv_i ar1), (2, sv_i ar2)]) (st' := [sv_i ar1, sv_r s1]) rfl ?_
    refine sv_ia C (n := 12) (by decide +kernel) (by rw [k_s1]; rfl) (by decide) (by omega) (by omega) ?_
    obtain ⟨v9, ev9, hv9⟩ := sv_rdn hI (k := (ar1 : Int).toNat) k_s1 rfl
    rw [ev9]
    refine sv_if C.1 C.2.1 (cnd := .eq) (off := 10) (tgt := 23) (by decide +kernel) (by decide) ⟨by omega, by omega⟩ (fun (h10 : v9 = 0) => ?_) (fun (h10 : ¬ (v9 = 0)) => ?_)
    · refine sv_go C.1 C.2.1 [(.bipush (-2), 2)] (pc' := 25) (by decide +kernel) rfl (lv' := [(0, sv_r a), (1, sv_i ar1), (2, sv_i ar2)]) (st' := [sv_i ((-2))]) rfl ?_
      exact sv_iret C hr (by decide +kernel) hok4 (⟨⟨_, rfl, ⟨by omega, by omega⟩, fun _ _ => ⟨fun _ => ⟨rfl, rfl⟩, fun z m hk q1 q2 => ⟨fun _ => ⟨rfl, rfl⟩, fun h1 h2 h3 => by exfalso; omega, fun h1 h2 h3 => by exfalso; omega, fun h1 h2 h3 h4 => by exfalso; omega⟩⟩⟩, hI, hF⟩)
    · refine sv_go C.1 C.2.1 [(.iload_n 2, 1)] (pc' := 17) (by decide +kernel) rfl (lv' := [(0, sv_r a), (1, sv_i ar1), (2, sv_i ar2)]) (st' := [sv_i ar2]) rfl ?_
      refine sv_cs C (index := 338) (k := 1) (rest := []) (by decide +kernel) (sf2_X11_isCorner l g A ty σ hok4 hTA hI (ar2) ⟨by omega, by omega⟩) ⟨co_X11_isCorner, in_X11, ⟨by decide, by decide, by decide +kernel⟩, Nat.le_of_ble_eq_true rfl, Nat.le_of_ble_eq_true rfl⟩ ml_X11_338 st_X11_isCorner rfl rfl (Nat.le_of_ble_eq_true rfl) ⟨Nat.zero_le _, Nat.zero_le _⟩ (fun r12 σ13 hpo11 hok14 => ?_)
      obtain ⟨rfl, ⟨vu15, rfl, hvu15, ivu15_0, ivu15_1⟩⟩ := hpo11
      refine sv_same (st2 := [sv_i vu15]) (lv2 := [(0, sv_r a), (1, sv_i ar1), (2, sv_i ar2)]) rfl rfl ?_
      refine sv_if C.1 C.2.1 (cnd := .ne) (off := 6) (tgt := 26) (by decide +kernel) (by decide) ⟨by omega, by omega⟩ (fun (h16 : vu15 ≠ 0) => ?_) (fun (h16 : ¬ (vu15 ≠ 0)) => ?_)
      · have hp17 := ivu15_0 (by omega) (by omega)
        refine sv_go C.1 C.2.1 [(.bipush 12, 2), (.iload_n 1, 1), (.imul, 1), (.aload_n 0, 1)] (pc' := 31) (by decide +kernel) rfl (lv' := [(0, sv_r a), (1, sv_i ar1), (2, sv_i ar2)]) (st' := [sv_r a, sv_i (12 * ar1)]) rfl ?_
        refine sv_gf C (index := 151) (ci := 10) (k := 42) (r := (RX11, TX11, 47)) (v := sv_r s1) (by decide +kernel) (by rw [k_a]; rfl) rfl (by decide) fl_X11_151 (congrArg sv_a es1) ?_
        refine sv_go C.1 C.2.1 [(.iload_n 1, 1)] (pc' := 35) (by decide +kernel) rfl (lv' := [(0, sv_r a), (1, sv_i ar1), (2, sv_i ar2)]) (st' := [sv_i ar1, sv_r s1, sv_i (12 * ar1)]) rfl ?_
        refine sv_ia C (n := 12) (by decide +kernel) (by rw [k_s1]; rfl) (by decide) (by omega) (by omega) ?_
        rw [ev9]
        refine sv_go C.1 C.2.1 [(.iadd, 1), (.istore_n 3, 1), (.aload_n 0, 1)] (pc' := 39) (by decide +kernel) rfl (lv' := [(0, sv_r a), (1, sv_i ar1), (2, sv_i ar2), (3, sv_i ((12 * ar1) + v9))]) (st' := [sv_r a]) rfl ?_
        refine sv_gf C (index := 148) (ci := 10) (k := 41) (r := (RX11, TX11, 47)) (v := sv_r sq) (by decide +kernel) (by rw [k_a]; rfl) rfl (by decide) fl_X11_148 (congrArg sv_a es0) ?_
        refine sv_go C.1 C.2.1 [(.bipush 20, 2), (.aload_n 0, 1)] (pc' := 45) (by decide +kernel) rfl (lv' := [(0, sv_r a), (1, sv_i ar1), (2, sv_i ar2), (3, sv_i ((12 * ar1) + v9))]) (st' := [sv_r a, sv_i 20, sv_r sq]) rfl ?_
        refine sv_gf C (index := 160) (ci := 10) (k := 45) (r := (RX11, TX11, 47)) (v := sv_r s4) (by decide +kernel) (by rw [k_a]; rfl) rfl (by decide) fl_X11_160 (congrArg sv_a es4) ?_
        refine sv_go C.1 C.2.1 [(.iload_n 3, 1), (.iconst 1, 1), (.isub, 1)] (pc' := 51) (by decide +kernel) rfl (lv' := [(0, sv_r a), (1, sv_i ar1), (2, sv_i ar2), (3, sv_i ((12 * ar1) + v9))]) (st' := [sv_i (((12 * ar1) + v9) - 1), sv_r s4, sv_i 20, sv_r sq]) rfl ?_
        refine sv_ia C (n := 144) (by decide +kernel) (by rw [k_s4]; rfl) (by decide) (by omega) (by omega) ?_
        obtain ⟨v18, ev18, hv18⟩ := sv_rdn hI (k := (((12 * ar1) + v9) - 1 : Int).toNat) k_s4 rfl
        rw [ev18]
        refine sv_go C.1 C.2.1 [(.imul, 1), (.iload_n 2, 1), (.iadd, 1)] (pc' := 55) (by decide +kernel) rfl (lv' := [(0, sv_r a), (1, sv_i ar1), (2, sv_i ar2), (3, sv_i ((12 * ar1) + v9))]) (st' := [sv_i ((20 * v18) + ar2), sv_r sq]) rfl ?_
        refine sv_ia C (n := 400) (by decide +kernel) (by rw [k_sq]; rfl) (by decide) (by omega) (by omega) ?_
        obtain ⟨v19, ev19, hv19⟩ := sv_rdn hI (k := ((20 * v18) + ar2 : Int).toNat) k_sq rfl
        rw [ev19]
        refine sv_go C.1 C.2.1 [(.istore 4, 2), (.iload 4, 2)] (pc' := 60) (by decide +kernel) rfl (lv' := [(0, sv_r a), (1, sv_i ar1), (2, sv_i ar2), (3, sv_i ((12 * ar1) + v9)), (4, sv_i v19)]) (st' := [sv_i v19]) rfl ?_
        refine sv_if C.1 C.2.1 (cnd := .ne) (off := 5) (tgt := 65) (by decide +kernel) (by decide) ⟨by omega, by omega⟩ (fun (h20 : v19 ≠ 0) => ?_) (fun (h20 : ¬ (v19 ≠ 0)) => ?_)
        · refine sv_go C.1 C.2.1 [(.aload_n 0, 1)] (pc' := 66) (by decide +kernel) rfl (lv' := [(0, sv_r a), (1, sv_i ar1), (2, sv_i ar2), (3, sv_i ((12 * ar1) + v9)), (4, sv_i v19)]) (st' := [sv_r a]) rfl ?_
          refine sv_gf C (index := 151) (ci := 10) (k := 42) (r := (RX11, TX11, 47)) (v := sv_r s1) (by decide +kernel) (by rw [k_a]; rfl) rfl (by decide) fl_X11_151 (congrArg sv_a es1) ?_
          refine sv_go C.1 C.2.1 [(.iload_n 1, 1)] (pc' := 70) (by decide +kernel) rfl (lv' := [(0, sv_r a), (1, sv_i ar1), (2, sv_i ar2), (3, sv_i ((12 * ar1) + v9)), (4, sv_i v19)]) (st' := [sv_i ar1, sv_r s1]) rfl ?_
          refine sv_ia C (n := 12) (by decide +kernel) (by rw [k_s1]; rfl) (by decide) (by omega) (by omega) ?_
          rw [ev9]
          refine sv_go C.1 C.2.1 [(.bipush 12, 2)] (pc' := 73) (by decide +kernel) rfl (lv' := [(0, sv_r a), (1, sv_i ar1), (2, sv_i ar2), (3, sv_i ((12 * ar1) + v9)), (4, sv_i v19)]) (st' := [sv_i 12, sv_i v9]) rfl ?_
          refine sv_icmp C.1 C.2.1 (cnd := .ne) (off := 6) (tgt := 79) (by decide +kernel) (by decide) ⟨by omega, by omega⟩ ⟨by omega, by omega⟩ (fun (h21 : v9 ≠ 12) => ?_) (fun (h21 : ¬ (v9 ≠ 12)) => ?_)
          · refine sv_go C.1 C.2.1 [(.aload_n 0, 1)] (pc' := 80) (by decide +kernel) rfl (lv' := [(0, sv_r a), (1, sv_i ar1), (2, sv_i ar2), (3, sv_i ((12 * ar1) + v9)), (4, sv_i v19)]) (st' := [sv_r a]) rfl ?_
            refine sv_gf C (index := 160) (ci := 10) (k := 45) (r := (RX11, TX11, 47)) (v := sv_r s4) (by decide +kernel) (by rw [k_a]; rfl) rfl (by decide) fl_X11_160 (congrArg sv_a es4) ?_
            refine sv_go C.1 C.2.1 [(.iload_n 3, 1), (.iload_n 2, 1)] (pc' := 85) (by decide +kernel) rfl (lv' := [(0, sv_r a), (1, sv_i ar1), (2, sv_i ar2), (3, sv_i ((12 * ar1) + v9)), (4, sv_i v19)]) (st' := [sv_i ar2, sv_i ((12 * ar1) + v9), sv_r s4]) rfl ?_
            refine sv_is C (n := 144) (by decide +kernel) (by rw [k_s4]; rfl) (by decide) (by omega) (by omega) ⟨by omega, by omega⟩ (hTA _ (by rw [k_s4]; decide)) hok14 (fun hok22 => ?_)
            have hI24 := hI.up (a := s4) (k := ((12 * ar1) + v9 : Int).toNat) (z := ar2) (by rw [k_s4]; exact ⟨by omega, by omega⟩)
            have hF25 := hF.up (a := s4) (k := ((12 * ar1) + v9 : Int).toNat) (z := ar2) (Or.inl (by rw [k_s4]; decide))
            generalize eσ23 : sv_up σ s4 ((12 * ar1) + v9 : Int).toNat ar2 = σ23 at hok22 hI24 hF25 ⊢
            have t26 : σ23 a 41 = (sq : Int) + 1 := by rw [← eσ23, sv_up_a (sv_ne k_a k_s4 (by decide))]; exact es0
            have t27 : σ23 a 42 = (s1 : Int) + 1 := by rw [← eσ23, sv_up_a (sv_ne k_a k_s4 (by decide))]; exact es1
            have t28 : σ23 a 45 = (s4 : Int) + 1 := by rw [← eσ23, sv_up_a (sv_ne k_a k_s4 (by decide))]; exact es4
            have t29 : σ23 a 46 = (s5 : Int) + 1 := by rw [← eσ23, sv_up_a (sv_ne k_a k_s4 (by decide))]; exact es5
            have t30 : σ23 s1 (ar1 : Int).toNat = v9 := by rw [← eσ23, sv_up_a (sv_ne k_s1 k_s4 (by decide))]; exact ev9
            have t32 : σ23 sq ((20 * v18) + ar2 : Int).toNat = v19 := by rw [← eσ23, sv_up_a (sv_ne k_sq k_s4 (by decide))]; exact ev19
            have t33 : σ23 s4 ((12 * ar1) + v9 : Int).toNat = ar2 := by rw [← eσ23]; exact sv_up_s _ _ _ _
            refine sv_go C.1 C.2.1 [(.aload_n 0, 1)] (pc' := 87) (by decide +kernel) rfl (lv' := [(0, sv_r a), (1, sv_i ar1), (2, sv_i ar2), (3, sv_i ((12 * ar1) + v9)), (4, sv_i v19)]) (st' := [sv_r a]) rfl ?_
            refine sv_gf C (index := 163) (ci := 10) (k := 46) (r := (RX11, TX11, 47)) (v := sv_r s5) (by decide +kernel) (by rw [k_a]; rfl) rfl (by decide) fl_X11_163 (congrArg sv_a t29) ?_
            refine sv_go C.1 C.2.1 [(.iload_n 3, 1), (.aload_n 0, 1)] (pc' := 92) (by decide +kernel) rfl (lv' := [(0, sv_r a), (1, sv_i ar1), (2, sv_i ar2), (3, sv_i ((12 * ar1) + v9)), (4, sv_i v19)]) (st' := [sv_r a, sv_i ((12 * ar1) + v9), sv_r s5]) rfl ?_
            refine sv_gf C (index := 163) (ci := 10) (k := 46) (r := (RX11, TX11, 47)) (v := sv_r s5) (by decide +kernel) (by rw [k_a]; rfl) rfl (by decide) fl_X11_163 (congrArg sv_a t29) ?_
            refine sv_go C.1 C.2.1 [(.iload_n 3, 1), (.iconst 1, 1), (.isub, 1)] (pc' := 98) (by decide +kernel) rfl (lv' := [(0, sv_r a), (1, sv_i ar1), (2, sv_i ar2), (3, sv_i ((12 * ar1) + v9)), (4, sv_i v19)]) (st' := [sv_i (((12 * ar1) + v9) - 1), sv_r s5, sv_i ((12 * ar1) + v9), sv_r s5]) rfl ?_
            refine sv_ia C (n := 144) (by decide +kernel) (by rw [k_s5]; rfl) (by decide) (by omega) (by omega) ?_
            obtain ⟨v34, ev34, hv34⟩ := sv_rde hok22 (a := s5) (k := (((12 * ar1) + v9) - 1 : Int).toNat) (n := 144) (by rw [k_s5]; rfl) (by omega)
            rw [ev34]
            refine sv_go C.1 C.2.1 [(.iload 4, 2), (.iadd, 1)] (pc' := 102) (by decide +kernel) rfl (lv' := [(0, sv_r a), (1, sv_i ar1), (2, sv_i ar2), (3, sv_i ((12 * ar1) + v9)), (4, sv_i v19)]) (st' := [sv_i (v34 + v19), sv_i ((12 * ar1) + v9), sv_r s5]) rfl ?_
            have hq0 : σ s5 (((12 * ar1) + v9) - 1 : Int).toNat = v34 := by rw [← ev34, ← eσ23, sv_up_a (sv_ne k_s5 k_s4 (by decide))]
            obtain ⟨w35, hw35, ew35⟩ := sv_wr (v34 + v19)
            refine sv_sameD (st2 := [sv_i w35, sv_i ((12 * ar1) + v9), sv_r s5]) (lv2 := [(0, sv_r a), (1, sv_i ar1), (2, sv_i ar2), (3, sv_i ((12 * ar1) + v9)), (4, sv_i v19)]) (by simp only [List.map_cons, List.map_nil, sv_den_i, ew35]) rfl ?_
            refine sv_is C (n := 144) (by decide +kernel) (by rw [k_s5]; rfl) (by decide) (by omega) (by omega) ⟨by omega, by omega⟩ (hTA _ (by rw [k_s5]; decide)) hok22 (fun hok36 => ?_)
            have hI38 := hI24.up (a := s5) (k := ((12 * ar1) + v9 : Int).toNat) (z := w35) (by rw [k_s5]; exact trivial)
            have hF39 := hF25.up (a := s5) (k := ((12 * ar1) + v9 : Int).toNat) (z := w35) (Or.inl (by rw [k_s5]; decide))
            generalize eσ37 : sv_up σ23 s5 ((12 * ar1) + v9 : Int).toNat w35 = σ37 at hok36 hI38 hF39 ⊢
            have t40 : σ37 a 41 = (sq : Int) + 1 := by rw [← eσ37, sv_up_a (sv_ne k_a k_s5 (by decide))]; exact t26
            have t41 : σ37 a 42 = (s1 : Int) + 1 := by rw [← eσ37, sv_up_a (sv_ne k_a k_s5 (by decide))]; exact t27
            have t42 : σ37 a 45 = (s4 : Int) + 1 := by rw [← eσ37, sv_up_a (sv_ne k_a k_s5 (by decide))]; exact t28
            have t43 : σ37 a 46 = (s5 : Int) + 1 := by rw [← eσ37, sv_up_a (sv_ne k_a k_s5 (by decide))]; exact t29
            have t44 : σ37 s1 (ar1 : Int).toNat = v9 := by rw [← eσ37, sv_up_a (sv_ne k_s1 k_s5 (by decide))]; exact t30
            have t45 : σ37 sq ((20 * v18) + ar2 : Int).toNat = v19 := by rw [← eσ37, sv_up_a (sv_ne k_sq k_s5 (by decide))]; exact t32
            have t46 : σ37 s4 ((12 * ar1) + v9 : Int).toNat = ar2 := by rw [← eσ37, sv_up_a (sv_ne k_s4 k_s5 (by decide))]; exact t33
            have t48 : σ37 s5 ((12 * ar1) + v9 : Int).toNat = w35 := by rw [← eσ37]; exact sv_up_s _ _ _ _
            refine sv_go C.1 C.2.1 [(.aload_n 0, 1)] (pc' := 104) (by decide +kernel) rfl (lv' := [(0, sv_r a), (1, sv_i ar1), (2, sv_i ar2), (3, sv_i ((12 * ar1) + v9)), (4, sv_i v19)]) (st' := [sv_r a]) rfl ?_
            refine sv_gf C (index := 151) (ci := 10) (k := 42) (r := (RX11, TX11, 47)) (v := sv_r s1) (by decide +kernel) (by rw [k_a]; rfl) rfl (by decide) fl_X11_151 (congrArg sv_a t41) ?_
            refine sv_go C.1 C.2.1 [(.iload_n 1, 1), (.dup2, 1)] (pc' := 109) (by decide +kernel) rfl (lv' := [(0, sv_r a), (1, sv_i ar1), (2, sv_i ar2), (3, sv_i ((12 * ar1) + v9)), (4, sv_i v19)]) (st' := [sv_i ar1, sv_r s1, sv_i ar1, sv_r s1]) rfl ?_
            refine sv_ia C (n := 12) (by decide +kernel) (by rw [k_s1]; rfl) (by decide) (by omega) (by omega) ?_
            rw [t44]
            refine sv_go C.1 C.2.1 [(.iconst 1, 1), (.iadd, 1)] (pc' := 112) (by decide +kernel) rfl (lv' := [(0, sv_r a), (1, sv_i ar1), (2, sv_i ar2), (3, sv_i ((12 * ar1) + v9)), (4, sv_i v19)]) (st' := [sv_i (v9 + 1), sv_i ar1, sv_r s1]) rfl ?_
            refine sv_is C (n := 12) (by decide +kernel) (by rw [k_s1]; rfl) (by decide) (by omega) (by omega) ⟨by omega, by omega⟩ (hTA _ (by rw [k_s1]; decide)) hok36 (fun hok49 => ?_)
            have hI51 := hI38.up (a := s1) (k := (ar1 : Int).toNat) (z := v9 + 1) (by rw [k_s1]; exact ⟨by omega, by omega⟩)
            have hF52 := hF39.up (a := s1) (k := (ar1 : Int).toNat) (z := v9 + 1) (Or.inl (by rw [k_s1]; decide))
            generalize eσ50 : sv_up σ37 s1 (ar1 : Int).toNat (v9 + 1) = σ50 at hok49 hI51 hF52 ⊢
            have t53 : σ50 a 41 = (sq : Int) + 1 := by rw [← eσ50, sv_up_a (sv_ne k_a k_s1 (by decide))]; exact t40
            have t54 : σ50 a 42 = (s1 : Int) + 1 := by rw [← eσ50, sv_up_a (sv_ne k_a k_s1 (by decide))]; exact t41
            have t55 : σ50 a 45 = (s4 : Int) + 1 := by rw [← eσ50, sv_up_a (sv_ne k_a k_s1 (by decide))]; exact t42
            have t56 : σ50 a 46 = (s5 : Int) + 1 := by rw [← eσ50, sv_up_a (sv_ne k_a k_s1 (by decide))]; exact t43
            have t58 : σ50 sq ((20 * v18) + ar2 : Int).toNat = v19 := by rw [← eσ50, sv_up_a (sv_ne k_sq k_s1 (by decide))]; exact t45
            have t59 : σ50 s4 ((12 * ar1) + v9 : Int).toNat = ar2 := by rw [← eσ50, sv_up_a (sv_ne k_s4 k_s1 (by decide))]; exact t46
            have t60 : σ50 s5 ((12 * ar1) + v9 : Int).toNat = w35 := by rw [← eσ50, sv_up_a (sv_ne k_s5 k_s1 (by decide))]; exact t48
            have t61 : σ50 s1 (ar1 : Int).toNat = v9 + 1 := by rw [← eσ50]; exact sv_up_s _ _ _ _
            refine sv_go C.1 C.2.1 [(.aload_n 0, 1)] (pc' := 114) (by decide +kernel) rfl (lv' := [(0, sv_r a), (1, sv_i ar1), (2, sv_i ar2), (3, sv_i ((12 * ar1) + v9)), (4, sv_i v19)]) (st' := [sv_r a]) rfl ?_
            refine sv_gf C (index := 151) (ci := 10) (k := 42) (r := (RX11, TX11, 47)) (v := sv_r s1) (by decide +kernel) (by rw [k_a]; rfl) rfl (by decide) fl_X11_151 (congrArg sv_a t54) ?_
            refine sv_go C.1 C.2.1 [(.iload_n 1, 1)] (pc' := 118) (by decide +kernel) rfl (lv' := [(0, sv_r a), (1, sv_i ar1), (2, sv_i ar2), (3, sv_i ((12 * ar1) + v9)), (4, sv_i v19)]) (st' := [sv_i ar1, sv_r s1]) rfl ?_
            refine sv_ia C (n := 12) (by decide +kernel) (by rw [k_s1]; rfl) (by decide) (by omega) (by omega) ?_
            rw [t61]
            exact sv_iret C hr (by decide +kernel) hok49 (⟨⟨_, rfl, ⟨by omega, by omega⟩, fun _ _ => ⟨fun h => by exfalso; omega, fun z m hk q1 q2 => by have tz : v9 = z := (by omega); subst tz; have tm : v19 = m := (by rw [← q2, ev18]; exact ev19.symm); subst tm; exact ⟨fun _ => by exfalso; omega, fun h1 h2 h3 => by exfalso; omega, fun h1 h2 h3 => by exfalso; omega, fun h1 h2 h3 h4 => ⟨by omega, by rw [hq0, ← zw_eq hw35 ew35, ← eσ50, ← eσ37, ← eσ23]⟩⟩⟩⟩, hI51, hF52⟩)
          · refine sv_go C.1 C.2.1 [(.bipush (-3), 2)] (pc' := 78) (by decide +kernel) rfl (lv' := [(0, sv_r a), (1, sv_i ar1), (2, sv_i ar2), (3, sv_i ((12 * ar1) + v9)), (4, sv_i v19)]) (st' := [sv_i ((-3))]) rfl ?_
            exact sv_iret C hr (by decide +kernel) hok14 (⟨⟨_, rfl, ⟨by omega, by omega⟩, fun _ _ => ⟨fun h => by exfalso; omega, fun z m hk q1 q2 => by have tz : v9 = z := (by omega); subst tz; have tm : v19 = m := (by rw [← q2, ev18]; exact ev19.symm); subst tm; exact ⟨fun _ => by exfalso; omega, fun h1 h2 h3 => by exfalso; omega, fun h1 h2 h3 => ⟨rfl, rfl⟩, fun h1 h2 h3 h4 => by exfalso; omega⟩⟩⟩, hI, hF⟩)
        · refine sv_go C.1 C.2.1 [(.iconst (-1), 1)] (pc' := 64) (by decide +kernel) rfl (lv' := [(0, sv_r a), (1, sv_i ar1), (2, sv_i ar2), (3, sv_i ((12 * ar1) + v9)), (4, sv_i v19)]) (st' := [sv_i ((-1))]) rfl ?_
          exact sv_iret C hr (by decide +kernel) hok14 (⟨⟨_, rfl, ⟨by omega, by omega⟩, fun _ _ => ⟨fun h => by exfalso; omega, fun z m hk q1 q2 => by have tz : v9 = z := (by omega); subst tz; have tm : v19 = m := (by rw [← q2, ev18]; exact ev19.symm); subst tm; exact ⟨fun _ => by exfalso; omega, fun h1 h2 h3 => ⟨rfl, rfl⟩, fun h1 h2 h3 => by exfalso; omega, fun h1 h2 h3 h4 => by exfalso; omega⟩⟩⟩, hI, hF⟩)
      · have hp62 := ivu15_1 (by omega) (by omega)
        refine sv_go C.1 C.2.1 [(.bipush (-2), 2)] (pc' := 25) (by decide +kernel) rfl (lv' := [(0, sv_r a), (1, sv_i ar1), (2, sv_i ar2)]) (st' := [sv_i ((-2))]) rfl ?_
        exact sv_iret C hr (by decide +kernel) hok14 (⟨⟨_, rfl, ⟨by omega, by omega⟩, fun _ _ => ⟨fun _ => ⟨rfl, rfl⟩, fun z m hk q1 q2 => ⟨fun _ => ⟨rfl, rfl⟩, fun h1 h2 h3 => by exfalso; omega, fun h1 h2 h3 => by exfalso; omega, fun h1 h2 h3 h4 => by exfalso; omega⟩⟩⟩, hI, hF⟩)

set_option maxHeartbeats 4000000 in
set_option maxRecDepth 100000 in
theorem ct_X9_late (l : Launch) (g : sv_G) (A : Nat → Prop) (ty : Nat → Nat) (σ : Nat → Nat → Int) (hok : sv_ok ty σ) (hTA : ∀ q, ty q ≠ 0 → A q) (hI : sv_inv sp_1 ty σ) (a : Nat) (k_a : ty a = 1) (ar1 : Int) (h_ar1 : (-2147483648) ≤ ar1 ∧ ar1 ≤ 2147483647) (ar2 : Int) (h_ar2 : (-2147483648) ≤ ar2 ∧ ar2 ≤ 2147483647) (tq : Nat) (k_tq : ty tq = 6) (bq : Nat) (k_bq : ty bq = 37) (et : σ a 4 = (tq : Int) + 1) (eb : σ tq 0 = (bq : Int) + 1) : sv_M l yX9_late cX9_late 4 (some .int) { frames := 2, cells := 0, slots := 0, locals := 42 } g A ty σ [sv_r a, sv_i ar1, sv_i ar2] (fun r σ' => (∃ rv : Int, r = [sv_i rv] ∧ ((-2) ≤ rv ∧ rv ≤ 1739) ∧ ((-2147483648) ≤ rv → rv ≤ 2147483647 → zc_late σ σ' bq ar1 ar2 rv)) ∧ sv_inv sp_1 ty σ' ∧ sv_ofx [(9, 1)] [] ty σ σ') := by
  refine sv_enter (by decide) (Nat.le_of_ble_eq_true rfl) ?_
  intro p e s m args below meth c C hr
  have C : sv_C g A RX9 cX9_late 4 p s m args meth c := C
  have hr : meth.sig.returnType = (some .int) := hr
  have hF : sv_ofx [(9, 1)] [] ty σ σ := sv_ofx.rf
  refine sv_same (st2 := []) (lv2 := [(0, sv_r a), (1, sv_i ar1), (2, sv_i ar2)]) rfl rfl ?_
  refine sv_go C.1 C.2.1 [(.aload_n 0, 1), (.iload_n 1, 1), (.iconst 1, 1)] (pc' := 3) (by decide +kernel) rfl (lv' := [(0, sv_r a), (1, sv_i ar1), (2, sv_i ar2)]) (st' := [sv_i 1, sv_i ar1, sv_r a]) rfl ?_
  refine sv_cv C (index := 200) (k := 2) (rest := []) (ci := 8) (r := (RX9, TX9, 6)) (by decide +kernel) (ct_X9_isLong l g A ty σ hok hTA hI a k_a (ar1) ⟨by omega, by omega⟩ (1) ⟨by omega, by omega⟩ tq k_tq bq k_bq et eb) ⟨co_X9_isLong, in_X9, ⟨by decide, by decide, by decide +kernel⟩, Nat.le_of_ble_eq_true rfl, Nat.le_of_ble_eq_true rfl⟩ ml_X9_200 im_X9_isLong se_X9_isLong (by rw [k_a]; rfl) rfl rfl rfl (Nat.le_of_ble_eq_true rfl) ⟨Nat.zero_le _, Nat.zero_le _⟩ (fun r2 σ3 hpo1 hok4 => ?_)
  obtain ⟨rfl, ⟨vu5, rfl, hvu5, ivu5_0, ivu5_1⟩⟩ := hpo1
  refine sv_same (st2 := [sv_i vu5]) (lv2 := [(0, sv_r a), (1, sv_i ar1), (2, sv_i ar2)]) rfl rfl ?_
  refine sv_if C.1 C.2.1 (cnd := .eq) (off := 15) (tgt := 21) (by decide +kernel) (by decide) ⟨by omega, by omega⟩ (fun (h6 : vu5 = 0) => ?_) (fun (h6 : ¬ (vu5 = 0)) => ?_)
  · have hp7 := ivu5_1 (by omega) (by omega)
    refine sv_go C.1 C.2.1 [(.bipush (-2), 2)] (pc' := 23) (by decide +kernel) rfl (lv' := [(0, sv_r a), (1, sv_i ar1), (2, sv_i ar2)]) (st' := [sv_i ((-2))]) rfl ?_
    exact sv_iret C hr (by decide +kernel) hok4 (⟨⟨_, rfl, ⟨by omega, by omega⟩, fun _ _ => ⟨fun _ => ⟨rfl, rfl⟩, fun P z B hk q1 q2 q3 => by have hz := hp7 hk P q1; exact ⟨fun _ => ⟨rfl, rfl⟩, fun h1 h2 h3 => by exfalso; omega⟩⟩⟩, hI, hF⟩)
  · have hp8 := ivu5_0 (by omega) (by omega)
    refine sv_go C.1 C.2.1 [(.iload_n 2, 1), (.iconst 1, 1)] (pc' := 11) (by decide +kernel) rfl (lv' := [(0, sv_r a), (1, sv_i ar1), (2, sv_i ar2)]) (st' := [sv_i 1, sv_i ar2]) rfl ?_
    refine sv_icmp C.1 C.2.1 (cnd := .lt) (off := 10) (tgt := 21) (by decide +kernel) (by decide) ⟨by omega, by omega⟩ ⟨by omega, by omega⟩ (fun (h9 : ar2 < 1) => ?_) (fun (h9 : ¬ (ar2 < 1)) => ?_)
    · refine sv_go C.1 C.2.1 [(.bipush (-2), 2)] (pc' := 23) (by decide +kernel) rfl (lv' := [(0, sv_r a), (1, sv_i ar1), (2, sv_i ar2)]) (st' := [sv_i ((-2))]) rfl ?_
      exact sv_iret C hr (by decide +kernel) hok4 (⟨⟨_, rfl, ⟨by omega, by omega⟩, fun _ _ => ⟨fun _ => ⟨rfl, rfl⟩, fun P z B hk q1 q2 q3 => ⟨fun _ => ⟨rfl, rfl⟩, fun h1 h2 h3 => by exfalso; omega⟩⟩⟩, hI, hF⟩)
    · refine sv_go C.1 C.2.1 [(.iload_n 2, 1), (.sipush 300, 3)] (pc' := 18) (by decide +kernel) rfl (lv' := [(0, sv_r a), (1, sv_i ar1), (2, sv_i ar2)]) (st' := [sv_i 300, sv_i ar2]) rfl ?_
      refine sv_icmp C.1 C.2.1 (cnd := .le) (off := 6) (tgt := 24) (by decide +kernel) (by decide) ⟨by omega, by omega⟩ ⟨by omega, by omega⟩ (fun (h10 : ar2 ≤ 300) => ?_) (fun (h10 : ¬ (ar2 ≤ 300)) => ?_)
      · refine sv_go C.1 C.2.1 [(.aload_n 0, 1)] (pc' := 25) (by decide +kernel) rfl (lv' := [(0, sv_r a), (1, sv_i ar1), (2, sv_i ar2)]) (st' := [sv_r a]) rfl ?_
        refine sv_gf C (index := 40) (ci := 8) (k := 4) (r := (RX9, TX9, 6)) (v := sv_r tq) (by decide +kernel) (by rw [k_a]; rfl) rfl (by decide) fl_X9_40 (congrArg sv_a et) ?_
        refine sv_gf C (index := 190) (ci := 7) (k := 0) (r := (RX8, TX8, 4)) (v := sv_r bq) (by decide +kernel) (by rw [k_tq]; rfl) rfl (by decide) fl_X9_190 (congrArg sv_a eb) ?_
        refine sv_go C.1 C.2.1 [(.iload_n 1, 1)] (pc' := 32) (by decide +kernel) rfl (lv' := [(0, sv_r a), (1, sv_i ar1), (2, sv_i ar2)]) (st' := [sv_i ar1, sv_r bq]) rfl ?_
        refine sv_aa C (N := "SaintsRoad$Procession") (by decide) (n := 12) (by decide +kernel) (by rw [k_bq]; rfl) (by decide) (by omega) (by omega) ?_
        obtain ⟨v11, ev11, kv11⟩ := hI.ref (k := (ar1 : Int).toNat) k_bq (by first | rfl | (show (if _ then _ else _) = _; rw [if_pos (by omega)]))
        rw [ev11]
        refine sv_go C.1 C.2.1 [(.astore_n 3, 1), (.aload_n 3, 1)] (pc' := 35) (by decide +kernel) rfl (lv' := [(0, sv_r a), (1, sv_i ar1), (2, sv_i ar2), (3, sv_r v11)]) (st' := [sv_r v11]) rfl ?_
        obtain ⟨v12, ev12, hv12⟩ := sv_rdn hI (k := 1) kv11 rfl
        refine sv_gf C (index := 214) (ci := 4) (k := 1) (r := (RX5, TX5, 5)) (v := sv_i v12) (by decide +kernel) (by rw [kv11]; rfl) rfl (by decide) fl_X9_214 (congrArg sv_i ev12) ?_
        refine sv_go C.1 C.2.1 [(.iload_n 2, 1), (.iadd, 1), (.sipush 1440, 3)] (pc' := 43) (by decide +kernel) rfl (lv' := [(0, sv_r a), (1, sv_i ar1), (2, sv_i ar2), (3, sv_r v11)]) (st' := [sv_i 1440, sv_i (v12 + ar2)]) rfl ?_
        have hz1 := (hp8).2 v11 ev11
        refine sv_icmp C.1 C.2.1 (cnd := .le) (off := 6) (tgt := 49) (by decide +kernel) (by decide) ⟨by omega, by omega⟩ ⟨by omega, by omega⟩ (fun (h13 : (v12 + ar2) ≤ 1440) => ?_) (fun (h13 : ¬ ((v12 + ar2) ≤ 1440)) => ?_)
        · refine sv_go C.1 C.2.1 [(.aload_n 3, 1), (.dup, 1)] (pc' := 51) (by decide +kernel) rfl (lv' := [(0, sv_r a), (1, sv_i ar1), (2, sv_i ar2), (3, sv_r v11)]) (st' := [sv_r v11, sv_r v11]) rfl ?_
          refine sv_gf C (index := 214) (ci := 4) (k := 1) (r := (RX5, TX5, 5)) (v := sv_i v12) (by decide +kernel) (by rw [kv11]; rfl) rfl (by decide) fl_X9_214 (congrArg sv_i ev12) ?_
          refine sv_go C.1 C.2.1 [(.iload_n 2, 1), (.iadd, 1)] (pc' := 56) (by decide +kernel) rfl (lv' := [(0, sv_r a), (1, sv_i ar1), (2, sv_i ar2), (3, sv_r v11)]) (st' := [sv_i (v12 + ar2), sv_r v11]) rfl ?_
          refine sv_pf C (index := 214) (ci := 4) (k := 1) (r := (RX5, TX5, 5)) (z := v12 + ar2) (by decide +kernel) (by rw [kv11]; rfl) rfl (by decide) rfl fl_X9_214 rfl (Or.inl rfl) ⟨by omega, by omega⟩ (hTA _ (by rw [kv11]; decide)) hok4 (fun hok14 => ?_)
          have hI16 := hI.up (a := v11) (k := 1) (z := v12 + ar2) (by rw [kv11]; exact ⟨by omega, by omega⟩)
          have hF17 := hF.up (a := v11) (k := 1) (z := v12 + ar2) (Or.inr (by rw [kv11]; decide))
          generalize eσ15 : sv_up σ v11 1 (v12 + ar2) = σ15 at hok14 hI16 hF17 ⊢
          have t18 : σ15 a 4 = (tq : Int) + 1 := by rw [← eσ15, sv_up_a (sv_ne k_a kv11 (by decide))]; exact et
          have t19 : σ15 tq 0 = (bq : Int) + 1 := by rw [← eσ15, sv_up_a (sv_ne k_tq kv11 (by decide))]; exact eb
          have t20 : σ15 bq (ar1 : Int).toNat = (v11 : Int) + 1 := by rw [← eσ15, sv_up_a (sv_ne k_bq kv11 (by decide))]; exact ev11
          have t21 : σ15 v11 1 = v12 + ar2 := by rw [← eσ15]; exact sv_up_s _ _ _ _
          refine sv_go C.1 C.2.1 [(.aload_n 3, 1)] (pc' := 60) (by decide +kernel) rfl (lv' := [(0, sv_r a), (1, sv_i ar1), (2, sv_i ar2), (3, sv_r v11)]) (st' := [sv_r v11]) rfl ?_
          refine sv_gf C (index := 214) (ci := 4) (k := 1) (r := (RX5, TX5, 5)) (v := sv_i (v12 + ar2)) (by decide +kernel) (by rw [kv11]; rfl) rfl (by decide) fl_X9_214 (congrArg sv_i t21) ?_
          exact sv_iret C hr (by decide +kernel) hok14 (⟨⟨_, rfl, ⟨by omega, by omega⟩, fun _ _ => ⟨fun h => by exfalso; omega, fun P z B hk q1 q2 q3 => by have tP : v11 = P := (by omega); subst tP; have tB : v12 = B := (by omega); subst tB; exact ⟨fun h => by exfalso; omega, fun _ _ _ => ⟨rfl, by rw [← eσ15]⟩⟩⟩⟩, hI16, hF17⟩)
        · refine sv_go C.1 C.2.1 [(.bipush (-2), 2)] (pc' := 48) (by decide +kernel) rfl (lv' := [(0, sv_r a), (1, sv_i ar1), (2, sv_i ar2), (3, sv_r v11)]) (st' := [sv_i ((-2))]) rfl ?_
          exact sv_iret C hr (by decide +kernel) hok4 (⟨⟨_, rfl, ⟨by omega, by omega⟩, fun _ _ => ⟨fun _ => ⟨rfl, rfl⟩, fun P z B hk q1 q2 q3 => by have tP : v11 = P := (by omega); subst tP; exact ⟨fun _ => ⟨rfl, rfl⟩, fun h1 h2 h3 => by exfalso; omega⟩⟩⟩, hI, hF⟩)
      · refine sv_go C.1 C.2.1 [(.bipush (-2), 2)] (pc' := 23) (by decide +kernel) rfl (lv' := [(0, sv_r a), (1, sv_i ar1), (2, sv_i ar2)]) (st' := [sv_i ((-2))]) rfl ?_
        exact sv_iret C hr (by decide +kernel) hok4 (⟨⟨_, rfl, ⟨by omega, by omega⟩, fun _ _ => ⟨fun _ => ⟨rfl, rfl⟩, fun P z B hk q1 q2 q3 => ⟨fun _ => ⟨rfl, rfl⟩, fun h1 h2 h3 => by exfalso; omega⟩⟩⟩, hI, hF⟩)

set_option maxHeartbeats 4000000 in
set_option maxRecDepth 100000 in
theorem ct_X11_late (l : Launch) (g : sv_G) (A : Nat → Prop) (ty : Nat → Nat) (σ : Nat → Nat → Int) (hok : sv_ok ty σ) (hTA : ∀ q, ty q ≠ 0 → A q) (hI : sv_inv sp_1 ty σ) (a : Nat) (k_a : ty a = 10) (ar1 : Int) (h_ar1 : (-2147483648) ≤ ar1 ∧ ar1 ≤ 2147483647) (ar2 : Int) (h_ar2 : (-2147483648) ≤ ar2 ∧ ar2 ≤ 2147483647) (s1 : Nat) (k_s1 : ty s1 = 102) (s2 : Nat) (k_s2 : ty s2 = 103) (es1 : σ a 42 = (s1 : Int) + 1) (es2 : σ a 43 = (s2 : Int) + 1) : sv_M l yX11_late cX11_late 3 (some .int) { frames := 2, cells := 0, slots := 0, locals := 45 } g A ty σ [sv_r a, sv_i ar1, sv_i ar2] (fun r σ' => (∃ rv : Int, r = [sv_i rv] ∧ ((-2) ≤ rv ∧ rv ≤ 1739) ∧ ((-2147483648) ≤ rv → rv ≤ 2147483647 → zm_late σ σ' s1 s2 ar1 ar2 rv)) ∧ sv_inv sp_1 ty σ' ∧ sv_ofx [] [103] ty σ σ') := by
  refine sv_enter (by decide) (Nat.le_of_ble_eq_true rfl) ?_
  intro p e s m args below meth c C hr
  have C : sv_C g A RX11 cX11_late 3 p s m args meth c := C
  have hr : meth.sig.returnType = (some .int) := hr
  have hF : sv_ofx [] [103] ty σ σ := sv_ofx.rf
  refine sv_same (st2 := []) (lv2 := [(0, sv_r a), (1, sv_i ar1), (2, sv_i ar2)]) rfl rfl ?_
  refine sv_go C.1 C.2.1 [(.iload_n 1, 1)] (pc' := 1) (by decide +kernel) rfl (lv' := [(0, sv_r a), (1, sv_i ar1), (2, sv_i ar2)]) (st' := [sv_i ar1]) rfl ?_
  refine sv_cs C (index := 345) (k := 1) (rest := []) (by decide +kernel) (sf2_X11_isWalk l g A ty σ hok hTA hI (ar1) ⟨by omega, by omega⟩) ⟨co_X11_isWalk, in_X11, ⟨by decide, by decide, by decide +kernel⟩, Nat.le_of_ble_eq_true rfl, Nat.le_of_ble_eq_true rfl⟩ ml_X11_345 st_X11_isWalk rfl rfl (Nat.le_of_ble_eq_true rfl) ⟨Nat.zero_le _, Nat.zero_le _⟩ (fun r2 σ3 hpo1 hok4 => ?_)
  obtain ⟨rfl, ⟨vu5, rfl, hvu5, ivu5_0, ivu5_1⟩⟩ := hpo1
  refine sv_same (st2 := [sv_i vu5]) (lv2 := [(0, sv_r a), (1, sv_i ar1), (2, sv_i ar2)]) rfl rfl ?_
  refine sv_if C.1 C.2.1 (cnd := .eq) (off := 38) (tgt := 42) (by decide +kernel) (by decide) ⟨by omega, by omega⟩ (fun (h6 : vu5 = 0) => ?_) (fun (h6 : ¬ (vu5 = 0)) => ?_)
  · have hp7 := ivu5_1 (by omega) (by omega)
    refine sv_go C.1 C.2.1 [(.bipush (-2), 2)] (pc' := 44) (by decide +kernel) rfl (lv' := [(0, sv_r a), (1, sv_i ar1), (2, sv_i ar2)]) (st' := [sv_i ((-2))]) rfl ?_
    exact sv_iret C hr (by decide +kernel) hok4 (⟨⟨_, rfl, ⟨by omega, by omega⟩, fun _ _ => ⟨fun _ => ⟨rfl, rfl⟩, fun z B hk q1 q2 => ⟨fun _ => ⟨rfl, rfl⟩, fun h1 h2 h3 => by exfalso; omega⟩⟩⟩, hI, hF⟩)
  · have hp8 := ivu5_0 (by omega) (by omega)
    refine sv_go C.1 C.2.1 [(.aload_n 0, 1)] (pc' := 8) (by decide +kernel) rfl (lv' := [(0, sv_r a), (1, sv_i ar1), (2, sv_i ar2)]) (st' := [sv_r a]) rfl ?_
    refine sv_gf C (index := 151) (ci := 10) (k := 42) (r := (RX11, TX11, 47)) (v := sv_r s1) (by decide +kernel) (by rw [k_a]; rfl) rfl (by decide) fl_X11_151 (congrArg sv_a es1) ?_
    refine sv_go C.1 C.2.1 [(.iload_n 1, 1)] (pc' := 12) (by decide +kernel) rfl (lv' := [(0, sv_r a), (1, sv_i ar1), (2, sv_i ar2)]) (st' := [sv_i ar1, sv_r s1]) rfl ?_
    refine sv_ia C (n := 12) (by decide +kernel) (by rw [k_s1]; rfl) (by decide) (by omega) (by omega) ?_
    obtain ⟨v9, ev9, hv9⟩ := sv_rdn hI (k := (ar1 : Int).toNat) k_s1 rfl
    rw [ev9]
    refine sv_if C.1 C.2.1 (cnd := .eq) (off := 29) (tgt := 42) (by decide +kernel) (by decide) ⟨by omega, by omega⟩ (fun (h10 : v9 = 0) => ?_) (fun (h10 : ¬ (v9 = 0)) => ?_)
    · refine sv_go C.1 C.2.1 [(.bipush (-2), 2)] (pc' := 44) (by decide +kernel) rfl (lv' := [(0, sv_r a), (1, sv_i ar1), (2, sv_i ar2)]) (st' := [sv_i ((-2))]) rfl ?_
      exact sv_iret C hr (by decide +kernel) hok4 (⟨⟨_, rfl, ⟨by omega, by omega⟩, fun _ _ => ⟨fun _ => ⟨rfl, rfl⟩, fun z B hk q1 q2 => ⟨fun _ => ⟨rfl, rfl⟩, fun h1 h2 h3 => by exfalso; omega⟩⟩⟩, hI, hF⟩)
    · refine sv_go C.1 C.2.1 [(.iload_n 2, 1)] (pc' := 17) (by decide +kernel) rfl (lv' := [(0, sv_r a), (1, sv_i ar1), (2, sv_i ar2)]) (st' := [sv_i ar2]) rfl ?_
      refine sv_i2l C.1 C.2.1 (by decide +kernel) ⟨by omega, by omega⟩ ?_
      refine sv_go C.1 C.2.1 [(.lconst 1, 1)] (pc' := 19) (by decide +kernel) rfl (lv' := [(0, sv_r a), (1, sv_i ar1), (2, sv_i ar2)]) (st' := [sv_l 1, sv_l ar2]) rfl ?_
      refine sv_ldc2 C (index := 352) (z := 300) (by decide +kernel) cl_X11_352 (by decide) ?_
      refine sv_cs C (index := 9) (k := 3) (rest := []) (by decide +kernel) (ct_X11_in l g A ty σ hok4 (ar2) ⟨by omega, by omega⟩ (1) ⟨by omega, by omega⟩ (300) ⟨by omega, by omega⟩) ⟨co_X11_in, in_X11, ⟨by decide, by decide, by decide +kernel⟩, Nat.le_of_ble_eq_true rfl, Nat.le_of_ble_eq_true rfl⟩ ml_X11_9 st_X11_in rfl rfl (Nat.le_of_ble_eq_true rfl) ⟨Nat.zero_le _, Nat.zero_le _⟩ (fun r12 σ13 hpo11 hok14 => ?_)
      obtain ⟨rfl, ⟨h15, rfl⟩ | ⟨h15, rfl⟩⟩ := hpo11
      · refine sv_same (st2 := [sv_i 1]) (lv2 := [(0, sv_r a), (1, sv_i ar1), (2, sv_i ar2)]) rfl rfl ?_
        refine sv_if_f C.1 C.2.1 (cnd := .eq) (off := 17) (tgt := 42) (by decide +kernel) (by decide) ⟨by omega, by omega⟩ (show ¬ (1 = 0) by omega) ?_
        refine sv_go C.1 C.2.1 [(.aload_n 0, 1)] (pc' := 29) (by decide +kernel) rfl (lv' := [(0, sv_r a), (1, sv_i ar1), (2, sv_i ar2)]) (st' := [sv_r a]) rfl ?_
        refine sv_gf C (index := 154) (ci := 10) (k := 43) (r := (RX11, TX11, 47)) (v := sv_r s2) (by decide +kernel) (by rw [k_a]; rfl) rfl (by decide) fl_X11_154 (congrArg sv_a es2) ?_
        refine sv_go C.1 C.2.1 [(.iload_n 1, 1)] (pc' := 33) (by decide +kernel) rfl (lv' := [(0, sv_r a), (1, sv_i ar1), (2, sv_i ar2)]) (st' := [sv_i ar1, sv_r s2]) rfl ?_
        refine sv_ia C (n := 12) (by decide +kernel) (by rw [k_s2]; rfl) (by decide) (by omega) (by omega) ?_
        obtain ⟨v16, ev16, hv16⟩ := sv_rdn hI (k := (ar1 : Int).toNat) k_s2 rfl
        rw [ev16]
        refine sv_go C.1 C.2.1 [(.iload_n 2, 1), (.iadd, 1), (.sipush 1440, 3)] (pc' := 39) (by decide +kernel) rfl (lv' := [(0, sv_r a), (1, sv_i ar1), (2, sv_i ar2)]) (st' := [sv_i 1440, sv_i (v16 + ar2)]) rfl ?_
        refine sv_icmp C.1 C.2.1 (cnd := .le) (off := 6) (tgt := 45) (by decide +kernel) (by decide) ⟨by omega, by omega⟩ ⟨by omega, by omega⟩ (fun (h17 : (v16 + ar2) ≤ 1440) => ?_) (fun (h17 : ¬ ((v16 + ar2) ≤ 1440)) => ?_)
        · refine sv_go C.1 C.2.1 [(.aload_n 0, 1)] (pc' := 46) (by decide +kernel) rfl (lv' := [(0, sv_r a), (1, sv_i ar1), (2, sv_i ar2)]) (st' := [sv_r a]) rfl ?_
          refine sv_gf C (index := 154) (ci := 10) (k := 43) (r := (RX11, TX11, 47)) (v := sv_r s2) (by decide +kernel) (by rw [k_a]; rfl) rfl (by decide) fl_X11_154 (congrArg sv_a es2) ?_
          refine sv_go C.1 C.2.1 [(.iload_n 1, 1), (.dup2, 1)] (pc' := 51) (by decide +kernel) rfl (lv' := [(0, sv_r a), (1, sv_i ar1), (2, sv_i ar2)]) (st' := [sv_i ar1, sv_r s2, sv_i ar1, sv_r s2]) rfl ?_
          refine sv_ia C (n := 12) (by decide +kernel) (by rw [k_s2]; rfl) (by decide) (by omega) (by omega) ?_
          rw [ev16]
          refine sv_go C.1 C.2.1 [(.iload_n 2, 1), (.iadd, 1)] (pc' := 54) (by decide +kernel) rfl (lv' := [(0, sv_r a), (1, sv_i ar1), (2, sv_i ar2)]) (st' := [sv_i (v16 + ar2), sv_i ar1, sv_r s2]) rfl ?_
          refine sv_is C (n := 12) (by decide +kernel) (by rw [k_s2]; rfl) (by decide) (by omega) (by omega) ⟨by omega, by omega⟩ (hTA _ (by rw [k_s2]; decide)) hok14 (fun hok18 => ?_)
          have hI20 := hI.up (a := s2) (k := (ar1 : Int).toNat) (z := v16 + ar2) (by rw [k_s2]; exact ⟨by omega, by omega⟩)
          have hF21 := hF.up (a := s2) (k := (ar1 : Int).toNat) (z := v16 + ar2) (Or.inl (by rw [k_s2]; decide))
          generalize eσ19 : sv_up σ s2 (ar1 : Int).toNat (v16 + ar2) = σ19 at hok18 hI20 hF21 ⊢
          have t22 : σ19 a 42 = (s1 : Int) + 1 := by rw [← eσ19, sv_up_a (sv_ne k_a k_s2 (by decide))]; exact es1
          have t23 : σ19 a 43 = (s2 : Int) + 1 := by rw [← eσ19, sv_up_a (sv_ne k_a k_s2 (by decide))]; exact es2
          have t24 : σ19 s1 (ar1 : Int).toNat = v9 := by rw [← eσ19, sv_up_a (sv_ne k_s1 k_s2 (by decide))]; exact ev9
          have t26 : σ19 s2 (ar1 : Int).toNat = v16 + ar2 := by rw [← eσ19]; exact sv_up_s _ _ _ _
          refine sv_go C.1 C.2.1 [(.aload_n 0, 1)] (pc' := 56) (by decide +kernel) rfl (lv' := [(0, sv_r a), (1, sv_i ar1), (2, sv_i ar2)]) (st' := [sv_r a]) rfl ?_
          refine sv_gf C (index := 154) (ci := 10) (k := 43) (r := (RX11, TX11, 47)) (v := sv_r s2) (by decide +kernel) (by rw [k_a]; rfl) rfl (by decide) fl_X11_154 (congrArg sv_a t23) ?_
          refine sv_go C.1 C.2.1 [(.iload_n 1, 1)] (pc' := 60) (by decide +kernel) rfl (lv' := [(0, sv_r a), (1, sv_i ar1), (2, sv_i ar2)]) (st' := [sv_i ar1, sv_r s2]) rfl ?_
          refine sv_ia C (n := 12) (by decide +kernel) (by rw [k_s2]; rfl) (by decide) (by omega) (by omega) ?_
          rw [t26]
          exact sv_iret C hr (by decide +kernel) hok18 (⟨⟨_, rfl, ⟨by omega, by omega⟩, fun _ _ => ⟨fun h => by exfalso; omega, fun z B hk q1 q2 => by have tB : v16 = B := (by omega); subst tB; exact ⟨fun h => by exfalso; omega, fun _ _ _ => ⟨rfl, by rw [← eσ19]⟩⟩⟩⟩, hI20, hF21⟩)
        · refine sv_go C.1 C.2.1 [(.bipush (-2), 2)] (pc' := 44) (by decide +kernel) rfl (lv' := [(0, sv_r a), (1, sv_i ar1), (2, sv_i ar2)]) (st' := [sv_i ((-2))]) rfl ?_
          exact sv_iret C hr (by decide +kernel) hok14 (⟨⟨_, rfl, ⟨by omega, by omega⟩, fun _ _ => ⟨fun _ => ⟨rfl, rfl⟩, fun z B hk q1 q2 => ⟨fun _ => ⟨rfl, rfl⟩, fun h1 h2 h3 => by exfalso; omega⟩⟩⟩, hI, hF⟩)
      · refine sv_same (st2 := [sv_i 0]) (lv2 := [(0, sv_r a), (1, sv_i ar1), (2, sv_i ar2)]) rfl rfl ?_
        refine sv_if_t C.1 C.2.1 (cnd := .eq) (off := 17) (tgt := 42) (by decide +kernel) (by decide) ⟨by omega, by omega⟩ (show 0 = 0 by omega) ?_
        refine sv_go C.1 C.2.1 [(.bipush (-2), 2)] (pc' := 44) (by decide +kernel) rfl (lv' := [(0, sv_r a), (1, sv_i ar1), (2, sv_i ar2)]) (st' := [sv_i ((-2))]) rfl ?_
        exact sv_iret C hr (by decide +kernel) hok14 (⟨⟨_, rfl, ⟨by omega, by omega⟩, fun _ _ => ⟨fun _ => ⟨rfl, rfl⟩, fun z B hk q1 q2 => ⟨fun _ => ⟨rfl, rfl⟩, fun h1 h2 h3 => by exfalso; omega⟩⟩⟩, hI, hF⟩)

set_option maxHeartbeats 4000000 in
set_option maxRecDepth 100000 in
theorem ct_X5_comes (l : Launch) (g : sv_G) (A : Nat → Prop) (ty : Nat → Nat) (σ : Nat → Nat → Int) (hok : sv_ok ty σ) (hTA : ∀ q, ty q ≠ 0 → A q) (hI : sv_inv sp_1 ty σ) (a : Nat) (k_a : ty a = 9) (v : Int) (h_v : 0 ≤ v ∧ v ≤ 22) (qr : Nat) (k_qr : ty qr = 41) (ea3 : σ a 3 = (qr : Int) + 1) : sv_M l yX5_comes cX5_comes 2 (some .int) { frames := 0, cells := 0, slots := 0, locals := 0 } g A ty σ [sv_r a, sv_i v] (fun r σ' => σ = σ' ∧ ∃ rv : Int, r = [sv_i rv] ∧ ((-2147483648) ≤ rv ∧ rv ≤ 2147483647) ∧ ((-2147483648) ≤ rv → rv ≤ 2147483647 → rv = σ qr (v / 2).toNat)) := by
  refine sv_enter (by decide) (Nat.le_of_ble_eq_true rfl) ?_
  intro p e s m args below meth c C hr
  have C : sv_C g A RX5 cX5_comes 2 p s m args meth c := C
  have hr : meth.sig.returnType = (some .int) := hr
  have hF : sv_ofx [] [] ty σ σ := sv_ofx.rf
  refine sv_same (st2 := []) (lv2 := [(0, sv_r a), (1, sv_i v)]) rfl rfl ?_
  refine sv_go C.1 C.2.1 [(.aload_n 0, 1)] (pc' := 1) (by decide +kernel) rfl (lv' := [(0, sv_r a), (1, sv_i v)]) (st' := [sv_r a]) rfl ?_
  refine sv_gf C (index := 15) (ci := 4) (k := 3) (r := (RX5, TX5, 5)) (v := sv_r qr) (by decide +kernel) (by rw [k_a]; rfl) rfl (by decide) fl_X5_15 (congrArg sv_a ea3) ?_
  refine sv_go C.1 C.2.1 [(.iload_n 1, 1), (.iconst 2, 1)] (pc' := 6) (by decide +kernel) rfl (lv' := [(0, sv_r a), (1, sv_i v)]) (st' := [sv_i 2, sv_i v, sv_r qr]) rfl ?_
  refine sv_idivP C.1 C.2.1 (by decide +kernel) ⟨by omega, by omega⟩ ⟨by omega, by omega⟩ ?_
  refine sv_ia C (n := 12) (by decide +kernel) (by rw [k_qr]; rfl) (by decide) (by omega) (by omega) ?_
  obtain ⟨v1, ev1, hv1⟩ := sv_rde hok (a := qr) (k := (v / 2 : Int).toNat) (n := 12) (by rw [k_qr]; rfl) (by omega)
  rw [ev1]
  exact sv_iret C hr (by decide +kernel) hok (⟨rfl, ⟨_, rfl, ⟨by omega, by omega⟩, fun _ _ => (by omega)⟩⟩)

set_option maxHeartbeats 4000000 in
set_option maxRecDepth 100000 in
theorem ct_X5_tellCorner (l : Launch) (g : sv_G) (A : Nat → Prop) (ty : Nat → Nat) (σ : Nat → Nat → Int) (hok : sv_ok ty σ) (hTA : ∀ q, ty q ≠ 0 → A q) (hI : sv_inv sp_1 ty σ) (a : Nat) (k_a : ty a = 9) (v : Int) (h_v : (-2147483648) ≤ v ∧ v ≤ 2147483647) (zz : Int) (h_zz : 1 ≤ zz ∧ zz ≤ 12) (zB : Int) (h_zB : 0 ≤ zB ∧ zB ≤ 1440) (qc : Nat) (k_qc : ty qc = 40) (qr : Nat) (k_qr : ty qr = 41) (ea0 : σ a 0 = zz) (ea1 : σ a 1 = zB) (ea2 : σ a 2 = (qc : Int) + 1) (ea3 : σ a 3 = (qr : Int) + 1) : sv_M l yX5_tellCorner cX5_tellCorner 2 (some .int) { frames := 0, cells := 0, slots := 0, locals := 0 } g A ty σ [sv_r a, sv_i v] (fun r σ' => σ = σ' ∧ ∃ rv : Int, r = [sv_i rv] ∧ ((-2147483648) ≤ rv ∧ rv ≤ 2147483647) ∧ ((-2147483648) ≤ rv → rv ≤ 2147483647 → rv = zt2 zz (fun i => σ qc i) (fun i => zw (zB + σ qr i)) v)) := by
  refine sv_enter (by decide) (Nat.le_of_ble_eq_true rfl) ?_
  intro p e s m args below meth c C hr
  have C : sv_C g A RX5 cX5_tellCorner 2 p s m args meth c := C
  have hr : meth.sig.returnType = (some .int) := hr
  have hF : sv_ofx [] [] ty σ σ := sv_ofx.rf
  refine sv_same (st2 := []) (lv2 := [(0, sv_r a), (1, sv_i v)]) rfl rfl ?_
  refine sv_go C.1 C.2.1 [(.iload_n 1, 1), (.bipush 10, 2)] (pc' := 3) (by decide +kernel) rfl (lv' := [(0, sv_r a), (1, sv_i v)]) (st' := [sv_i 10, sv_i v]) rfl ?_
  refine sv_icmp C.1 C.2.1 (cnd := .lt) (off := 24) (tgt := 27) (by decide +kernel) (by decide) ⟨by omega, by omega⟩ ⟨by omega, by omega⟩ (fun (h1 : v < 10) => ?_) (fun (h1 : ¬ (v < 10)) => ?_)
  · refine sv_go C.1 C.2.1 [(.iload_n 1, 1), (.bipush 30, 2)] (pc' := 30) (by decide +kernel) rfl (lv' := [(0, sv_r a), (1, sv_i v)]) (st' := [sv_i 30, sv_i v]) rfl ?_
    refine sv_icmp_t C.1 C.2.1 (cnd := .lt) (off := 29) (tgt := 59) (by decide +kernel) (by decide) ⟨by omega, by omega⟩ ⟨by omega, by omega⟩ (show v < 30 by omega) ?_
    refine sv_go C.1 C.2.1 [(.iconst (-1), 1)] (pc' := 60) (by decide +kernel) rfl (lv' := [(0, sv_r a), (1, sv_i v)]) (st' := [sv_i ((-1))]) rfl ?_
    exact sv_iret C hr (by decide +kernel) hok (⟨rfl, ⟨_, rfl, ⟨by omega, by omega⟩, fun _ _ => (by unfold zt2; rw [if_neg (by omega), if_neg (by omega)])⟩⟩)
  · refine sv_go C.1 C.2.1 [(.iload_n 1, 1), (.bipush 10, 2), (.isub, 1), (.aload_n 0, 1)] (pc' := 11) (by decide +kernel) rfl (lv' := [(0, sv_r a), (1, sv_i v)]) (st' := [sv_r a, sv_i (v - 10)]) rfl ?_
    refine sv_gf C (index := 18) (ci := 4) (k := 0) (r := (RX5, TX5, 5)) (v := sv_i zz) (by decide +kernel) (by rw [k_a]; rfl) rfl (by decide) fl_X5_18 (congrArg sv_i ea0) ?_
    refine sv_icmp C.1 C.2.1 (cnd := .ge) (off := 13) (tgt := 27) (by decide +kernel) (by decide) ⟨by omega, by omega⟩ ⟨by omega, by omega⟩ (fun (h2 : zz ≤ (v - 10)) => ?_) (fun (h2 : ¬ (zz ≤ (v - 10))) => ?_)
    · refine sv_go C.1 C.2.1 [(.iload_n 1, 1), (.bipush 30, 2)] (pc' := 30) (by decide +kernel) rfl (lv' := [(0, sv_r a), (1, sv_i v)]) (st' := [sv_i 30, sv_i v]) rfl ?_
      refine sv_icmp C.1 C.2.1 (cnd := .lt) (off := 29) (tgt := 59) (by decide +kernel) (by decide) ⟨by omega, by omega⟩ ⟨by omega, by omega⟩ (fun (h3 : v < 30) => ?_) (fun (h3 : ¬ (v < 30)) => ?_)
      · refine sv_go C.1 C.2.1 [(.iconst (-1), 1)] (pc' := 60) (by decide +kernel) rfl (lv' := [(0, sv_r a), (1, sv_i v)]) (st' := [sv_i ((-1))]) rfl ?_
        exact sv_iret C hr (by decide +kernel) hok (⟨rfl, ⟨_, rfl, ⟨by omega, by omega⟩, fun _ _ => (by unfold zt2; rw [if_neg (by omega), if_neg (by omega)])⟩⟩)
      · refine sv_go C.1 C.2.1 [(.iload_n 1, 1), (.bipush 30, 2), (.isub, 1), (.aload_n 0, 1)] (pc' := 38) (by decide +kernel) rfl (lv' := [(0, sv_r a), (1, sv_i v)]) (st' := [sv_r a, sv_i (v - 30)]) rfl ?_
        refine sv_gf C (index := 18) (ci := 4) (k := 0) (r := (RX5, TX5, 5)) (v := sv_i zz) (by decide +kernel) (by rw [k_a]; rfl) rfl (by decide) fl_X5_18 (congrArg sv_i ea0) ?_
        refine sv_icmp C.1 C.2.1 (cnd := .ge) (off := 18) (tgt := 59) (by decide +kernel) (by decide) ⟨by omega, by omega⟩ ⟨by omega, by omega⟩ (fun (h4 : zz ≤ (v - 30)) => ?_) (fun (h4 : ¬ (zz ≤ (v - 30))) => ?_)
        · refine sv_go C.1 C.2.1 [(.iconst (-1), 1)] (pc' := 60) (by decide +kernel) rfl (lv' := [(0, sv_r a), (1, sv_i v)]) (st' := [sv_i ((-1))]) rfl ?_
          exact sv_iret C hr (by decide +kernel) hok (⟨rfl, ⟨_, rfl, ⟨by omega, by omega⟩, fun _ _ => (by unfold zt2; rw [if_neg (by omega), if_neg (by omega)])⟩⟩)
        · refine sv_go C.1 C.2.1 [(.aload_n 0, 1)] (pc' := 45) (by decide +kernel) rfl (lv' := [(0, sv_r a), (1, sv_i v)]) (st' := [sv_r a]) rfl ?_
          refine sv_gf C (index := 22) (ci := 4) (k := 1) (r := (RX5, TX5, 5)) (v := sv_i zB) (by decide +kernel) (by rw [k_a]; rfl) rfl (by decide) fl_X5_22 (congrArg sv_i ea1) ?_
          refine sv_go C.1 C.2.1 [(.aload_n 0, 1)] (pc' := 49) (by decide +kernel) rfl (lv' := [(0, sv_r a), (1, sv_i v)]) (st' := [sv_r a, sv_i zB]) rfl ?_
          refine sv_gf C (index := 15) (ci := 4) (k := 3) (r := (RX5, TX5, 5)) (v := sv_r qr) (by decide +kernel) (by rw [k_a]; rfl) rfl (by decide) fl_X5_15 (congrArg sv_a ea3) ?_
          refine sv_go C.1 C.2.1 [(.iload_n 1, 1), (.bipush 30, 2), (.isub, 1)] (pc' := 56) (by decide +kernel) rfl (lv' := [(0, sv_r a), (1, sv_i v)]) (st' := [sv_i (v - 30), sv_r qr, sv_i zB]) rfl ?_
          refine sv_ia C (n := 12) (by decide +kernel) (by rw [k_qr]; rfl) (by decide) (by omega) (by omega) ?_
          obtain ⟨v5, ev5, hv5⟩ := sv_rde hok (a := qr) (k := (v - 30 : Int).toNat) (n := 12) (by rw [k_qr]; rfl) (by omega)
          rw [ev5]
          refine sv_go C.1 C.2.1 [(.iadd, 1)] (pc' := 58) (by decide +kernel) rfl (lv' := [(0, sv_r a), (1, sv_i v)]) (st' := [sv_i (zB + v5)]) rfl ?_
          obtain ⟨w6, hw6, ew6⟩ := sv_wr (zB + v5)
          refine sv_sameD (st2 := [sv_i w6]) (lv2 := [(0, sv_r a), (1, sv_i v)]) (by simp only [List.map_cons, List.map_nil, sv_den_i, ew6]) rfl ?_
          exact sv_iret C hr (by decide +kernel) hok (⟨rfl, ⟨_, rfl, ⟨by omega, by omega⟩, fun _ _ => (by unfold zt2; rw [if_neg (by omega), if_pos ⟨by omega, by omega⟩]; show w6 = zw (zB + σ qr (v - 30).toNat); rw [ev5]; exact zw_eq hw6 ew6)⟩⟩)
    · refine sv_go C.1 C.2.1 [(.aload_n 0, 1)] (pc' := 18) (by decide +kernel) rfl (lv' := [(0, sv_r a), (1, sv_i v)]) (st' := [sv_r a]) rfl ?_
      refine sv_gf C (index := 9) (ci := 4) (k := 2) (r := (RX5, TX5, 5)) (v := sv_r qc) (by decide +kernel) (by rw [k_a]; rfl) rfl (by decide) fl_X5_9 (congrArg sv_a ea2) ?_
      refine sv_go C.1 C.2.1 [(.iload_n 1, 1), (.bipush 10, 2), (.isub, 1)] (pc' := 25) (by decide +kernel) rfl (lv' := [(0, sv_r a), (1, sv_i v)]) (st' := [sv_i (v - 10), sv_r qc]) rfl ?_
      refine sv_ia C (n := 12) (by decide +kernel) (by rw [k_qc]; rfl) (by decide) (by omega) (by omega) ?_
      obtain ⟨v7, ev7, hv7⟩ := sv_rdn hI (k := (v - 10 : Int).toNat) k_qc rfl
      rw [ev7]
      exact sv_iret C hr (by decide +kernel) hok (⟨rfl, ⟨_, rfl, ⟨by omega, by omega⟩, fun _ _ => (by unfold zt2; rw [if_pos ⟨by omega, by omega⟩]; show v7 = σ qc (v - 10).toNat; omega)⟩⟩)

set_option maxHeartbeats 4000000 in
set_option maxRecDepth 100000 in
theorem ct_X5_tell (l : Launch) (g : sv_G) (A : Nat → Prop) (ty : Nat → Nat) (σ : Nat → Nat → Int) (hok : sv_ok ty σ) (hTA : ∀ q, ty q ≠ 0 → A q) (hI : sv_inv sp_1 ty σ) (a : Nat) (k_a : ty a = 9) (v : Int) (h_v : (-2147483648) ≤ v ∧ v ≤ 2147483647) (zz : Int) (h_zz : 1 ≤ zz ∧ zz ≤ 12) (zB : Int) (h_zB : 0 ≤ zB ∧ zB ≤ 1440) (zT : Int) (h_zT : 0 ≤ zT ∧ zT ≤ 30) (qc : Nat) (k_qc : ty qc = 40) (qr : Nat) (k_qr : ty qr = 41) (ea0 : σ a 0 = zz) (ea1 : σ a 1 = zB) (ea4 : σ a 4 = zT) (ea2 : σ a 2 = (qc : Int) + 1) (ea3 : σ a 3 = (qr : Int) + 1) : sv_M l yX5_tell cX5_tell 2 (some .int) { frames := 1, cells := 0, slots := 0, locals := 21 } g A ty σ [sv_r a, sv_i v] (fun r σ' => σ = σ' ∧ ∃ rv : Int, r = [sv_i rv] ∧ ((-2147483648) ≤ rv ∧ rv ≤ 2147483647) ∧ ((-2147483648) ≤ rv → rv ≤ 2147483647 → rv = zt zz zB (zw (zB + σ qr (zz - 1).toNat + zT)) (fun i => σ qc i) (fun i => zw (zB + σ qr i)) v)) := by
  refine sv_enter (by decide) (Nat.le_of_ble_eq_true rfl) ?_
  intro p e s m args below meth c C hr
  have C : sv_C g A RX5 cX5_tell 2 p s m args meth c := C
  have hr : meth.sig.returnType = (some .int) := hr
  have hF : sv_ofx [] [] ty σ σ := sv_ofx.rf
  refine sv_same (st2 := []) (lv2 := [(0, sv_r a), (1, sv_i v)]) rfl rfl ?_
  refine sv_go C.1 C.2.1 [(.iload_n 1, 1)] (pc' := 1) (by decide +kernel) rfl (lv' := [(0, sv_r a), (1, sv_i v)]) (st' := [sv_i v]) rfl ?_
  rcases (show v = 0 ∨ v = 1 ∨ v = 2 ∨ (v ≠ 0 ∧ v ≠ 1 ∧ v ≠ 2) by omega) with h1 | h1 | h1 | h1
  · refine sv_tsI C.1 C.2.1 (dflt := 69) (lo := 0) (hi := 2) (offs := #[27, 32, 37]) (len := 27) (off := 27) (tgt := 28) (by decide +kernel) 0 h1 (by decide) rfl (by decide) ?_
    refine sv_go C.1 C.2.1 [(.aload_n 0, 1)] (pc' := 29) (by decide +kernel) rfl (lv' := [(0, sv_r a), (1, sv_i v)]) (st' := [sv_r a]) rfl ?_
    refine sv_gf C (index := 18) (ci := 4) (k := 0) (r := (RX5, TX5, 5)) (v := sv_i zz) (by decide +kernel) (by rw [k_a]; rfl) rfl (by decide) fl_X5_18 (congrArg sv_i ea0) ?_
    exact sv_iret C hr (by decide +kernel) hok (⟨rfl, ⟨_, rfl, ⟨by omega, by omega⟩, fun _ _ => (by unfold zt; first | (rw [if_pos (by omega)]) | (rw [if_neg (by omega), if_pos (by omega)]))⟩⟩)
  · refine sv_tsI C.1 C.2.1 (dflt := 69) (lo := 0) (hi := 2) (offs := #[27, 32, 37]) (len := 27) (off := 32) (tgt := 33) (by decide +kernel) 1 h1 (by decide) rfl (by decide) ?_
    refine sv_go C.1 C.2.1 [(.aload_n 0, 1)] (pc' := 34) (by decide +kernel) rfl (lv' := [(0, sv_r a), (1, sv_i v)]) (st' := [sv_r a]) rfl ?_
    refine sv_gf C (index := 22) (ci := 4) (k := 1) (r := (RX5, TX5, 5)) (v := sv_i zB) (by decide +kernel) (by rw [k_a]; rfl) rfl (by decide) fl_X5_22 (congrArg sv_i ea1) ?_
    exact sv_iret C hr (by decide +kernel) hok (⟨rfl, ⟨_, rfl, ⟨by omega, by omega⟩, fun _ _ => (by unfold zt; first | (rw [if_pos (by omega)]) | (rw [if_neg (by omega), if_pos (by omega)]))⟩⟩)
  · refine sv_tsI C.1 C.2.1 (dflt := 69) (lo := 0) (hi := 2) (offs := #[27, 32, 37]) (len := 27) (off := 37) (tgt := 38) (by decide +kernel) 2 h1 (by decide) rfl (by decide) ?_
    refine sv_go C.1 C.2.1 [(.aload_n 0, 1)] (pc' := 39) (by decide +kernel) rfl (lv' := [(0, sv_r a), (1, sv_i v)]) (st' := [sv_r a]) rfl ?_
    refine sv_gf C (index := 18) (ci := 4) (k := 0) (r := (RX5, TX5, 5)) (v := sv_i zz) (by decide +kernel) (by rw [k_a]; rfl) rfl (by decide) fl_X5_18 (congrArg sv_i ea0) ?_
    refine sv_if_f C.1 C.2.1 (cnd := .le) (off := 26) (tgt := 68) (by decide +kernel) (by decide) ⟨by omega, by omega⟩ (show ¬ (zz ≤ 0) by omega) ?_
    refine sv_go C.1 C.2.1 [(.aload_n 0, 1)] (pc' := 46) (by decide +kernel) rfl (lv' := [(0, sv_r a), (1, sv_i v)]) (st' := [sv_r a]) rfl ?_
    refine sv_gf C (index := 22) (ci := 4) (k := 1) (r := (RX5, TX5, 5)) (v := sv_i zB) (by decide +kernel) (by rw [k_a]; rfl) rfl (by decide) fl_X5_22 (congrArg sv_i ea1) ?_
    refine sv_go C.1 C.2.1 [(.aload_n 0, 1), (.aload_n 0, 1)] (pc' := 51) (by decide +kernel) rfl (lv' := [(0, sv_r a), (1, sv_i v)]) (st' := [sv_r a, sv_r a, sv_i zB]) rfl ?_
    refine sv_cv C (index := 28) (k := 0) (rest := [sv_r a, sv_i zB]) (ci := 4) (r := (RX5, TX5, 5)) (by decide +kernel) (sf_X5_stretches l g A ty σ hok hTA hI a k_a) ⟨co_X5_stretches, in_X5, ⟨by decide, by decide, by decide +kernel⟩, Nat.le_of_ble_eq_true rfl, Nat.le_of_ble_eq_true rfl⟩ ml_X5_28 im_X5_stretches se_X5_stretches (by rw [k_a]; rfl) rfl rfl rfl (Nat.le_of_ble_eq_true rfl) ⟨Nat.zero_le _, Nat.zero_le _⟩ (fun r3 σ4 hpo2 hok5 => ?_)
    obtain ⟨rfl, ⟨vu6, rfl, hvu6, ivu6_0⟩⟩ := hpo2
    have hp7 := ivu6_0 (by omega) (by omega)
    refine sv_same (st2 := [sv_i vu6, sv_r a, sv_i zB]) (lv2 := [(0, sv_r a), (1, sv_i v)]) rfl rfl ?_
    refine sv_go C.1 C.2.1 [(.iconst 1, 1), (.isub, 1)] (pc' := 56) (by decide +kernel) rfl (lv' := [(0, sv_r a), (1, sv_i v)]) (st' := [sv_i (vu6 - 1), sv_r a, sv_i zB]) rfl ?_
    refine sv_cv C (index := 32) (k := 1) (rest := [sv_i zB]) (ci := 4) (r := (RX5, TX5, 5)) (by decide +kernel) (ct_X5_comes l g A ty σ hok5 hTA hI a k_a (vu6 - 1) ⟨by omega, by omega⟩ qr k_qr ea3) ⟨co_X5_comes, in_X5, ⟨by decide, by decide, by decide +kernel⟩, Nat.le_of_ble_eq_true rfl, Nat.le_of_ble_eq_true rfl⟩ ml_X5_32 im_X5_comes se_X5_comes (by rw [k_a]; rfl) rfl rfl rfl (Nat.le_of_ble_eq_true rfl) ⟨Nat.zero_le _, Nat.zero_le _⟩ (fun r9 σ10 hpo8 hok11 => ?_)
    obtain ⟨rfl, ⟨vu12, rfl, hvu12, ivu12_0⟩⟩ := hpo8
    have hp13 := ivu12_0 (by omega) (by omega)
    refine sv_same (st2 := [sv_i vu12, sv_i zB]) (lv2 := [(0, sv_r a), (1, sv_i v)]) rfl rfl ?_
    refine sv_go C.1 C.2.1 [(.iadd, 1), (.aload_n 0, 1)] (pc' := 61) (by decide +kernel) rfl (lv' := [(0, sv_r a), (1, sv_i v)]) (st' := [sv_r a, sv_i (zB + vu12)]) rfl ?_
    refine sv_gf C (index := 25) (ci := 4) (k := 4) (r := (RX5, TX5, 5)) (v := sv_i zT) (by decide +kernel) (by rw [k_a]; rfl) rfl (by decide) fl_X5_25 (congrArg sv_i ea4) ?_
    refine sv_go C.1 C.2.1 [(.iadd, 1)] (pc' := 65) (by decide +kernel) rfl (lv' := [(0, sv_r a), (1, sv_i v)]) (st' := [sv_i ((zB + vu12) + zT)]) rfl ?_
    refine sv_goto C.1 C.2.1 (off := 4) (tgt := 69) (by decide +kernel) (by decide) ?_
    obtain ⟨w14, hw14, ew14⟩ := sv_wr ((zB + vu12) + zT)
    refine sv_sameD (st2 := [sv_i w14]) (lv2 := [(0, sv_r a), (1, sv_i v)]) (by simp only [List.map_cons, List.map_nil, sv_den_i, ew14]) rfl ?_
    exact sv_iret C hr (by decide +kernel) hok11 (⟨rfl, ⟨_, rfl, ⟨by omega, by omega⟩, fun _ _ => (by unfold zt; rw [if_neg (by omega), if_neg (by omega), if_pos (by omega), ← show ((vu6 - 1) / 2 : Int).toNat = (zz - 1).toNat by omega, ← hp13]; exact zw_eq hw14 ew14)⟩⟩)
  · refine sv_tsO C.1 C.2.1 (dflt := 69) (lo := 0) (hi := 2) (offs := #[27, 32, 37]) (len := 27) (tgt := 70) (by decide +kernel) ⟨by omega, by omega⟩ (by omega) (by decide) ?_
    refine sv_go C.1 C.2.1 [(.aload_n 0, 1), (.iload_n 1, 1)] (pc' := 72) (by decide +kernel) rfl (lv' := [(0, sv_r a), (1, sv_i v)]) (st' := [sv_i v, sv_r a]) rfl ?_
    refine sv_cv C (index := 36) (k := 1) (rest := []) (ci := 4) (r := (RX5, TX5, 5)) (by decide +kernel) (ct_X5_tellCorner l g A ty σ hok hTA hI a k_a (v) ⟨by omega, by omega⟩ (zz) ⟨by omega, by omega⟩ (zB) ⟨by omega, by omega⟩ qc k_qc qr k_qr ea0 ea1 ea2 ea3) ⟨co_X5_tellCorner, in_X5, ⟨by decide, by decide, by decide +kernel⟩, Nat.le_of_ble_eq_true rfl, Nat.le_of_ble_eq_true rfl⟩ ml_X5_36 im_X5_tellCorner se_X5_tellCorner (by rw [k_a]; rfl) rfl rfl rfl (Nat.le_of_ble_eq_true rfl) ⟨Nat.zero_le _, Nat.zero_le _⟩ (fun r16 σ17 hpo15 hok18 => ?_)
    obtain ⟨rfl, ⟨vu19, rfl, hvu19, ivu19_0⟩⟩ := hpo15
    have hp20 := ivu19_0 (by omega) (by omega)
    refine sv_same (st2 := [sv_i vu19]) (lv2 := [(0, sv_r a), (1, sv_i v)]) rfl rfl ?_
    exact sv_iret C hr (by decide +kernel) hok18 (⟨rfl, ⟨_, rfl, ⟨by omega, by omega⟩, fun _ _ => (by unfold zt; rw [if_neg (by omega), if_neg (by omega), if_neg (by omega)]; exact hp20)⟩⟩)

set_option maxHeartbeats 4000000 in
set_option maxRecDepth 100000 in
theorem ct_X9_procession (l : Launch) (g : sv_G) (A : Nat → Prop) (ty : Nat → Nat) (σ : Nat → Nat → Int) (hok : sv_ok ty σ) (hTA : ∀ q, ty q ≠ 0 → A q) (hI : sv_inv sp_1 ty σ) (a : Nat) (k_a : ty a = 1) (ar1 : Int) (h_ar1 : (-2147483648) ≤ ar1 ∧ ar1 ≤ 2147483647) (ar2 : Int) (h_ar2 : (-2147483648) ≤ ar2 ∧ ar2 ≤ 2147483647) (tq : Nat) (k_tq : ty tq = 6) (bq : Nat) (k_bq : ty bq = 37) (et : σ a 4 = (tq : Int) + 1) (eb : σ tq 0 = (bq : Int) + 1) : sv_M l yX9_procession cX9_procession 3 (some .int) { frames := 2, cells := 0, slots := 0, locals := 42 } g A ty σ [sv_r a, sv_i ar1, sv_i ar2] (fun r σ' => σ = σ' ∧ ∃ rv : Int, r = [sv_i rv] ∧ ((-2147483648) ≤ rv ∧ rv ≤ 2147483647) ∧ ((-2147483648) ≤ rv → rv ≤ 2147483647 → zc_tell σ bq ar1 ar2 rv)) := by
  refine sv_enter (by decide) (Nat.le_of_ble_eq_true rfl) ?_
  intro p e s m args below meth c C hr
  have C : sv_C g A RX9 cX9_procession 3 p s m args meth c := C
  have hr : meth.sig.returnType = (some .int) := hr
  have hF : sv_ofx [] [] ty σ σ := sv_ofx.rf
  refine sv_same (st2 := []) (lv2 := [(0, sv_r a), (1, sv_i ar1), (2, sv_i ar2)]) rfl rfl ?_
  refine sv_go C.1 C.2.1 [(.aload_n 0, 1), (.iload_n 1, 1), (.iconst 1, 1)] (pc' := 3) (by decide +kernel) rfl (lv' := [(0, sv_r a), (1, sv_i ar1), (2, sv_i ar2)]) (st' := [sv_i 1, sv_i ar1, sv_r a]) rfl ?_
  refine sv_cv C (index := 200) (k := 2) (rest := []) (ci := 8) (r := (RX9, TX9, 6)) (by decide +kernel) (ct_X9_isLong l g A ty σ hok hTA hI a k_a (ar1) ⟨by omega, by omega⟩ (1) ⟨by omega, by omega⟩ tq k_tq bq k_bq et eb) ⟨co_X9_isLong, in_X9, ⟨by decide, by decide, by decide +kernel⟩, Nat.le_of_ble_eq_true rfl, Nat.le_of_ble_eq_true rfl⟩ ml_X9_200 im_X9_isLong se_X9_isLong (by rw [k_a]; rfl) rfl rfl rfl (Nat.le_of_ble_eq_true rfl) ⟨Nat.zero_le _, Nat.zero_le _⟩ (fun r2 σ3 hpo1 hok4 => ?_)
  obtain ⟨rfl, ⟨vu5, rfl, hvu5, ivu5_0, ivu5_1⟩⟩ := hpo1
  refine sv_same (st2 := [sv_i vu5]) (lv2 := [(0, sv_r a), (1, sv_i ar1), (2, sv_i ar2)]) rfl rfl ?_
  refine sv_if C.1 C.2.1 (cnd := .eq) (off := 19) (tgt := 25) (by decide +kernel) (by decide) ⟨by omega, by omega⟩ (fun (h6 : vu5 = 0) => ?_) (fun (h6 : ¬ (vu5 = 0)) => ?_)
  · have hp7 := ivu5_1 (by omega) (by omega)
    refine sv_go C.1 C.2.1 [(.iconst (-1), 1)] (pc' := 26) (by decide +kernel) rfl (lv' := [(0, sv_r a), (1, sv_i ar1), (2, sv_i ar2)]) (st' := [sv_i ((-1))]) rfl ?_
    exact sv_iret C hr (by decide +kernel) hok4 (⟨rfl, ⟨_, rfl, ⟨by omega, by omega⟩, fun _ _ => ⟨fun _ => rfl, fun P c r z B T hk q1 q2 q3 q4 q5 q6 => by have hz := hp7 hk P q1; exact ⟨fun _ => rfl, fun h => by exfalso; omega⟩⟩⟩⟩)
  · have hp8 := ivu5_0 (by omega) (by omega)
    refine sv_go C.1 C.2.1 [(.aload_n 0, 1)] (pc' := 10) (by decide +kernel) rfl (lv' := [(0, sv_r a), (1, sv_i ar1), (2, sv_i ar2)]) (st' := [sv_r a]) rfl ?_
    refine sv_gf C (index := 40) (ci := 8) (k := 4) (r := (RX9, TX9, 6)) (v := sv_r tq) (by decide +kernel) (by rw [k_a]; rfl) rfl (by decide) fl_X9_40 (congrArg sv_a et) ?_
    refine sv_gf C (index := 190) (ci := 7) (k := 0) (r := (RX8, TX8, 4)) (v := sv_r bq) (by decide +kernel) (by rw [k_tq]; rfl) rfl (by decide) fl_X9_190 (congrArg sv_a eb) ?_
    refine sv_go C.1 C.2.1 [(.iload_n 1, 1)] (pc' := 17) (by decide +kernel) rfl (lv' := [(0, sv_r a), (1, sv_i ar1), (2, sv_i ar2)]) (st' := [sv_i ar1, sv_r bq]) rfl ?_
    refine sv_aa C (N := "SaintsRoad$Procession") (by decide) (n := 12) (by decide +kernel) (by rw [k_bq]; rfl) (by decide) (by omega) (by omega) ?_
    obtain ⟨v9, ev9, kv9⟩ := hI.ref (k := (ar1 : Int).toNat) k_bq (by first | rfl | (show (if _ then _ else _) = _; rw [if_pos (by omega)]))
    rw [ev9]
    refine sv_go C.1 C.2.1 [(.iload_n 2, 1)] (pc' := 19) (by decide +kernel) rfl (lv' := [(0, sv_r a), (1, sv_i ar1), (2, sv_i ar2)]) (st' := [sv_i ar2, sv_r v9]) rfl ?_
    obtain ⟨gn10, egn10, hgn10⟩ := sv_rdn hI (k := 0) kv9 rfl
    obtain ⟨gn11, egn11, hgn11⟩ := sv_rdn hI (k := 1) kv9 rfl
    obtain ⟨gq12, egq12, kgq12⟩ := hI.ref (k := 2) kv9 rfl
    obtain ⟨gq13, egq13, kgq13⟩ := hI.ref (k := 3) kv9 rfl
    obtain ⟨gn14, egn14, hgn14⟩ := sv_rdn hI (k := 4) kv9 rfl
    have hz1 := (hp8).2 v9 ev9
    refine sv_cv C (index := 217) (k := 1) (rest := []) (ci := 4) (r := (RX5, TX5, 5)) (by decide +kernel) (ct_X5_tell l g A ty σ hok4 hTA hI v9 kv9 (ar2) ⟨by omega, by omega⟩ (gn10) ⟨by omega, by omega⟩ (gn11) ⟨by omega, by omega⟩ (gn14) ⟨by omega, by omega⟩ gq12 kgq12 gq13 kgq13 egn10 egn11 egn14 egq12 egq13) ⟨co_X5_tell, in_X5, ⟨by decide, by decide, by decide +kernel⟩, Nat.le_of_ble_eq_true rfl, Nat.le_of_ble_eq_true rfl⟩ ml_X9_217 im_X5_tell se_X5_tell (by rw [kv9]; rfl) rfl rfl rfl (Nat.le_of_ble_eq_true rfl) ⟨Nat.zero_le _, Nat.zero_le _⟩ (fun r16 σ17 hpo15 hok18 => ?_)
    obtain ⟨rfl, ⟨vu19, rfl, hvu19, ivu19_0⟩⟩ := hpo15
    have hp20 := ivu19_0 (by omega) (by omega)
    refine sv_same (st2 := [sv_i vu19]) (lv2 := [(0, sv_r a), (1, sv_i ar1), (2, sv_i ar2)]) rfl rfl ?_
    refine sv_goto C.1 C.2.1 (off := 4) (tgt := 26) (by decide +kernel) (by decide) ?_
    exact sv_iret C hr (by decide +kernel) hok18 (⟨rfl, ⟨_, rfl, ⟨by omega, by omega⟩, fun _ _ => ⟨fun h => by exfalso; omega, fun P c r z B T hk q1 q2 q3 q4 q5 q6 => by have tP : v9 = P := (by omega); subst tP; have tc : gq12 = c := (by omega); subst tc; have tr : gq13 = r := (by omega); subst tr; have tz : gn10 = z := (by omega); subst tz; have tB : gn11 = B := (by omega); subst tB; have tT : gn14 = T := (by omega); subst tT; exact ⟨fun h => by exfalso; omega, fun _ => hp20⟩⟩⟩⟩)

set_option maxHeartbeats 4000000 in
set_option maxRecDepth 100000 in
theorem ct_X11_headAt (l : Launch) (g : sv_G) (A : Nat → Prop) (ty : Nat → Nat) (σ : Nat → Nat → Int) (hok : sv_ok ty σ) (hTA : ∀ q, ty q ≠ 0 → A q) (hI : sv_inv sp_1 ty σ) (a : Nat) (k_a : ty a = 10) (v : Int) (h_v : 0 ≤ v ∧ v ≤ 11) (w : Int) (h_w : 0 ≤ w ∧ w ≤ 11) (s2 : Nat) (k_s2 : ty s2 = 103) (s5 : Nat) (k_s5 : ty s5 = 106) (es2 : σ a 43 = (s2 : Int) + 1) (es5 : σ a 46 = (s5 : Int) + 1) : sv_M l yX11_headAt cX11_headAt 3 (some .int) { frames := 0, cells := 0, slots := 0, locals := 0 } g A ty σ [sv_r a, sv_i v, sv_i w] (fun r σ' => σ = σ' ∧ ∃ rv : Int, r = [sv_i rv] ∧ ((-2147483648) ≤ rv ∧ rv ≤ 2147483647) ∧ ((-2147483648) ≤ rv → rv ≤ 2147483647 → rv = zw (σ s2 v.toNat + σ s5 (12 * v + w).toNat))) := by
  refine sv_enter (by decide) (Nat.le_of_ble_eq_true rfl) ?_
  intro p e s m args below meth c C hr
  have C : sv_C g A RX11 cX11_headAt 3 p s m args meth c := C
  have hr : meth.sig.returnType = (some .int) := hr
  have hF : sv_ofx [] [] ty σ σ := sv_ofx.rf
  refine sv_same (st2 := []) (lv2 := [(0, sv_r a), (1, sv_i v), (2, sv_i w)]) rfl rfl ?_
  refine sv_go C.1 C.2.1 [(.aload_n 0, 1)] (pc' := 1) (by decide +kernel) rfl (lv' := [(0, sv_r a), (1, sv_i v), (2, sv_i w)]) (st' := [sv_r a]) rfl ?_
  refine sv_gf C (index := 154) (ci := 10) (k := 43) (r := (RX11, TX11, 47)) (v := sv_r s2) (by decide +kernel) (by rw [k_a]; rfl) rfl (by decide) fl_X11_154 (congrArg sv_a es2) ?_
  refine sv_go C.1 C.2.1 [(.iload_n 1, 1)] (pc' := 5) (by decide +kernel) rfl (lv' := [(0, sv_r a), (1, sv_i v), (2, sv_i w)]) (st' := [sv_i v, sv_r s2]) rfl ?_
  refine sv_ia C (n := 12) (by decide +kernel) (by rw [k_s2]; rfl) (by decide) (by omega) (by omega) ?_
  obtain ⟨v1, ev1, hv1⟩ := sv_rdn hI (k := (v : Int).toNat) k_s2 rfl
  rw [ev1]
  refine sv_go C.1 C.2.1 [(.aload_n 0, 1)] (pc' := 7) (by decide +kernel) rfl (lv' := [(0, sv_r a), (1, sv_i v), (2, sv_i w)]) (st' := [sv_r a, sv_i v1]) rfl ?_
  refine sv_gf C (index := 163) (ci := 10) (k := 46) (r := (RX11, TX11, 47)) (v := sv_r s5) (by decide +kernel) (by rw [k_a]; rfl) rfl (by decide) fl_X11_163 (congrArg sv_a es5) ?_
  refine sv_go C.1 C.2.1 [(.bipush 12, 2), (.iload_n 1, 1), (.imul, 1), (.iload_n 2, 1), (.iadd, 1)] (pc' := 16) (by decide +kernel) rfl (lv' := [(0, sv_r a), (1, sv_i v), (2, sv_i w)]) (st' := [sv_i ((12 * v) + w), sv_r s5, sv_i v1]) rfl ?_
  refine sv_ia C (n := 144) (by decide +kernel) (by rw [k_s5]; rfl) (by decide) (by omega) (by omega) ?_
  obtain ⟨v2, ev2, hv2⟩ := sv_rde hok (a := s5) (k := ((12 * v) + w : Int).toNat) (n := 144) (by rw [k_s5]; rfl) (by omega)
  rw [ev2]
  refine sv_go C.1 C.2.1 [(.iadd, 1)] (pc' := 18) (by decide +kernel) rfl (lv' := [(0, sv_r a), (1, sv_i v), (2, sv_i w)]) (st' := [sv_i (v1 + v2)]) rfl ?_
  obtain ⟨w3, hw3, ew3⟩ := sv_wr (v1 + v2)
  refine sv_sameD (st2 := [sv_i w3]) (lv2 := [(0, sv_r a), (1, sv_i v), (2, sv_i w)]) (by simp only [List.map_cons, List.map_nil, sv_den_i, ew3]) rfl ?_
  exact sv_iret C hr (by decide +kernel) hok (⟨rfl, ⟨_, rfl, ⟨by omega, by omega⟩, fun _ _ => (by (try rw [ev1]); (try rw [ev2]); exact zw_eq hw3 ew3)⟩⟩)

set_option maxHeartbeats 4000000 in
set_option maxRecDepth 100000 in
theorem ct_X11_procession (l : Launch) (g : sv_G) (A : Nat → Prop) (ty : Nat → Nat) (σ : Nat → Nat → Int) (hok : sv_ok ty σ) (hTA : ∀ q, ty q ≠ 0 → A q) (hI : sv_inv sp_1 ty σ) (a : Nat) (k_a : ty a = 10) (ar1 : Int) (h_ar1 : (-2147483648) ≤ ar1 ∧ ar1 ≤ 2147483647) (ar2 : Int) (h_ar2 : (-2147483648) ≤ ar2 ∧ ar2 ≤ 2147483647) (s1 : Nat) (k_s1 : ty s1 = 102) (s2 : Nat) (k_s2 : ty s2 = 103) (s3 : Nat) (k_s3 : ty s3 = 104) (s4 : Nat) (k_s4 : ty s4 = 105) (s5 : Nat) (k_s5 : ty s5 = 106) (es1 : σ a 42 = (s1 : Int) + 1) (es2 : σ a 43 = (s2 : Int) + 1) (es3 : σ a 44 = (s3 : Int) + 1) (es4 : σ a 45 = (s4 : Int) + 1) (es5 : σ a 46 = (s5 : Int) + 1) : sv_M l yX11_procession cX11_procession 3 (some .int) { frames := 2, cells := 0, slots := 0, locals := 45 } g A ty σ [sv_r a, sv_i ar1, sv_i ar2] (fun r σ' => σ = σ' ∧ ∃ rv : Int, r = [sv_i rv] ∧ ((-2147483648) ≤ rv ∧ rv ≤ 2147483647) ∧ ((-2147483648) ≤ rv → rv ≤ 2147483647 → zm_tell σ s1 s2 s3 s4 s5 ar1 ar2 rv)) := by
  refine sv_enter (by decide) (Nat.le_of_ble_eq_true rfl) ?_
  intro p e s m args below meth c C hr
  have C : sv_C g A RX11 cX11_procession 3 p s m args meth c := C
  have hr : meth.sig.returnType = (some .int) := hr
  have hF : sv_ofx [] [] ty σ σ := sv_ofx.rf
  refine sv_same (st2 := []) (lv2 := [(0, sv_r a), (1, sv_i ar1), (2, sv_i ar2)]) rfl rfl ?_
  refine sv_go C.1 C.2.1 [(.iload_n 1, 1)] (pc' := 1) (by decide +kernel) rfl (lv' := [(0, sv_r a), (1, sv_i ar1), (2, sv_i ar2)]) (st' := [sv_i ar1]) rfl ?_
  refine sv_cs C (index := 345) (k := 1) (rest := []) (by decide +kernel) (sf2_X11_isWalk l g A ty σ hok hTA hI (ar1) ⟨by omega, by omega⟩) ⟨co_X11_isWalk, in_X11, ⟨by decide, by decide, by decide +kernel⟩, Nat.le_of_ble_eq_true rfl, Nat.le_of_ble_eq_true rfl⟩ ml_X11_345 st_X11_isWalk rfl rfl (Nat.le_of_ble_eq_true rfl) ⟨Nat.zero_le _, Nat.zero_le _⟩ (fun r2 σ3 hpo1 hok4 => ?_)
  obtain ⟨rfl, ⟨vu5, rfl, hvu5, ivu5_0, ivu5_1⟩⟩ := hpo1
  refine sv_same (st2 := [sv_i vu5]) (lv2 := [(0, sv_r a), (1, sv_i ar1), (2, sv_i ar2)]) rfl rfl ?_
  refine sv_if C.1 C.2.1 (cnd := .eq) (off := 12) (tgt := 16) (by decide +kernel) (by decide) ⟨by omega, by omega⟩ (fun (h6 : vu5 = 0) => ?_) (fun (h6 : ¬ (vu5 = 0)) => ?_)
  · have hp7 := ivu5_1 (by omega) (by omega)
    refine sv_go C.1 C.2.1 [(.iconst (-1), 1)] (pc' := 17) (by decide +kernel) rfl (lv' := [(0, sv_r a), (1, sv_i ar1), (2, sv_i ar2)]) (st' := [sv_i ((-1))]) rfl ?_
    exact sv_iret C hr (by decide +kernel) hok4 (⟨rfl, ⟨_, rfl, ⟨by omega, by omega⟩, fun _ _ => ⟨fun _ => rfl, fun z B T hk q1 q2 q3 => ⟨fun _ => rfl, fun h => by exfalso; omega⟩⟩⟩⟩)
  · have hp8 := ivu5_0 (by omega) (by omega)
    refine sv_go C.1 C.2.1 [(.aload_n 0, 1)] (pc' := 8) (by decide +kernel) rfl (lv' := [(0, sv_r a), (1, sv_i ar1), (2, sv_i ar2)]) (st' := [sv_r a]) rfl ?_
    refine sv_gf C (index := 151) (ci := 10) (k := 42) (r := (RX11, TX11, 47)) (v := sv_r s1) (by decide +kernel) (by rw [k_a]; rfl) rfl (by decide) fl_X11_151 (congrArg sv_a es1) ?_
    refine sv_go C.1 C.2.1 [(.iload_n 1, 1)] (pc' := 12) (by decide +kernel) rfl (lv' := [(0, sv_r a), (1, sv_i ar1), (2, sv_i ar2)]) (st' := [sv_i ar1, sv_r s1]) rfl ?_
    refine sv_ia C (n := 12) (by decide +kernel) (by rw [k_s1]; rfl) (by decide) (by omega) (by omega) ?_
    obtain ⟨v9, ev9, hv9⟩ := sv_rdn hI (k := (ar1 : Int).toNat) k_s1 rfl
    rw [ev9]
    refine sv_if C.1 C.2.1 (cnd := .ne) (off := 5) (tgt := 18) (by decide +kernel) (by decide) ⟨by omega, by omega⟩ (fun (h10 : v9 ≠ 0) => ?_) (fun (h10 : ¬ (v9 ≠ 0)) => ?_)
    · refine sv_go C.1 C.2.1 [(.iload_n 2, 1)] (pc' := 19) (by decide +kernel) rfl (lv' := [(0, sv_r a), (1, sv_i ar1), (2, sv_i ar2)]) (st' := [sv_i ar2]) rfl ?_
      refine sv_i2l C.1 C.2.1 (by decide +kernel) ⟨by omega, by omega⟩ ?_
      refine sv_ldc2 C (index := 290) (z := 10) (by decide +kernel) cl_X11_290 (by decide) ?_
      refine sv_ldc2 C (index := 292) (z := 9) (by decide +kernel) cl_X11_292 (by decide) ?_
      refine sv_go C.1 C.2.1 [(.aload_n 0, 1)] (pc' := 27) (by decide +kernel) rfl (lv' := [(0, sv_r a), (1, sv_i ar1), (2, sv_i ar2)]) (st' := [sv_r a, sv_l 9, sv_l 10, sv_l ar2]) rfl ?_
      refine sv_gf C (index := 151) (ci := 10) (k := 42) (r := (RX11, TX11, 47)) (v := sv_r s1) (by decide +kernel) (by rw [k_a]; rfl) rfl (by decide) fl_X11_151 (congrArg sv_a es1) ?_
      refine sv_go C.1 C.2.1 [(.iload_n 1, 1)] (pc' := 31) (by decide +kernel) rfl (lv' := [(0, sv_r a), (1, sv_i ar1), (2, sv_i ar2)]) (st' := [sv_i ar1, sv_r s1, sv_l 9, sv_l 10, sv_l ar2]) rfl ?_
      refine sv_ia C (n := 12) (by decide +kernel) (by rw [k_s1]; rfl) (by decide) (by omega) (by omega) ?_
      rw [ev9]
      refine sv_i2l C.1 C.2.1 (by decide +kernel) ⟨by omega, by omega⟩ ?_
      refine sv_go C.1 C.2.1 [(.ladd, 1)] (pc' := 34) (by decide +kernel) rfl (lv' := [(0, sv_r a), (1, sv_i ar1), (2, sv_i ar2)]) (st' := [sv_l (9 + v9), sv_l 10, sv_l ar2]) rfl ?_
      refine sv_cs C (index := 9) (k := 3) (rest := []) (by decide +kernel) (ct_X11_in l g A ty σ hok4 (ar2) ⟨by omega, by omega⟩ (10) ⟨by omega, by omega⟩ (9 + v9) ⟨by omega, by omega⟩) ⟨co_X11_in, in_X11, ⟨by decide, by decide, by decide +kernel⟩, Nat.le_of_ble_eq_true rfl, Nat.le_of_ble_eq_true rfl⟩ ml_X11_9 st_X11_in rfl rfl (Nat.le_of_ble_eq_true rfl) ⟨Nat.zero_le _, Nat.zero_le _⟩ (fun r12 σ13 hpo11 hok14 => ?_)
      obtain ⟨rfl, ⟨h15, rfl⟩ | ⟨h15, rfl⟩⟩ := hpo11
      · refine sv_same (st2 := [sv_i 1]) (lv2 := [(0, sv_r a), (1, sv_i ar1), (2, sv_i ar2)]) rfl rfl ?_
        refine sv_if_f C.1 C.2.1 (cnd := .eq) (off := 18) (tgt := 55) (by decide +kernel) (by decide) ⟨by omega, by omega⟩ (show ¬ (1 = 0) by omega) ?_
        refine sv_go C.1 C.2.1 [(.aload_n 0, 1)] (pc' := 41) (by decide +kernel) rfl (lv' := [(0, sv_r a), (1, sv_i ar1), (2, sv_i ar2)]) (st' := [sv_r a]) rfl ?_
        refine sv_gf C (index := 160) (ci := 10) (k := 45) (r := (RX11, TX11, 47)) (v := sv_r s4) (by decide +kernel) (by rw [k_a]; rfl) rfl (by decide) fl_X11_160 (congrArg sv_a es4) ?_
        refine sv_go C.1 C.2.1 [(.bipush 12, 2), (.iload_n 1, 1), (.imul, 1), (.iload_n 2, 1), (.iadd, 1), (.bipush 10, 2), (.isub, 1)] (pc' := 53) (by decide +kernel) rfl (lv' := [(0, sv_r a), (1, sv_i ar1), (2, sv_i ar2)]) (st' := [sv_i (((12 * ar1) + ar2) - 10), sv_r s4]) rfl ?_
        refine sv_ia C (n := 144) (by decide +kernel) (by rw [k_s4]; rfl) (by decide) (by omega) (by omega) ?_
        obtain ⟨v16, ev16, hv16⟩ := sv_rdn hI (k := (((12 * ar1) + ar2) - 10 : Int).toNat) k_s4 rfl
        rw [ev16]
        exact sv_iret C hr (by decide +kernel) hok14 (⟨rfl, ⟨_, rfl, ⟨by omega, by omega⟩, fun _ _ => ⟨fun h => by exfalso; omega, fun z B T hk q1 q2 q3 => by have tz : v9 = z := (by omega); subst tz; exact ⟨fun h => by exfalso; omega, fun _ => by unfold zt zt2; rw [if_neg (by omega), if_neg (by omega), if_neg (by omega), if_pos ⟨by omega, by omega⟩]; show v16 = σ s4 (12 * ar1 + (((ar2 - 10).toNat : Nat) : Int)).toNat; rw [← show (((12 * ar1) + ar2) - 10 : Int).toNat = (12 * ar1 + (((ar2 - 10).toNat : Nat) : Int)).toNat by omega]; exact ev16.symm⟩⟩⟩⟩)
      · refine sv_same (st2 := [sv_i 0]) (lv2 := [(0, sv_r a), (1, sv_i ar1), (2, sv_i ar2)]) rfl rfl ?_
        refine sv_if_t C.1 C.2.1 (cnd := .eq) (off := 18) (tgt := 55) (by decide +kernel) (by decide) ⟨by omega, by omega⟩ (show 0 = 0 by omega) ?_
        refine sv_go C.1 C.2.1 [(.iload_n 2, 1)] (pc' := 56) (by decide +kernel) rfl (lv' := [(0, sv_r a), (1, sv_i ar1), (2, sv_i ar2)]) (st' := [sv_i ar2]) rfl ?_
        refine sv_i2l C.1 C.2.1 (by decide +kernel) ⟨by omega, by omega⟩ ?_
        refine sv_ldc2 C (index := 350) (z := 30) (by decide +kernel) cl_X11_350 (by decide) ?_
        refine sv_ldc2 C (index := 354) (z := 29) (by decide +kernel) cl_X11_354 (by decide) ?_
        refine sv_go C.1 C.2.1 [(.aload_n 0, 1)] (pc' := 64) (by decide +kernel) rfl (lv' := [(0, sv_r a), (1, sv_i ar1), (2, sv_i ar2)]) (st' := [sv_r a, sv_l 29, sv_l 30, sv_l ar2]) rfl ?_
        refine sv_gf C (index := 151) (ci := 10) (k := 42) (r := (RX11, TX11, 47)) (v := sv_r s1) (by decide +kernel) (by rw [k_a]; rfl) rfl (by decide) fl_X11_151 (congrArg sv_a es1) ?_
        refine sv_go C.1 C.2.1 [(.iload_n 1, 1)] (pc' := 68) (by decide +kernel) rfl (lv' := [(0, sv_r a), (1, sv_i ar1), (2, sv_i ar2)]) (st' := [sv_i ar1, sv_r s1, sv_l 29, sv_l 30, sv_l ar2]) rfl ?_
        refine sv_ia C (n := 12) (by decide +kernel) (by rw [k_s1]; rfl) (by decide) (by omega) (by omega) ?_
        rw [ev9]
        refine sv_i2l C.1 C.2.1 (by decide +kernel) ⟨by omega, by omega⟩ ?_
        refine sv_go C.1 C.2.1 [(.ladd, 1)] (pc' := 71) (by decide +kernel) rfl (lv' := [(0, sv_r a), (1, sv_i ar1), (2, sv_i ar2)]) (st' := [sv_l (29 + v9), sv_l 30, sv_l ar2]) rfl ?_
        refine sv_cs C (index := 9) (k := 3) (rest := []) (by decide +kernel) (ct_X11_in l g A ty σ hok14 (ar2) ⟨by omega, by omega⟩ (30) ⟨by omega, by omega⟩ (29 + v9) ⟨by omega, by omega⟩) ⟨co_X11_in, in_X11, ⟨by decide, by decide, by decide +kernel⟩, Nat.le_of_ble_eq_true rfl, Nat.le_of_ble_eq_true rfl⟩ ml_X11_9 st_X11_in rfl rfl (Nat.le_of_ble_eq_true rfl) ⟨Nat.zero_le _, Nat.zero_le _⟩ (fun r18 σ19 hpo17 hok20 => ?_)
        obtain ⟨rfl, ⟨h21, rfl⟩ | ⟨h21, rfl⟩⟩ := hpo17
        · refine sv_same (st2 := [sv_i 1]) (lv2 := [(0, sv_r a), (1, sv_i ar1), (2, sv_i ar2)]) rfl rfl ?_
          refine sv_if_f C.1 C.2.1 (cnd := .eq) (off := 13) (tgt := 87) (by decide +kernel) (by decide) ⟨by omega, by omega⟩ (show ¬ (1 = 0) by omega) ?_
          refine sv_go C.1 C.2.1 [(.aload_n 0, 1), (.iload_n 1, 1), (.iload_n 2, 1), (.bipush 30, 2), (.isub, 1)] (pc' := 83) (by decide +kernel) rfl (lv' := [(0, sv_r a), (1, sv_i ar1), (2, sv_i ar2)]) (st' := [sv_i (ar2 - 30), sv_i ar1, sv_r a]) rfl ?_
          refine sv_cv C (index := 356) (k := 2) (rest := []) (ci := 10) (r := (RX11, TX11, 47)) (by decide +kernel) (ct_X11_headAt l g A ty σ hok20 hTA hI a k_a (ar1) ⟨by omega, by omega⟩ (ar2 - 30) ⟨by omega, by omega⟩ s2 k_s2 s5 k_s5 es2 es5) ⟨co_X11_headAt, in_X11, ⟨by decide, by decide, by decide +kernel⟩, Nat.le_of_ble_eq_true rfl, Nat.le_of_ble_eq_true rfl⟩ ml_X11_356 im_X11_headAt se_X11_headAt (by rw [k_a]; rfl) rfl rfl rfl (Nat.le_of_ble_eq_true rfl) ⟨Nat.zero_le _, Nat.zero_le _⟩ (fun r23 σ24 hpo22 hok25 => ?_)
          obtain ⟨rfl, ⟨vu26, rfl, hvu26, ivu26_0⟩⟩ := hpo22
          have hp27 := ivu26_0 (by omega) (by omega)
          refine sv_same (st2 := [sv_i vu26]) (lv2 := [(0, sv_r a), (1, sv_i ar1), (2, sv_i ar2)]) rfl rfl ?_
          exact sv_iret C hr (by decide +kernel) hok25 (⟨rfl, ⟨_, rfl, ⟨by omega, by omega⟩, fun _ _ => ⟨fun h => by exfalso; omega, fun z B T hk q1 q2 q3 => by have tz : v9 = z := (by omega); subst tz; exact ⟨fun h => by exfalso; omega, fun _ => by unfold zt zt2; rw [if_neg (by omega), if_neg (by omega), if_neg (by omega), if_neg (by omega), if_pos ⟨by omega, by omega⟩]; show vu26 = zw (B + σ s5 (12 * ar1 + (((ar2 - 30).toNat : Nat) : Int)).toNat); rw [← q2, ← show (12 * ar1 + (ar2 - 30)).toNat = (12 * ar1 + (((ar2 - 30).toNat : Nat) : Int)).toNat by omega]; exact hp27⟩⟩⟩⟩)
        · refine sv_same (st2 := [sv_i 0]) (lv2 := [(0, sv_r a), (1, sv_i ar1), (2, sv_i ar2)]) rfl rfl ?_
          refine sv_if_t C.1 C.2.1 (cnd := .eq) (off := 13) (tgt := 87) (by decide +kernel) (by decide) ⟨by omega, by omega⟩ (show 0 = 0 by omega) ?_
          refine sv_go C.1 C.2.1 [(.iload_n 2, 1)] (pc' := 88) (by decide +kernel) rfl (lv' := [(0, sv_r a), (1, sv_i ar1), (2, sv_i ar2)]) (st' := [sv_i ar2]) rfl ?_
          refine sv_if C.1 C.2.1 (cnd := .ne) (off := 12) (tgt := 100) (by decide +kernel) (by decide) ⟨by omega, by omega⟩ (fun (h28 : ar2 ≠ 0) => ?_) (fun (h28 : ¬ (ar2 ≠ 0)) => ?_)
          · refine sv_go C.1 C.2.1 [(.iload_n 2, 1), (.iconst 1, 1)] (pc' := 102) (by decide +kernel) rfl (lv' := [(0, sv_r a), (1, sv_i ar1), (2, sv_i ar2)]) (st' := [sv_i 1, sv_i ar2]) rfl ?_
            refine sv_icmp C.1 C.2.1 (cnd := .ne) (off := 12) (tgt := 114) (by decide +kernel) (by decide) ⟨by omega, by omega⟩ ⟨by omega, by omega⟩ (fun (h29 : ar2 ≠ 1) => ?_) (fun (h29 : ¬ (ar2 ≠ 1)) => ?_)
            · refine sv_go C.1 C.2.1 [(.iload_n 2, 1), (.iconst 2, 1)] (pc' := 116) (by decide +kernel) rfl (lv' := [(0, sv_r a), (1, sv_i ar1), (2, sv_i ar2)]) (st' := [sv_i 2, sv_i ar2]) rfl ?_
              refine sv_icmp C.1 C.2.1 (cnd := .ne) (off := 26) (tgt := 142) (by decide +kernel) (by decide) ⟨by omega, by omega⟩ ⟨by omega, by omega⟩ (fun (h30 : ar2 ≠ 2) => ?_) (fun (h30 : ¬ (ar2 ≠ 2)) => ?_)
              · refine sv_go C.1 C.2.1 [(.iconst (-1), 1)] (pc' := 143) (by decide +kernel) rfl (lv' := [(0, sv_r a), (1, sv_i ar1), (2, sv_i ar2)]) (st' := [sv_i ((-1))]) rfl ?_
                exact sv_iret C hr (by decide +kernel) hok20 (⟨rfl, ⟨_, rfl, ⟨by omega, by omega⟩, fun _ _ => ⟨fun h => by exfalso; omega, fun z B T hk q1 q2 q3 => by have tz : v9 = z := (by omega); subst tz; exact ⟨fun h => by exfalso; omega, fun _ => by unfold zt zt2; rw [if_neg (by omega), if_neg (by omega), if_neg (by omega), if_neg (by omega), if_neg (by omega)]⟩⟩⟩⟩)
              · refine sv_go C.1 C.2.1 [(.aload_n 0, 1), (.iload_n 1, 1), (.aload_n 0, 1)] (pc' := 122) (by decide +kernel) rfl (lv' := [(0, sv_r a), (1, sv_i ar1), (2, sv_i ar2)]) (st' := [sv_r a, sv_i ar1, sv_r a]) rfl ?_
                refine sv_gf C (index := 151) (ci := 10) (k := 42) (r := (RX11, TX11, 47)) (v := sv_r s1) (by decide +kernel) (by rw [k_a]; rfl) rfl (by decide) fl_X11_151 (congrArg sv_a es1) ?_
                refine sv_go C.1 C.2.1 [(.iload_n 1, 1)] (pc' := 126) (by decide +kernel) rfl (lv' := [(0, sv_r a), (1, sv_i ar1), (2, sv_i ar2)]) (st' := [sv_i ar1, sv_r s1, sv_i ar1, sv_r a]) rfl ?_
                refine sv_ia C (n := 12) (by decide +kernel) (by rw [k_s1]; rfl) (by decide) (by omega) (by omega) ?_
                rw [ev9]
                refine sv_go C.1 C.2.1 [(.iconst 1, 1), (.isub, 1)] (pc' := 129) (by decide +kernel) rfl (lv' := [(0, sv_r a), (1, sv_i ar1), (2, sv_i ar2)]) (st' := [sv_i (v9 - 1), sv_i ar1, sv_r a]) rfl ?_
                refine sv_cv C (index := 356) (k := 2) (rest := []) (ci := 10) (r := (RX11, TX11, 47)) (by decide +kernel) (ct_X11_headAt l g A ty σ hok20 hTA hI a k_a (ar1) ⟨by omega, by omega⟩ (v9 - 1) ⟨by omega, by omega⟩ s2 k_s2 s5 k_s5 es2 es5) ⟨co_X11_headAt, in_X11, ⟨by decide, by decide, by decide +kernel⟩, Nat.le_of_ble_eq_true rfl, Nat.le_of_ble_eq_true rfl⟩ ml_X11_356 im_X11_headAt se_X11_headAt (by rw [k_a]; rfl) rfl rfl rfl (Nat.le_of_ble_eq_true rfl) ⟨Nat.zero_le _, Nat.zero_le _⟩ (fun r32 σ33 hpo31 hok34 => ?_)
                obtain ⟨rfl, ⟨vu35, rfl, hvu35, ivu35_0⟩⟩ := hpo31
                have hp36 := ivu35_0 (by omega) (by omega)
                refine sv_same (st2 := [sv_i vu35]) (lv2 := [(0, sv_r a), (1, sv_i ar1), (2, sv_i ar2)]) rfl rfl ?_
                refine sv_go C.1 C.2.1 [(.aload_n 0, 1)] (pc' := 133) (by decide +kernel) rfl (lv' := [(0, sv_r a), (1, sv_i ar1), (2, sv_i ar2)]) (st' := [sv_r a, sv_i vu35]) rfl ?_
                refine sv_gf C (index := 157) (ci := 10) (k := 44) (r := (RX11, TX11, 47)) (v := sv_r s3) (by decide +kernel) (by rw [k_a]; rfl) rfl (by decide) fl_X11_157 (congrArg sv_a es3) ?_
                refine sv_go C.1 C.2.1 [(.iload_n 1, 1)] (pc' := 137) (by decide +kernel) rfl (lv' := [(0, sv_r a), (1, sv_i ar1), (2, sv_i ar2)]) (st' := [sv_i ar1, sv_r s3, sv_i vu35]) rfl ?_
                refine sv_ia C (n := 12) (by decide +kernel) (by rw [k_s3]; rfl) (by decide) (by omega) (by omega) ?_
                obtain ⟨v37, ev37, hv37⟩ := sv_rdn hI (k := (ar1 : Int).toNat) k_s3 rfl
                rw [ev37]
                refine sv_go C.1 C.2.1 [(.iadd, 1)] (pc' := 139) (by decide +kernel) rfl (lv' := [(0, sv_r a), (1, sv_i ar1), (2, sv_i ar2)]) (st' := [sv_i (vu35 + v37)]) rfl ?_
                refine sv_goto C.1 C.2.1 (off := 4) (tgt := 143) (by decide +kernel) (by decide) ?_
                obtain ⟨w38, hw38, ew38⟩ := sv_wr (vu35 + v37)
                refine sv_sameD (st2 := [sv_i w38]) (lv2 := [(0, sv_r a), (1, sv_i ar1), (2, sv_i ar2)]) (by simp only [List.map_cons, List.map_nil, sv_den_i, ew38]) rfl ?_
                exact sv_iret C hr (by decide +kernel) hok34 (⟨rfl, ⟨_, rfl, ⟨by omega, by omega⟩, fun _ _ => ⟨fun h => by exfalso; omega, fun z B T hk q1 q2 q3 => by have tz : v9 = z := (by omega); subst tz; exact ⟨fun h => by exfalso; omega, fun _ => by unfold zt zt2; rw [if_neg (by omega), if_neg (by omega), if_pos (by omega), ← q2, ← q3]; (try rw [ev37]); rw [← hp36]; exact zw_eq hw38 ew38⟩⟩⟩⟩)
            · refine sv_go C.1 C.2.1 [(.aload_n 0, 1)] (pc' := 106) (by decide +kernel) rfl (lv' := [(0, sv_r a), (1, sv_i ar1), (2, sv_i ar2)]) (st' := [sv_r a]) rfl ?_
              refine sv_gf C (index := 154) (ci := 10) (k := 43) (r := (RX11, TX11, 47)) (v := sv_r s2) (by decide +kernel) (by rw [k_a]; rfl) rfl (by decide) fl_X11_154 (congrArg sv_a es2) ?_
              refine sv_go C.1 C.2.1 [(.iload_n 1, 1)] (pc' := 110) (by decide +kernel) rfl (lv' := [(0, sv_r a), (1, sv_i ar1), (2, sv_i ar2)]) (st' := [sv_i ar1, sv_r s2]) rfl ?_
              refine sv_ia C (n := 12) (by decide +kernel) (by rw [k_s2]; rfl) (by decide) (by omega) (by omega) ?_
              obtain ⟨v39, ev39, hv39⟩ := sv_rdn hI (k := (ar1 : Int).toNat) k_s2 rfl
              rw [ev39]
              refine sv_goto C.1 C.2.1 (off := 32) (tgt := 143) (by decide +kernel) (by decide) ?_
              exact sv_iret C hr (by decide +kernel) hok20 (⟨rfl, ⟨_, rfl, ⟨by omega, by omega⟩, fun _ _ => ⟨fun h => by exfalso; omega, fun z B T hk q1 q2 q3 => by have tz : v9 = z := (by omega); subst tz; exact ⟨fun h => by exfalso; omega, fun _ => by unfold zt zt2; rw [if_neg (by omega), if_pos (by omega)] <;> omega⟩⟩⟩⟩)
          · refine sv_go C.1 C.2.1 [(.aload_n 0, 1)] (pc' := 92) (by decide +kernel) rfl (lv' := [(0, sv_r a), (1, sv_i ar1), (2, sv_i ar2)]) (st' := [sv_r a]) rfl ?_
            refine sv_gf C (index := 151) (ci := 10) (k := 42) (r := (RX11, TX11, 47)) (v := sv_r s1) (by decide +kernel) (by rw [k_a]; rfl) rfl (by decide) fl_X11_151 (congrArg sv_a es1) ?_
            refine sv_go C.1 C.2.1 [(.iload_n 1, 1)] (pc' := 96) (by decide +kernel) rfl (lv' := [(0, sv_r a), (1, sv_i ar1), (2, sv_i ar2)]) (st' := [sv_i ar1, sv_r s1]) rfl ?_
            refine sv_ia C (n := 12) (by decide +kernel) (by rw [k_s1]; rfl) (by decide) (by omega) (by omega) ?_
            rw [ev9]
            refine sv_goto C.1 C.2.1 (off := 46) (tgt := 143) (by decide +kernel) (by decide) ?_
            exact sv_iret C hr (by decide +kernel) hok20 (⟨rfl, ⟨_, rfl, ⟨by omega, by omega⟩, fun _ _ => ⟨fun h => by exfalso; omega, fun z B T hk q1 q2 q3 => by have tz : v9 = z := (by omega); subst tz; exact ⟨fun h => by exfalso; omega, fun _ => by unfold zt zt2; rw [if_pos (by omega)] <;> omega⟩⟩⟩⟩)
    · refine sv_go C.1 C.2.1 [(.iconst (-1), 1)] (pc' := 17) (by decide +kernel) rfl (lv' := [(0, sv_r a), (1, sv_i ar1), (2, sv_i ar2)]) (st' := [sv_i ((-1))]) rfl ?_
      exact sv_iret C hr (by decide +kernel) hok4 (⟨rfl, ⟨_, rfl, ⟨by omega, by omega⟩, fun _ _ => ⟨fun _ => rfl, fun z B T hk q1 q2 q3 => ⟨fun _ => rfl, fun h => by exfalso; omega⟩⟩⟩⟩)

set_option maxHeartbeats 4000000 in
set_option maxRecDepth 100000 in
theorem ct_X11_timed (l : Launch) (g : sv_G) (A : Nat → Prop) (ty : Nat → Nat) (σ : Nat → Nat → Int) (hok : sv_ok ty σ) (hTA : ∀ q, ty q ≠ 0 → A q) (hI : sv_inv sp_1 ty σ) (a : Nat) (k_a : ty a = 10) (ar1 : Int) (h_ar1 : (-2147483648) ≤ ar1 ∧ ar1 ≤ 2147483647) (ar2 : Int) (h_ar2 : (-2147483648) ≤ ar2 ∧ ar2 ≤ 2147483647) (s2 : Nat) (k_s2 : ty s2 = 103) (es2 : σ a 43 = (s2 : Int) + 1) : sv_M l yX11_timed cX11_timed 8 (some .int) { frames := 3, cells := 0, slots := 0, locals := 70 } g A ty σ [sv_r a, sv_i ar1, sv_i ar2] (fun r σ' => (∃ rv : Int, r = [sv_i rv] ∧ ((-2) ≤ rv ∧ rv ≤ 1440)) ∧ sv_inv sp_1 ty σ' ∧ sv_ofx [] [103] ty σ σ' ∧ ∀ j : Nat, σ' s2 j = σ s2 j) := by
  refine sv_enter (by decide) (Nat.le_of_ble_eq_true rfl) ?_
  intro p e s m args below meth c C hr
  have C : sv_C g A RX11 cX11_timed 8 p s m args meth c := C
  have hr : meth.sig.returnType = (some .int) := hr
  have hF : sv_ofx [] [103] ty σ σ := sv_ofx.rf
  refine sv_same (st2 := []) (lv2 := [(0, sv_r a), (1, sv_i ar1), (2, sv_i ar2)]) rfl rfl ?_
  refine sv_go C.1 C.2.1 [(.aload_n 0, 1), (.iload_n 1, 1)] (pc' := 2) (by decide +kernel) rfl (lv' := [(0, sv_r a), (1, sv_i ar1), (2, sv_i ar2)]) (st' := [sv_i ar1, sv_r a]) rfl ?_
  refine sv_cv C (index := 367) (k := 1) (rest := []) (ci := 10) (r := (RX11, TX11, 47)) (by decide +kernel) (sf_X11_isGoing l g A ty σ hok hTA hI a k_a (ar1) ⟨by omega, by omega⟩) ⟨co_X11_isGoing, in_X11, ⟨by decide, by decide, by decide +kernel⟩, Nat.le_of_ble_eq_true rfl, Nat.le_of_ble_eq_true rfl⟩ ml_X11_367 im_X11_isGoing se_X11_isGoing (by rw [k_a]; rfl) rfl rfl rfl (Nat.le_of_ble_eq_true rfl) ⟨Nat.zero_le _, Nat.zero_le _⟩ (fun r2 σ3 hpo1 hok4 => ?_)
  obtain ⟨rfl, ⟨vu5, rfl, hvu5, ivu5_0⟩⟩ := hpo1
  refine sv_same (st2 := [sv_i vu5]) (lv2 := [(0, sv_r a), (1, sv_i ar1), (2, sv_i ar2)]) rfl rfl ?_
  refine sv_if C.1 C.2.1 (cnd := .eq) (off := 15) (tgt := 20) (by decide +kernel) (by decide) ⟨by omega, by omega⟩ (fun (h6 : vu5 = 0) => ?_) (fun (h6 : ¬ (vu5 = 0)) => ?_)
  · refine sv_go C.1 C.2.1 [(.bipush (-2), 2)] (pc' := 22) (by decide +kernel) rfl (lv' := [(0, sv_r a), (1, sv_i ar1), (2, sv_i ar2)]) (st' := [sv_i ((-2))]) rfl ?_
    exact sv_iret C hr (by decide +kernel) hok4 (⟨⟨_, rfl, ⟨by omega, by omega⟩⟩, hI, hF, fun _ => rfl⟩)
  · have hp7 := ivu5_0 (by omega) (by omega)
    refine sv_go C.1 C.2.1 [(.iload_n 2, 1)] (pc' := 9) (by decide +kernel) rfl (lv' := [(0, sv_r a), (1, sv_i ar1), (2, sv_i ar2)]) (st' := [sv_i ar2]) rfl ?_
    refine sv_i2l C.1 C.2.1 (by decide +kernel) ⟨by omega, by omega⟩ ?_
    refine sv_go C.1 C.2.1 [(.lconst 0, 1)] (pc' := 11) (by decide +kernel) rfl (lv' := [(0, sv_r a), (1, sv_i ar1), (2, sv_i ar2)]) (st' := [sv_l 0, sv_l ar2]) rfl ?_
    refine sv_ldc2 C (index := 348) (z := 1440) (by decide +kernel) cl_X11_348 (by decide) ?_
    refine sv_cs C (index := 9) (k := 3) (rest := []) (by decide +kernel) (ct_X11_in l g A ty σ hok4 (ar2) ⟨by omega, by omega⟩ (0) ⟨by omega, by omega⟩ (1440) ⟨by omega, by omega⟩) ⟨co_X11_in, in_X11, ⟨by decide, by decide, by decide +kernel⟩, Nat.le_of_ble_eq_true rfl, Nat.le_of_ble_eq_true rfl⟩ ml_X11_9 st_X11_in rfl rfl (Nat.le_of_ble_eq_true rfl) ⟨Nat.zero_le _, Nat.zero_le _⟩ (fun r9 σ10 hpo8 hok11 => ?_)
    obtain ⟨rfl, ⟨h12, rfl⟩ | ⟨h12, rfl⟩⟩ := hpo8
    · refine sv_same (st2 := [sv_i 1]) (lv2 := [(0, sv_r a), (1, sv_i ar1), (2, sv_i ar2)]) rfl rfl ?_
      refine sv_if_t C.1 C.2.1 (cnd := .ne) (off := 6) (tgt := 23) (by decide +kernel) (by decide) ⟨by omega, by omega⟩ (show 1 ≠ 0 by omega) ?_
      refine sv_go C.1 C.2.1 [(.aload_n 0, 1)] (pc' := 24) (by decide +kernel) rfl (lv' := [(0, sv_r a), (1, sv_i ar1), (2, sv_i ar2)]) (st' := [sv_r a]) rfl ?_
      refine sv_gf C (index := 154) (ci := 10) (k := 43) (r := (RX11, TX11, 47)) (v := sv_r s2) (by decide +kernel) (by rw [k_a]; rfl) rfl (by decide) fl_X11_154 (congrArg sv_a es2) ?_
      refine sv_go C.1 C.2.1 [(.iload_n 1, 1)] (pc' := 28) (by decide +kernel) rfl (lv' := [(0, sv_r a), (1, sv_i ar1), (2, sv_i ar2)]) (st' := [sv_i ar1, sv_r s2]) rfl ?_
      refine sv_ia C (n := 12) (by decide +kernel) (by rw [k_s2]; rfl) (by decide) (by omega) (by omega) ?_
      obtain ⟨v13, ev13, hv13⟩ := sv_rdn hI (k := (ar1 : Int).toNat) k_s2 rfl
      rw [ev13]
      refine sv_go C.1 C.2.1 [(.istore_n 3, 1), (.iconst (-1), 1), (.istore 4, 2), (.iload_n 2, 1), (.istore 5, 2)] (pc' := 36) (by decide +kernel) rfl (lv' := [(0, sv_r a), (1, sv_i ar1), (2, sv_i ar2), (3, sv_i v13), (4, sv_i ((-1))), (5, sv_i ar2)]) (st' := []) rfl ?_
      have J16 : ∀ (Yg14_l4 : Int) (Yg14_e1 : Int) (σ15 : Nat → Nat → Int), ((-1) ≤ Yg14_l4 ∧ Yg14_l4 ≤ 1440) → (0 ≤ Yg14_e1 ∧ Yg14_e1 ≤ 1440) → (sv_ok ty σ15) → (sv_inv sp_1 ty σ15) → (sv_ofx [] [103] ty σ σ15) → (σ15 a 43 = (s2 : Int) + 1) → (σ15 s2 (ar1 : Int).toNat = Yg14_e1) → (∀ j : Nat, j ≠ (ar1 : Int).toNat → σ15 s2 j = σ s2 j) → sv_E p l e { frames := 3, cells := 0, slots := 0, locals := 70 } s m args below meth c 8 g A ty (fun r σ' => (∃ rv : Int, r = [sv_i rv] ∧ ((-2) ≤ rv ∧ rv ≤ 1440)) ∧ sv_inv sp_1 ty σ' ∧ sv_ofx [] [103] ty σ σ' ∧ ∀ j : Nat, σ' s2 j = σ s2 j) σ15 132 [(0, sv_r a), (1, sv_i ar1), (3, sv_i v13), (4, sv_i Yg14_l4)] [] := by
        intro Yg14_l4 Yg14_e1 σ15 hYg14_l4 hYg14_e1 okσ15 Iσ15 Fσ15 eσ15_0 eσ15_1 hu
        refine sv_go C.1 C.2.1 [(.aload_n 0, 1)] (pc' := 133) (by decide +kernel) rfl (lv' := [(0, sv_r a), (1, sv_i ar1), (3, sv_i v13), (4, sv_i Yg14_l4)]) (st' := [sv_r a]) rfl ?_
        refine sv_gf C (index := 154) (ci := 10) (k := 43) (r := (RX11, TX11, 47)) (v := sv_r s2) (by decide +kernel) (by rw [k_a]; rfl) rfl (by decide) fl_X11_154 (congrArg sv_a eσ15_0) ?_
        refine sv_go C.1 C.2.1 [(.iload_n 1, 1), (.iload_n 3, 1)] (pc' := 138) (by decide +kernel) rfl (lv' := [(0, sv_r a), (1, sv_i ar1), (3, sv_i v13), (4, sv_i Yg14_l4)]) (st' := [sv_i v13, sv_i ar1, sv_r s2]) rfl ?_
        refine sv_is C (n := 12) (by decide +kernel) (by rw [k_s2]; rfl) (by decide) (by omega) (by omega) ⟨by omega, by omega⟩ (hTA _ (by rw [k_s2]; decide)) okσ15 (fun hok17 => ?_)
        have hI19 := Iσ15.up (a := s2) (k := (ar1 : Int).toNat) (z := v13) (by rw [k_s2]; exact ⟨by omega, by omega⟩)
        have hF20 := Fσ15.up (a := s2) (k := (ar1 : Int).toNat) (z := v13) (Or.inl (by rw [k_s2]; decide))
        generalize eσ18 : sv_up σ15 s2 (ar1 : Int).toNat v13 = σ18 at hok17 hI19 hF20 ⊢
        have t21 : σ18 a 43 = (s2 : Int) + 1 := by rw [← eσ18, sv_up_a (sv_ne k_a k_s2 (by decide))]; exact eσ15_0
        have t23 : σ18 s2 (ar1 : Int).toNat = v13 := by rw [← eσ18]; exact sv_up_s _ _ _ _
        refine sv_go C.1 C.2.1 [(.iload 4, 2)] (pc' := 141) (by decide +kernel) rfl (lv' := [(0, sv_r a), (1, sv_i ar1), (3, sv_i v13), (4, sv_i Yg14_l4)]) (st' := [sv_i Yg14_l4]) rfl ?_
        exact sv_iret C hr (by decide +kernel) hok17 (⟨⟨_, rfl, ⟨by omega, by omega⟩⟩, hI19, hF20, fun j => if hj : j = (ar1 : Int).toNat then (by rw [hj, ← eσ18, sv_up_s]; omega) else (by rw [← eσ18, sv_up_k hj]; exact hu j hj)⟩)
      have L26 : ∀ (n : Nat) (Xg24_l4 : Int) (Xg24_l5 : Int) (Xg24_e1 : Int) (σ25 : Nat → Nat → Int), ((-1) ≤ Xg24_l4 ∧ Xg24_l4 ≤ 1440) → (0 ≤ Xg24_l5 ∧ Xg24_l5 ≤ 1441) → (0 ≤ Xg24_e1 ∧ Xg24_e1 ≤ 1440) → (sv_ok ty σ25) → (sv_inv sp_1 ty σ25) → (sv_ofx [] [103] ty σ σ25) → (σ25 a 43 = (s2 : Int) + 1) → (σ25 s2 (ar1 : Int).toNat = Xg24_e1) → (∀ j : Nat, j ≠ (ar1 : Int).toNat → σ25 s2 j = σ s2 j) → (1441 - Xg24_l5) < (n : Int) → sv_E p l e { frames := 3, cells := 0, slots := 0, locals := 70 } s m args below meth c 8 g A ty (fun r σ' => (∃ rv : Int, r = [sv_i rv] ∧ ((-2) ≤ rv ∧ rv ≤ 1440)) ∧ sv_inv sp_1 ty σ' ∧ sv_ofx [] [103] ty σ σ' ∧ ∀ j : Nat, σ' s2 j = σ s2 j) σ25 36 [(0, sv_r a), (1, sv_i ar1), (3, sv_i v13), (4, sv_i Xg24_l4), (5, sv_i Xg24_l5)] [] := by
        intro n
        induction n with
        | zero => intro Xg24_l4 Xg24_l5 Xg24_e1 σ25 hXg24_l4 hXg24_l5 hXg24_e1 okσ25 Iσ25 Fσ25 eσ25_0 eσ25_1 ht hmu; exact absurd hmu (by omega)
        | succ n ih27 =>
          intro Xg24_l4 Xg24_l5 Xg24_e1 σ25 hXg24_l4 hXg24_l5 hXg24_e1 okσ25 Iσ25 Fσ25 eσ25_0 eσ25_1 ht hmu
          refine sv_go C.1 C.2.1 [(.iload 5, 2), (.sipush 1440, 3)] (pc' := 41) (by decide +kernel) rfl (lv' := [(0, sv_r a), (1, sv_i ar1), (3, sv_i v13), (4, sv_i Xg24_l4), (5, sv_i Xg24_l5)]) (st' := [sv_i 1440, sv_i Xg24_l5]) rfl ?_
          refine sv_icmp C.1 C.2.1 (cnd := .gt) (off := 91) (tgt := 132) (by decide +kernel) (by decide) ⟨by omega, by omega⟩ ⟨by omega, by omega⟩ (fun (h28 : 1440 < Xg24_l5) => ?_) (fun (h28 : ¬ (1440 < Xg24_l5)) => ?_)
          · refine sv_pick [0, 1, 2, 3] (lv2 := [(0, sv_r a), (1, sv_i ar1), (3, sv_i v13), (4, sv_i Xg24_l4)]) rfl ?_
            exact J16 Xg24_l4 Xg24_e1 σ25 ⟨by omega, by omega⟩ ⟨by omega, by omega⟩ okσ25 Iσ25 Fσ25 eσ25_0 eσ25_1 (fun j hj => ht j hj)
          · refine sv_go C.1 C.2.1 [(.iload 4, 2), (.iconst (-1), 1)] (pc' := 47) (by decide +kernel) rfl (lv' := [(0, sv_r a), (1, sv_i ar1), (3, sv_i v13), (4, sv_i Xg24_l4), (5, sv_i Xg24_l5)]) (st' := [sv_i ((-1)), sv_i Xg24_l4]) rfl ?_
            refine sv_icmp C.1 C.2.1 (cnd := .ne) (off := 85) (tgt := 132) (by decide +kernel) (by decide) ⟨by omega, by omega⟩ ⟨by omega, by omega⟩ (fun (h29 : Xg24_l4 ≠ ((-1))) => ?_) (fun (h29 : ¬ (Xg24_l4 ≠ ((-1)))) => ?_)
            · refine sv_pick [0, 1, 2, 3] (lv2 := [(0, sv_r a), (1, sv_i ar1), (3, sv_i v13), (4, sv_i Xg24_l4)]) rfl ?_
              exact J16 Xg24_l4 Xg24_e1 σ25 ⟨by omega, by omega⟩ ⟨by omega, by omega⟩ okσ25 Iσ25 Fσ25 eσ25_0 eσ25_1 (fun j hj => ht j hj)
            · refine sv_go C.1 C.2.1 [(.aload_n 0, 1)] (pc' := 51) (by decide +kernel) rfl (lv' := [(0, sv_r a), (1, sv_i ar1), (3, sv_i v13), (4, sv_i Xg24_l4), (5, sv_i Xg24_l5)]) (st' := [sv_r a]) rfl ?_
              refine sv_gf C (index := 154) (ci := 10) (k := 43) (r := (RX11, TX11, 47)) (v := sv_r s2) (by decide +kernel) (by rw [k_a]; rfl) rfl (by decide) fl_X11_154 (congrArg sv_a eσ25_0) ?_
              refine sv_go C.1 C.2.1 [(.iload_n 1, 1), (.iload 5, 2)] (pc' := 57) (by decide +kernel) rfl (lv' := [(0, sv_r a), (1, sv_i ar1), (3, sv_i v13), (4, sv_i Xg24_l4), (5, sv_i Xg24_l5)]) (st' := [sv_i Xg24_l5, sv_i ar1, sv_r s2]) rfl ?_
              refine sv_is C (n := 12) (by decide +kernel) (by rw [k_s2]; rfl) (by decide) (by omega) (by omega) ⟨by omega, by omega⟩ (hTA _ (by rw [k_s2]; decide)) okσ25 (fun hok30 => ?_)
              have hI32 := Iσ25.up (a := s2) (k := (ar1 : Int).toNat) (z := Xg24_l5) (by rw [k_s2]; exact ⟨by omega, by omega⟩)
              have hF33 := Fσ25.up (a := s2) (k := (ar1 : Int).toNat) (z := Xg24_l5) (Or.inl (by rw [k_s2]; decide))
              generalize eσ31 : sv_up σ25 s2 (ar1 : Int).toNat Xg24_l5 = σ31 at hok30 hI32 hF33 ⊢
              have t34 : σ31 a 43 = (s2 : Int) + 1 := by rw [← eσ31, sv_up_a (sv_ne k_a k_s2 (by decide))]; exact eσ25_0
              have t36 : σ31 s2 (ar1 : Int).toNat = Xg24_l5 := by rw [← eσ31]; exact sv_up_s _ _ _ _
              refine sv_go C.1 C.2.1 [(.iconst 1, 1), (.istore 6, 2), (.iconst 0, 1), (.istore 7, 2)] (pc' := 64) (by decide +kernel) rfl (lv' := [(0, sv_r a), (1, sv_i ar1), (3, sv_i v13), (4, sv_i Xg24_l4), (5, sv_i Xg24_l5), (6, sv_i 1), (7, sv_i 0)]) (st' := []) rfl ?_
              have J38 : ∀ (Yg37_l6 : Int), (0 ≤ Yg37_l6 ∧ Yg37_l6 ≤ 1) → sv_E p l e { frames := 3, cells := 0, slots := 0, locals := 70 } s m args below meth c 8 g A ty (fun r σ' => (∃ rv : Int, r = [sv_i rv] ∧ ((-2) ≤ rv ∧ rv ≤ 1440)) ∧ sv_inv sp_1 ty σ' ∧ sv_ofx [] [103] ty σ σ' ∧ ∀ j : Nat, σ' s2 j = σ s2 j) σ31 117 [(0, sv_r a), (1, sv_i ar1), (3, sv_i v13), (4, sv_i Xg24_l4), (5, sv_i Xg24_l5), (6, sv_i Yg37_l6)] [] := by
                intro Yg37_l6 hYg37_l6
                refine sv_go C.1 C.2.1 [(.iload 6, 2)] (pc' := 119) (by decide +kernel) rfl (lv' := [(0, sv_r a), (1, sv_i ar1), (3, sv_i v13), (4, sv_i Xg24_l4), (5, sv_i Xg24_l5), (6, sv_i Yg37_l6)]) (st' := [sv_i Yg37_l6]) rfl ?_
                have J41 : ∀ (Jg40_l4 : Int), ((-1) ≤ Jg40_l4 ∧ Jg40_l4 ≤ 1440) → sv_E p l e { frames := 3, cells := 0, slots := 0, locals := 70 } s m args below meth c 8 g A ty (fun r σ' => (∃ rv : Int, r = [sv_i rv] ∧ ((-2) ≤ rv ∧ rv ≤ 1440)) ∧ sv_inv sp_1 ty σ' ∧ sv_ofx [] [103] ty σ σ' ∧ ∀ j : Nat, σ' s2 j = σ s2 j) σ31 126 [(0, sv_r a), (1, sv_i ar1), (3, sv_i v13), (4, sv_i Jg40_l4), (5, sv_i Xg24_l5)] [] := by
                  intro Jg40_l4 hJg40_l4
                  refine sv_go C.1 C.2.1 [(.iinc 5 1, 3)] (pc' := 129) (by decide +kernel) rfl (lv' := [(0, sv_r a), (1, sv_i ar1), (3, sv_i v13), (4, sv_i Jg40_l4), (5, sv_i (Xg24_l5 + 1))]) (st' := []) rfl ?_
                  refine sv_goto C.1 C.2.1 (off := (-93)) (tgt := 36) (by decide +kernel) (by decide) ?_
                  exact ih27 Jg40_l4 (Xg24_l5 + 1) Xg24_l5 σ31 ⟨by omega, by omega⟩ ⟨by omega, by omega⟩ ⟨by omega, by omega⟩ hok30 hI32 hF33 t34 t36 (fun j hj => by rw [← eσ31, sv_up_k hj]; exact ht j hj) (by omega)
                refine sv_if C.1 C.2.1 (cnd := .eq) (off := 7) (tgt := 126) (by decide +kernel) (by decide) ⟨by omega, by omega⟩ (fun (h39 : Yg37_l6 = 0) => ?_) (fun (h39 : ¬ (Yg37_l6 = 0)) => ?_)
                · refine sv_pick [0, 1, 2, 3, 4] (lv2 := [(0, sv_r a), (1, sv_i ar1), (3, sv_i v13), (4, sv_i Xg24_l4), (5, sv_i Xg24_l5)]) rfl ?_
                  exact J41 Xg24_l4 ⟨by omega, by omega⟩
                · refine sv_go C.1 C.2.1 [(.iload 5, 2), (.istore 4, 2)] (pc' := 126) (by decide +kernel) rfl (lv' := [(0, sv_r a), (1, sv_i ar1), (3, sv_i v13), (4, sv_i Xg24_l5), (5, sv_i Xg24_l5), (6, sv_i Yg37_l6)]) (st' := []) rfl ?_
                  refine sv_pick [0, 1, 2, 3, 4] (lv2 := [(0, sv_r a), (1, sv_i ar1), (3, sv_i v13), (4, sv_i Xg24_l5), (5, sv_i Xg24_l5)]) rfl ?_
                  exact J41 Xg24_l5 ⟨by omega, by omega⟩
              have L43 : ∀ (n : Nat) (Xg42_l6 : Int) (Xg42_l7 : Int), (0 ≤ Xg42_l6 ∧ Xg42_l6 ≤ 1) → (0 ≤ Xg42_l7 ∧ Xg42_l7 ≤ 12) → (12 - Xg42_l7) < (n : Int) → sv_E p l e { frames := 3, cells := 0, slots := 0, locals := 70 } s m args below meth c 8 g A ty (fun r σ' => (∃ rv : Int, r = [sv_i rv] ∧ ((-2) ≤ rv ∧ rv ≤ 1440)) ∧ sv_inv sp_1 ty σ' ∧ sv_ofx [] [103] ty σ σ' ∧ ∀ j : Nat, σ' s2 j = σ s2 j) σ31 64 [(0, sv_r a), (1, sv_i ar1), (3, sv_i v13), (4, sv_i Xg24_l4), (5, sv_i Xg24_l5), (6, sv_i Xg42_l6), (7, sv_i Xg42_l7)] [] := by
                intro n
                induction n with
                | zero => intro Xg42_l6 Xg42_l7 hXg42_l6 hXg42_l7 hmu; exact absurd hmu (by omega)
                | succ n ih44 =>
                  intro Xg42_l6 Xg42_l7 hXg42_l6 hXg42_l7 hmu
                  refine sv_go C.1 C.2.1 [(.iload 7, 2), (.bipush 12, 2)] (pc' := 68) (by decide +kernel) rfl (lv' := [(0, sv_r a), (1, sv_i ar1), (3, sv_i v13), (4, sv_i Xg24_l4), (5, sv_i Xg24_l5), (6, sv_i Xg42_l6), (7, sv_i Xg42_l7)]) (st' := [sv_i 12, sv_i Xg42_l7]) rfl ?_
                  refine sv_icmp C.1 C.2.1 (cnd := .ge) (off := 49) (tgt := 117) (by decide +kernel) (by decide) ⟨by omega, by omega⟩ ⟨by omega, by omega⟩ (fun (h45 : 12 ≤ Xg42_l7) => ?_) (fun (h45 : ¬ (12 ≤ Xg42_l7)) => ?_)
                  · refine sv_pick [0, 1, 2, 3, 4, 5] (lv2 := [(0, sv_r a), (1, sv_i ar1), (3, sv_i v13), (4, sv_i Xg24_l4), (5, sv_i Xg24_l5), (6, sv_i Xg42_l6)]) rfl ?_
                    exact J38 Xg42_l6 ⟨by omega, by omega⟩
                  · refine sv_go C.1 C.2.1 [(.iload 6, 2)] (pc' := 73) (by decide +kernel) rfl (lv' := [(0, sv_r a), (1, sv_i ar1), (3, sv_i v13), (4, sv_i Xg24_l4), (5, sv_i Xg24_l5), (6, sv_i Xg42_l6), (7, sv_i Xg42_l7)]) (st' := [sv_i Xg42_l6]) rfl ?_
                    refine sv_if C.1 C.2.1 (cnd := .eq) (off := 44) (tgt := 117) (by decide +kernel) (by decide) ⟨by omega, by omega⟩ (fun (h46 : Xg42_l6 = 0) => ?_) (fun (h46 : ¬ (Xg42_l6 = 0)) => ?_)
                    · refine sv_pick [0, 1, 2, 3, 4, 5] (lv2 := [(0, sv_r a), (1, sv_i ar1), (3, sv_i v13), (4, sv_i Xg24_l4), (5, sv_i Xg24_l5), (6, sv_i Xg42_l6)]) rfl ?_
                      exact J38 Xg42_l6 ⟨by omega, by omega⟩
                    · refine sv_go C.1 C.2.1 [(.iload 7, 2), (.iload_n 1, 1)] (pc' := 79) (by decide +kernel) rfl (lv' := [(0, sv_r a), (1, sv_i ar1), (3, sv_i v13), (4, sv_i Xg24_l4), (5, sv_i Xg24_l5), (6, sv_i Xg42_l6), (7, sv_i Xg42_l7)]) (st' := [sv_i ar1, sv_i Xg42_l7]) rfl ?_
                      have J49 : ∀ (Jg48_s0 : Int), (0 ≤ Jg48_s0 ∧ Jg48_s0 ≤ 1) → sv_E p l e { frames := 3, cells := 0, slots := 0, locals := 70 } s m args below meth c 8 g A ty (fun r σ' => (∃ rv : Int, r = [sv_i rv] ∧ ((-2) ≤ rv ∧ rv ≤ 1440)) ∧ sv_inv sp_1 ty σ' ∧ sv_ofx [] [103] ty σ σ' ∧ ∀ j : Nat, σ' s2 j = σ s2 j) σ31 109 [(0, sv_r a), (1, sv_i ar1), (3, sv_i v13), (4, sv_i Xg24_l4), (5, sv_i Xg24_l5), (7, sv_i Xg42_l7)] [sv_i Jg48_s0] := by
                        intro Jg48_s0 hJg48_s0
                        refine sv_go C.1 C.2.1 [(.istore 6, 2), (.iinc 7 1, 3)] (pc' := 114) (by decide +kernel) rfl (lv' := [(0, sv_r a), (1, sv_i ar1), (3, sv_i v13), (4, sv_i Xg24_l4), (5, sv_i Xg24_l5), (6, sv_i Jg48_s0), (7, sv_i (Xg42_l7 + 1))]) (st' := []) rfl ?_
                        refine sv_goto C.1 C.2.1 (off := (-50)) (tgt := 64) (by decide +kernel) (by decide) ?_
                        exact ih44 Jg48_s0 (Xg42_l7 + 1) ⟨by omega, by omega⟩ ⟨by omega, by omega⟩ (by omega)
                      refine sv_icmp C.1 C.2.1 (cnd := .eq) (off := 25) (tgt := 104) (by decide +kernel) (by decide) ⟨by omega, by omega⟩ ⟨by omega, by omega⟩ (fun (h47 : Xg42_l7 = ar1) => ?_) (fun (h47 : ¬ (Xg42_l7 = ar1)) => ?_)
                      · refine sv_go C.1 C.2.1 [(.iconst 1, 1)] (pc' := 105) (by decide +kernel) rfl (lv' := [(0, sv_r a), (1, sv_i ar1), (3, sv_i v13), (4, sv_i Xg24_l4), (5, sv_i Xg24_l5), (6, sv_i Xg42_l6), (7, sv_i Xg42_l7)]) (st' := [sv_i 1]) rfl ?_
                        refine sv_goto C.1 C.2.1 (off := 4) (tgt := 109) (by decide +kernel) (by decide) ?_
                        refine sv_pick [0, 1, 2, 3, 4, 6] (lv2 := [(0, sv_r a), (1, sv_i ar1), (3, sv_i v13), (4, sv_i Xg24_l4), (5, sv_i Xg24_l5), (7, sv_i Xg42_l7)]) rfl ?_
                        exact J49 1 ⟨by omega, by omega⟩
                      · refine sv_go C.1 C.2.1 [(.aload_n 0, 1), (.iload 7, 2)] (pc' := 85) (by decide +kernel) rfl (lv' := [(0, sv_r a), (1, sv_i ar1), (3, sv_i v13), (4, sv_i Xg24_l4), (5, sv_i Xg24_l5), (6, sv_i Xg42_l6), (7, sv_i Xg42_l7)]) (st' := [sv_i Xg42_l7, sv_r a]) rfl ?_
                        refine sv_cv C (index := 367) (k := 1) (rest := []) (ci := 10) (r := (RX11, TX11, 47)) (by decide +kernel) (sf_X11_isGoing l g A ty σ31 hok30 hTA hI32 a k_a (Xg42_l7) ⟨by omega, by omega⟩) ⟨co_X11_isGoing, in_X11, ⟨by decide, by decide, by decide +kernel⟩, Nat.le_of_ble_eq_true rfl, Nat.le_of_ble_eq_true rfl⟩ ml_X11_367 im_X11_isGoing se_X11_isGoing (by rw [k_a]; rfl) rfl rfl rfl (Nat.le_of_ble_eq_true rfl) ⟨Nat.zero_le _, Nat.zero_le _⟩ (fun r51 σ52 hpo50 hok53 => ?_)
                        obtain ⟨rfl, ⟨vu54, rfl, hvu54, ivu54_0⟩⟩ := hpo50
                        refine sv_same (st2 := [sv_i vu54]) (lv2 := [(0, sv_r a), (1, sv_i ar1), (3, sv_i v13), (4, sv_i Xg24_l4), (5, sv_i Xg24_l5), (6, sv_i Xg42_l6), (7, sv_i Xg42_l7)]) rfl rfl ?_
                        refine sv_if C.1 C.2.1 (cnd := .eq) (off := 16) (tgt := 104) (by decide +kernel) (by decide) ⟨by omega, by omega⟩ (fun (h55 : vu54 = 0) => ?_) (fun (h55 : ¬ (vu54 = 0)) => ?_)
                        · refine sv_go C.1 C.2.1 [(.iconst 1, 1)] (pc' := 105) (by decide +kernel) rfl (lv' := [(0, sv_r a), (1, sv_i ar1), (3, sv_i v13), (4, sv_i Xg24_l4), (5, sv_i Xg24_l5), (6, sv_i Xg42_l6), (7, sv_i Xg42_l7)]) (st' := [sv_i 1]) rfl ?_
                          refine sv_goto C.1 C.2.1 (off := 4) (tgt := 109) (by decide +kernel) (by decide) ?_
                          refine sv_pick [0, 1, 2, 3, 4, 6] (lv2 := [(0, sv_r a), (1, sv_i ar1), (3, sv_i v13), (4, sv_i Xg24_l4), (5, sv_i Xg24_l5), (7, sv_i Xg42_l7)]) rfl ?_
                          exact J49 1 ⟨by omega, by omega⟩
                        · have hp56 := ivu54_0 (by omega) (by omega)
                          refine sv_go C.1 C.2.1 [(.aload_n 0, 1), (.iload_n 1, 1), (.iload 7, 2)] (pc' := 95) (by decide +kernel) rfl (lv' := [(0, sv_r a), (1, sv_i ar1), (3, sv_i v13), (4, sv_i Xg24_l4), (5, sv_i Xg24_l5), (6, sv_i Xg42_l6), (7, sv_i Xg42_l7)]) (st' := [sv_i Xg42_l7, sv_i ar1, sv_r a]) rfl ?_
                          refine sv_cv C (index := 370) (k := 2) (rest := []) (ci := 10) (r := (RX11, TX11, 47)) (by decide +kernel) (sf_X11_meet l g A ty σ31 hok53 hTA hI32 a k_a (ar1) ⟨by omega, by omega⟩ (Xg42_l7) ⟨by omega, by omega⟩) ⟨co_X11_meet, in_X11, ⟨by decide, by decide, by decide +kernel⟩, Nat.le_of_ble_eq_true rfl, Nat.le_of_ble_eq_true rfl⟩ ml_X11_370 im_X11_meet se_X11_meet (by rw [k_a]; rfl) rfl rfl rfl (Nat.le_of_ble_eq_true rfl) ⟨Nat.zero_le _, Nat.zero_le _⟩ (fun r58 σ59 hpo57 hok60 => ?_)
                          obtain ⟨rfl, ⟨vu61, rfl, hvu61⟩⟩ := hpo57
                          refine sv_same (st2 := [sv_i vu61]) (lv2 := [(0, sv_r a), (1, sv_i ar1), (3, sv_i v13), (4, sv_i Xg24_l4), (5, sv_i Xg24_l5), (6, sv_i Xg42_l6), (7, sv_i Xg42_l7)]) rfl rfl ?_
                          refine sv_ldc_w C (index := 359) (z := 268435456) (by decide +kernel) ci_X11_359 (by decide) ?_
                          refine sv_icmp C.1 C.2.1 (cnd := .ne) (off := 7) (tgt := 108) (by decide +kernel) (by decide) ⟨by omega, by omega⟩ ⟨by omega, by omega⟩ (fun (h62 : vu61 ≠ 268435456) => ?_) (fun (h62 : ¬ (vu61 ≠ 268435456)) => ?_)
                          · refine sv_go C.1 C.2.1 [(.iconst 0, 1)] (pc' := 109) (by decide +kernel) rfl (lv' := [(0, sv_r a), (1, sv_i ar1), (3, sv_i v13), (4, sv_i Xg24_l4), (5, sv_i Xg24_l5), (6, sv_i Xg42_l6), (7, sv_i Xg42_l7)]) (st' := [sv_i 0]) rfl ?_
                            refine sv_pick [0, 1, 2, 3, 4, 6] (lv2 := [(0, sv_r a), (1, sv_i ar1), (3, sv_i v13), (4, sv_i Xg24_l4), (5, sv_i Xg24_l5), (7, sv_i Xg42_l7)]) rfl ?_
                            exact J49 0 ⟨by omega, by omega⟩
                          · refine sv_go C.1 C.2.1 [(.iconst 1, 1)] (pc' := 105) (by decide +kernel) rfl (lv' := [(0, sv_r a), (1, sv_i ar1), (3, sv_i v13), (4, sv_i Xg24_l4), (5, sv_i Xg24_l5), (6, sv_i Xg42_l6), (7, sv_i Xg42_l7)]) (st' := [sv_i 1]) rfl ?_
                            refine sv_goto C.1 C.2.1 (off := 4) (tgt := 109) (by decide +kernel) (by decide) ?_
                            refine sv_pick [0, 1, 2, 3, 4, 6] (lv2 := [(0, sv_r a), (1, sv_i ar1), (3, sv_i v13), (4, sv_i Xg24_l4), (5, sv_i Xg24_l5), (7, sv_i Xg42_l7)]) rfl ?_
                            exact J49 1 ⟨by omega, by omega⟩
              exact L43 (((12 - 0 : Int)).toNat + 1) 1 0 ⟨by omega, by omega⟩ ⟨by omega, by omega⟩ (by omega)
      refine sv_pick [0, 1, 3, 4, 5] (lv2 := [(0, sv_r a), (1, sv_i ar1), (3, sv_i v13), (4, sv_i ((-1))), (5, sv_i ar2)]) rfl ?_
      exact L26 (((1441 - ar2 : Int)).toNat + 1) ((-1)) ar2 v13 σ ⟨by omega, by omega⟩ ⟨by omega, by omega⟩ ⟨by omega, by omega⟩ hok11 hI hF es2 ev13 (fun j _ => rfl) (by omega)
    · refine sv_same (st2 := [sv_i 0]) (lv2 := [(0, sv_r a), (1, sv_i ar1), (2, sv_i ar2)]) rfl rfl ?_
      refine sv_if_f C.1 C.2.1 (cnd := .ne) (off := 6) (tgt := 23) (by decide +kernel) (by decide) ⟨by omega, by omega⟩ (show ¬ (0 ≠ 0) by omega) ?_
      refine sv_go C.1 C.2.1 [(.bipush (-2), 2)] (pc' := 22) (by decide +kernel) rfl (lv' := [(0, sv_r a), (1, sv_i ar1), (2, sv_i ar2)]) (st' := [sv_i ((-2))]) rfl ?_
      exact sv_iret C hr (by decide +kernel) hok11 (⟨⟨_, rfl, ⟨by omega, by omega⟩⟩, hI, hF, fun _ => rfl⟩)

set_option maxHeartbeats 4000000 in
set_option maxRecDepth 100000 in
theorem ct_X8_setStreet (l : Launch) (g : sv_G) (A : Nat → Prop) (ty : Nat → Nat) (σ : Nat → Nat → Int) (hok : sv_ok ty σ) (hTA : ∀ q, ty q ≠ 0 → A q) (hI : sv_inv sp_1 ty σ) (a : Nat) (k_a : ty a = 6) (v : Int) (h_v : 0 ≤ v ∧ v ≤ 19) (w : Int) (h_w : 0 ≤ w ∧ w ≤ 19) (x : Int) (h_x : 0 ≤ x ∧ x ≤ 60) (mq : Nat) (k_mq : ty mq = 38) (em : σ a 2 = (mq : Int) + 1) : sv_M l yX8_setStreet cX8_setStreet 5 (some .int) { frames := 2, cells := 0, slots := 0, locals := 42 } g A ty σ [sv_r a, sv_i v, sv_i w, sv_i x] (fun r σ' => (∃ rv : Int, r = [sv_i rv] ∧ (0 ≤ rv ∧ rv ≤ 60) ∧ ((-2147483648) ≤ rv → rv ≤ 2147483647 → rv = σ mq (20 * v + w).toNat ∧ ∀ j : Nat, σ' mq j = if j = (20 * v + w).toNat ∨ j = (20 * w + v).toNat then x else σ mq j)) ∧ sv_inv sp_1 ty σ' ∧ sv_ofx [(6, 1)] [38] ty σ σ') := by
  refine sv_enter (by decide) (Nat.le_of_ble_eq_true rfl) ?_
  intro p e s m args below meth c C hr
  have C : sv_C g A RX8 cX8_setStreet 5 p s m args meth c := C
  have hr : meth.sig.returnType = (some .int) := hr
  have hF : sv_ofx [(6, 1)] [38] ty σ σ := sv_ofx.rf
  refine sv_same (st2 := []) (lv2 := [(0, sv_r a), (1, sv_i v), (2, sv_i w), (3, sv_i x)]) rfl rfl ?_
  refine sv_go C.1 C.2.1 [(.aload_n 0, 1), (.iload_n 1, 1), (.iload_n 2, 1)] (pc' := 3) (by decide +kernel) rfl (lv' := [(0, sv_r a), (1, sv_i v), (2, sv_i w), (3, sv_i x)]) (st' := [sv_i w, sv_i v, sv_r a]) rfl ?_
  refine sv_cv C (index := 29) (k := 2) (rest := []) (ci := 7) (r := (RX8, TX8, 4)) (by decide +kernel) (ct_X8_minutesBetween l g A ty σ hok hTA hI a k_a (v) ⟨by omega, by omega⟩ (w) ⟨by omega, by omega⟩ mq k_mq em) ⟨co_X8_minutesBetween, in_X8, ⟨by decide, by decide, by decide +kernel⟩, Nat.le_of_ble_eq_true rfl, Nat.le_of_ble_eq_true rfl⟩ ml_X8_29 im_X8_minutesBetween se_X8_minutesBetween (by rw [k_a]; rfl) rfl rfl rfl (Nat.le_of_ble_eq_true rfl) ⟨Nat.zero_le _, Nat.zero_le _⟩ (fun r2 σ3 hpo1 hok4 => ?_)
  obtain ⟨rfl, ⟨vu5, rfl, hvu5, ivu5_0⟩⟩ := hpo1
  have hp6 := ivu5_0 (by omega) (by omega)
  refine sv_same (st2 := [sv_i vu5]) (lv2 := [(0, sv_r a), (1, sv_i v), (2, sv_i w), (3, sv_i x)]) rfl rfl ?_
  refine sv_go C.1 C.2.1 [(.istore 4, 2), (.aload_n 0, 1)] (pc' := 9) (by decide +kernel) rfl (lv' := [(0, sv_r a), (1, sv_i v), (2, sv_i w), (3, sv_i x), (4, sv_i vu5)]) (st' := [sv_r a]) rfl ?_
  refine sv_gf C (index := 17) (ci := 7) (k := 2) (r := (RX8, TX8, 4)) (v := sv_r mq) (by decide +kernel) (by rw [k_a]; rfl) rfl (by decide) fl_X8_17 (congrArg sv_a em) ?_
  refine sv_go C.1 C.2.1 [(.bipush 20, 2), (.iload_n 1, 1), (.imul, 1), (.iload_n 2, 1), (.iadd, 1), (.iload_n 3, 1)] (pc' := 19) (by decide +kernel) rfl (lv' := [(0, sv_r a), (1, sv_i v), (2, sv_i w), (3, sv_i x), (4, sv_i vu5)]) (st' := [sv_i x, sv_i ((20 * v) + w), sv_r mq]) rfl ?_
  refine sv_is C (n := 400) (by decide +kernel) (by rw [k_mq]; rfl) (by decide) (by omega) (by omega) ⟨by omega, by omega⟩ (hTA _ (by rw [k_mq]; decide)) hok4 (fun hok7 => ?_)
  have hI9 := hI.up (a := mq) (k := ((20 * v) + w : Int).toNat) (z := x) (by rw [k_mq]; exact ⟨by omega, by omega⟩)
  have hF10 := hF.up (a := mq) (k := ((20 * v) + w : Int).toNat) (z := x) (Or.inl (by rw [k_mq]; decide))
  generalize eσ8 : sv_up σ mq ((20 * v) + w : Int).toNat x = σ8 at hok7 hI9 hF10 ⊢
  have t11 : σ8 a 2 = (mq : Int) + 1 := by rw [← eσ8, sv_up_a (sv_ne k_a k_mq (by decide))]; exact em
  have t12 : σ8 mq ((20 * v) + w : Int).toNat = x := by rw [← eσ8]; exact sv_up_s _ _ _ _
  refine sv_go C.1 C.2.1 [(.aload_n 0, 1)] (pc' := 21) (by decide +kernel) rfl (lv' := [(0, sv_r a), (1, sv_i v), (2, sv_i w), (3, sv_i x), (4, sv_i vu5)]) (st' := [sv_r a]) rfl ?_
  refine sv_gf C (index := 17) (ci := 7) (k := 2) (r := (RX8, TX8, 4)) (v := sv_r mq) (by decide +kernel) (by rw [k_a]; rfl) rfl (by decide) fl_X8_17 (congrArg sv_a t11) ?_
  refine sv_go C.1 C.2.1 [(.bipush 20, 2), (.iload_n 2, 1), (.imul, 1), (.iload_n 1, 1), (.iadd, 1), (.iload_n 3, 1)] (pc' := 31) (by decide +kernel) rfl (lv' := [(0, sv_r a), (1, sv_i v), (2, sv_i w), (3, sv_i x), (4, sv_i vu5)]) (st' := [sv_i x, sv_i ((20 * w) + v), sv_r mq]) rfl ?_
  refine sv_is C (n := 400) (by decide +kernel) (by rw [k_mq]; rfl) (by decide) (by omega) (by omega) ⟨by omega, by omega⟩ (hTA _ (by rw [k_mq]; decide)) hok7 (fun hok13 => ?_)
  have hI15 := hI9.up (a := mq) (k := ((20 * w) + v : Int).toNat) (z := x) (by rw [k_mq]; exact ⟨by omega, by omega⟩)
  have hF16 := hF10.up (a := mq) (k := ((20 * w) + v : Int).toNat) (z := x) (Or.inl (by rw [k_mq]; decide))
  generalize eσ14 : sv_up σ8 mq ((20 * w) + v : Int).toNat x = σ14 at hok13 hI15 hF16 ⊢
  have t17 : σ14 a 2 = (mq : Int) + 1 := by rw [← eσ14, sv_up_a (sv_ne k_a k_mq (by decide))]; exact t11
  have t19 : σ14 mq ((20 * w) + v : Int).toNat = x := by rw [← eσ14]; exact sv_up_s _ _ _ _
  refine sv_go C.1 C.2.1 [(.aload_n 0, 1), (.dup, 1)] (pc' := 34) (by decide +kernel) rfl (lv' := [(0, sv_r a), (1, sv_i v), (2, sv_i w), (3, sv_i x), (4, sv_i vu5)]) (st' := [sv_r a, sv_r a]) rfl ?_
  obtain ⟨v20, ev20, hv20⟩ := sv_rdk hok13 (a := a) (k := 1) (ci := 7) (r := (RX8, TX8, 4)) (by rw [k_a]; rfl) rfl (by decide) rfl
  refine sv_gf C (index := 33) (ci := 7) (k := 1) (r := (RX8, TX8, 4)) (v := sv_i v20) (by decide +kernel) (by rw [k_a]; rfl) rfl (by decide) fl_X8_33 (congrArg sv_i ev20) ?_
  refine sv_go C.1 C.2.1 [(.iload_n 3, 1), (.iconst 0, 1)] (pc' := 39) (by decide +kernel) rfl (lv' := [(0, sv_r a), (1, sv_i v), (2, sv_i w), (3, sv_i x), (4, sv_i vu5)]) (st' := [sv_i 0, sv_i x, sv_i v20, sv_r a]) rfl ?_
  refine sv_cs C (index := 37) (k := 2) (rest := [sv_i v20, sv_r a]) (by decide +kernel) (sf_J6_compare_7cf53 l g A ty σ14 hok13 hTA hI15 (x) ⟨by omega, by omega⟩ (0) ⟨by omega, by omega⟩) ⟨co_J6_compare_7cf53, in_J6, ⟨by decide, by decide, by decide +kernel⟩, Nat.le_of_ble_eq_true rfl, Nat.le_of_ble_eq_true rfl⟩ ml_X8_37 st_J6_compare_7cf53 rfl rfl (Nat.le_of_ble_eq_true rfl) ⟨Nat.zero_le _, Nat.zero_le _⟩ (fun r22 σ23 hpo21 hok24 => ?_)
  obtain ⟨rfl, ⟨vu25, rfl, hvu25⟩⟩ := hpo21
  refine sv_same (st2 := [sv_i vu25, sv_i v20, sv_r a]) (lv2 := [(0, sv_r a), (1, sv_i v), (2, sv_i w), (3, sv_i x), (4, sv_i vu5)]) rfl rfl ?_
  refine sv_go C.1 C.2.1 [(.iload 4, 2), (.iconst 0, 1)] (pc' := 45) (by decide +kernel) rfl (lv' := [(0, sv_r a), (1, sv_i v), (2, sv_i w), (3, sv_i x), (4, sv_i vu5)]) (st' := [sv_i 0, sv_i vu5, sv_i vu25, sv_i v20, sv_r a]) rfl ?_
  refine sv_cs C (index := 37) (k := 2) (rest := [sv_i vu25, sv_i v20, sv_r a]) (by decide +kernel) (sf_J6_compare_7cf53 l g A ty σ14 hok24 hTA hI15 (vu5) ⟨by omega, by omega⟩ (0) ⟨by omega, by omega⟩) ⟨co_J6_compare_7cf53, in_J6, ⟨by decide, by decide, by decide +kernel⟩, Nat.le_of_ble_eq_true rfl, Nat.le_of_ble_eq_true rfl⟩ ml_X8_37 st_J6_compare_7cf53 rfl rfl (Nat.le_of_ble_eq_true rfl) ⟨Nat.zero_le _, Nat.zero_le _⟩ (fun r27 σ28 hpo26 hok29 => ?_)
  obtain ⟨rfl, ⟨vu30, rfl, hvu30⟩⟩ := hpo26
  refine sv_same (st2 := [sv_i vu30, sv_i vu25, sv_i v20, sv_r a]) (lv2 := [(0, sv_r a), (1, sv_i v), (2, sv_i w), (3, sv_i x), (4, sv_i vu5)]) rfl rfl ?_
  refine sv_go C.1 C.2.1 [(.isub, 1), (.iadd, 1)] (pc' := 50) (by decide +kernel) rfl (lv' := [(0, sv_r a), (1, sv_i v), (2, sv_i w), (3, sv_i x), (4, sv_i vu5)]) (st' := [sv_i (v20 + (vu25 - vu30)), sv_r a]) rfl ?_
  obtain ⟨w31, hw31, ew31⟩ := sv_wr (v20 + (vu25 - vu30))
  refine sv_sameD (st2 := [sv_i w31, sv_r a]) (lv2 := [(0, sv_r a), (1, sv_i v), (2, sv_i w), (3, sv_i x), (4, sv_i vu5)]) (by simp only [List.map_cons, List.map_nil, sv_den_i, ew31]) rfl ?_
  refine sv_pf C (index := 33) (ci := 7) (k := 1) (r := (RX8, TX8, 4)) (z := w31) (by decide +kernel) (by rw [k_a]; rfl) rfl (by decide) rfl fl_X8_33 rfl (Or.inl rfl) ⟨by omega, by omega⟩ (hTA _ (by rw [k_a]; decide)) hok29 (fun hok32 => ?_)
  have hI34 := hI15.up (a := a) (k := 1) (z := w31) (by rw [k_a]; exact trivial)
  have hF35 := hF16.up (a := a) (k := 1) (z := w31) (Or.inr (by rw [k_a]; decide))
  generalize eσ33 : sv_up σ14 a 1 w31 = σ33 at hok32 hI34 hF35 ⊢
  have t36 : σ33 a 2 = (mq : Int) + 1 := by rw [← eσ33, sv_up_k (by decide)]; exact t17
  have t37 : σ33 mq ((20 * w) + v : Int).toNat = x := by rw [← eσ33, sv_up_a (sv_ne k_mq k_a (by decide))]; exact t19
  have t38 : σ33 a 1 = w31 := by rw [← eσ33]; exact sv_up_s _ _ _ _
  refine sv_go C.1 C.2.1 [(.iload 4, 2)] (pc' := 55) (by decide +kernel) rfl (lv' := [(0, sv_r a), (1, sv_i v), (2, sv_i w), (3, sv_i x), (4, sv_i vu5)]) (st' := [sv_i vu5]) rfl ?_
  exact sv_iret C hr (by decide +kernel) hok32 (⟨⟨_, rfl, ⟨by omega, by omega⟩, fun _ _ => ⟨by omega, fun j => by rw [← eσ33, sv_up_a (sv_ne k_mq k_a (by decide)), ← eσ14, ← eσ8]; exact zs_two _ _ _ _ _ j⟩⟩, hI34, hF35⟩)

set_option maxHeartbeats 4000000 in
set_option maxRecDepth 100000 in
theorem ct_X9_street (l : Launch) (g : sv_G) (A : Nat → Prop) (ty : Nat → Nat) (σ : Nat → Nat → Int) (hok : sv_ok ty σ) (hTA : ∀ q, ty q ≠ 0 → A q) (hI : sv_inv sp_1 ty σ) (a : Nat) (k_a : ty a = 1) (ar1 : Int) (h_ar1 : (-2147483648) ≤ ar1 ∧ ar1 ≤ 2147483647) (ar2 : Int) (h_ar2 : (-2147483648) ≤ ar2 ∧ ar2 ≤ 2147483647) (ar3 : Int) (h_ar3 : (-2147483648) ≤ ar3 ∧ ar3 ≤ 2147483647) (tq : Nat) (k_tq : ty tq = 6) (mq : Nat) (k_mq : ty mq = 38) (et : σ a 4 = (tq : Int) + 1) (em : σ tq 2 = (mq : Int) + 1) : sv_M l yX9_street cX9_street 4 (some .int) { frames := 3, cells := 0, slots := 0, locals := 66 } g A ty σ [sv_r a, sv_i ar1, sv_i ar2, sv_i ar3] (fun r σ' => (∃ rv : Int, r = [sv_i rv] ∧ ((-2) ≤ rv ∧ rv ≤ 60) ∧ ((-2147483648) ≤ rv → rv ≤ 2147483647 → fs_street σ σ' mq ar1 ar2 ar3 rv)) ∧ sv_inv sp_1 ty σ' ∧ sv_ofx [(6, 1)] [38] ty σ σ') := by
  refine sv_enter (by decide) (Nat.le_of_ble_eq_true rfl) ?_
  intro p e s m args below meth c C hr
  have C : sv_C g A RX9 cX9_street 4 p s m args meth c := C
  have hr : meth.sig.returnType = (some .int) := hr
  have hF : sv_ofx [(6, 1)] [38] ty σ σ := sv_ofx.rf
  refine sv_same (st2 := []) (lv2 := [(0, sv_r a), (1, sv_i ar1), (2, sv_i ar2), (3, sv_i ar3)]) rfl rfl ?_
  refine sv_go C.1 C.2.1 [(.iload_n 1, 1)] (pc' := 1) (by decide +kernel) rfl (lv' := [(0, sv_r a), (1, sv_i ar1), (2, sv_i ar2), (3, sv_i ar3)]) (st' := [sv_i ar1]) rfl ?_
  refine sv_cs C (index := 177) (k := 1) (rest := []) (by decide +kernel) (sf2_X9_isCorner l g A ty σ hok hTA hI (ar1) ⟨by omega, by omega⟩) ⟨co_X9_isCorner, in_X9, ⟨by decide, by decide, by decide +kernel⟩, Nat.le_of_ble_eq_true rfl, Nat.le_of_ble_eq_true rfl⟩ ml_X9_177 st_X9_isCorner rfl rfl (Nat.le_of_ble_eq_true rfl) ⟨Nat.zero_le _, Nat.zero_le _⟩ (fun r2 σ3 hpo1 hok4 => ?_)
  obtain ⟨rfl, ⟨vu5, rfl, hvu5, ivu5_0, ivu5_1⟩⟩ := hpo1
  refine sv_same (st2 := [sv_i vu5]) (lv2 := [(0, sv_r a), (1, sv_i ar1), (2, sv_i ar2), (3, sv_i ar3)]) rfl rfl ?_
  refine sv_if C.1 C.2.1 (cnd := .eq) (off := 25) (tgt := 29) (by decide +kernel) (by decide) ⟨by omega, by omega⟩ (fun (h6 : vu5 = 0) => ?_) (fun (h6 : ¬ (vu5 = 0)) => ?_)
  · have hp7 := ivu5_1 (by omega) (by omega)
    refine sv_go C.1 C.2.1 [(.bipush (-2), 2)] (pc' := 31) (by decide +kernel) rfl (lv' := [(0, sv_r a), (1, sv_i ar1), (2, sv_i ar2), (3, sv_i ar3)]) (st' := [sv_i ((-2))]) rfl ?_
    exact sv_iret C hr (by decide +kernel) hok4 (⟨⟨_, rfl, ⟨by omega, by omega⟩, fun _ _ => ⟨fun h => absurd h (by unfold fs_ok; omega), fun _ => ⟨rfl, fun j => rfl⟩⟩⟩, hI, hF⟩)
  · have hp8 := ivu5_0 (by omega) (by omega)
    refine sv_go C.1 C.2.1 [(.iload_n 2, 1)] (pc' := 8) (by decide +kernel) rfl (lv' := [(0, sv_r a), (1, sv_i ar1), (2, sv_i ar2), (3, sv_i ar3)]) (st' := [sv_i ar2]) rfl ?_
    refine sv_cs C (index := 177) (k := 1) (rest := []) (by decide +kernel) (sf2_X9_isCorner l g A ty σ hok4 hTA hI (ar2) ⟨by omega, by omega⟩) ⟨co_X9_isCorner, in_X9, ⟨by decide, by decide, by decide +kernel⟩, Nat.le_of_ble_eq_true rfl, Nat.le_of_ble_eq_true rfl⟩ ml_X9_177 st_X9_isCorner rfl rfl (Nat.le_of_ble_eq_true rfl) ⟨Nat.zero_le _, Nat.zero_le _⟩ (fun r10 σ11 hpo9 hok12 => ?_)
    obtain ⟨rfl, ⟨vu13, rfl, hvu13, ivu13_0, ivu13_1⟩⟩ := hpo9
    refine sv_same (st2 := [sv_i vu13]) (lv2 := [(0, sv_r a), (1, sv_i ar1), (2, sv_i ar2), (3, sv_i ar3)]) rfl rfl ?_
    refine sv_if C.1 C.2.1 (cnd := .eq) (off := 18) (tgt := 29) (by decide +kernel) (by decide) ⟨by omega, by omega⟩ (fun (h14 : vu13 = 0) => ?_) (fun (h14 : ¬ (vu13 = 0)) => ?_)
    · have hp15 := ivu13_1 (by omega) (by omega)
      refine sv_go C.1 C.2.1 [(.bipush (-2), 2)] (pc' := 31) (by decide +kernel) rfl (lv' := [(0, sv_r a), (1, sv_i ar1), (2, sv_i ar2), (3, sv_i ar3)]) (st' := [sv_i ((-2))]) rfl ?_
      exact sv_iret C hr (by decide +kernel) hok12 (⟨⟨_, rfl, ⟨by omega, by omega⟩, fun _ _ => ⟨fun h => absurd h (by unfold fs_ok; omega), fun _ => ⟨rfl, fun j => rfl⟩⟩⟩, hI, hF⟩)
    · have hp16 := ivu13_0 (by omega) (by omega)
      refine sv_go C.1 C.2.1 [(.iload_n 1, 1), (.iload_n 2, 1)] (pc' := 16) (by decide +kernel) rfl (lv' := [(0, sv_r a), (1, sv_i ar1), (2, sv_i ar2), (3, sv_i ar3)]) (st' := [sv_i ar2, sv_i ar1]) rfl ?_
      refine sv_icmp C.1 C.2.1 (cnd := .eq) (off := 13) (tgt := 29) (by decide +kernel) (by decide) ⟨by omega, by omega⟩ ⟨by omega, by omega⟩ (fun (h17 : ar1 = ar2) => ?_) (fun (h17 : ¬ (ar1 = ar2)) => ?_)
      · refine sv_go C.1 C.2.1 [(.bipush (-2), 2)] (pc' := 31) (by decide +kernel) rfl (lv' := [(0, sv_r a), (1, sv_i ar1), (2, sv_i ar2), (3, sv_i ar3)]) (st' := [sv_i ((-2))]) rfl ?_
        exact sv_iret C hr (by decide +kernel) hok12 (⟨⟨_, rfl, ⟨by omega, by omega⟩, fun _ _ => ⟨fun h => absurd h (by unfold fs_ok; omega), fun _ => ⟨rfl, fun j => rfl⟩⟩⟩, hI, hF⟩)
      · refine sv_go C.1 C.2.1 [(.iload_n 3, 1)] (pc' := 20) (by decide +kernel) rfl (lv' := [(0, sv_r a), (1, sv_i ar1), (2, sv_i ar2), (3, sv_i ar3)]) (st' := [sv_i ar3]) rfl ?_
        refine sv_if C.1 C.2.1 (cnd := .lt) (off := 9) (tgt := 29) (by decide +kernel) (by decide) ⟨by omega, by omega⟩ (fun (h18 : ar3 < 0) => ?_) (fun (h18 : ¬ (ar3 < 0)) => ?_)
        · refine sv_go C.1 C.2.1 [(.bipush (-2), 2)] (pc' := 31) (by decide +kernel) rfl (lv' := [(0, sv_r a), (1, sv_i ar1), (2, sv_i ar2), (3, sv_i ar3)]) (st' := [sv_i ((-2))]) rfl ?_
          exact sv_iret C hr (by decide +kernel) hok12 (⟨⟨_, rfl, ⟨by omega, by omega⟩, fun _ _ => ⟨fun h => absurd h (by unfold fs_ok; omega), fun _ => ⟨rfl, fun j => rfl⟩⟩⟩, hI, hF⟩)
        · refine sv_go C.1 C.2.1 [(.iload_n 3, 1), (.bipush 60, 2)] (pc' := 26) (by decide +kernel) rfl (lv' := [(0, sv_r a), (1, sv_i ar1), (2, sv_i ar2), (3, sv_i ar3)]) (st' := [sv_i 60, sv_i ar3]) rfl ?_
          refine sv_icmp C.1 C.2.1 (cnd := .le) (off := 6) (tgt := 32) (by decide +kernel) (by decide) ⟨by omega, by omega⟩ ⟨by omega, by omega⟩ (fun (h19 : ar3 ≤ 60) => ?_) (fun (h19 : ¬ (ar3 ≤ 60)) => ?_)
          · refine sv_go C.1 C.2.1 [(.aload_n 0, 1)] (pc' := 33) (by decide +kernel) rfl (lv' := [(0, sv_r a), (1, sv_i ar1), (2, sv_i ar2), (3, sv_i ar3)]) (st' := [sv_r a]) rfl ?_
            refine sv_gf C (index := 40) (ci := 8) (k := 4) (r := (RX9, TX9, 6)) (v := sv_r tq) (by decide +kernel) (by rw [k_a]; rfl) rfl (by decide) fl_X9_40 (congrArg sv_a et) ?_
            refine sv_go C.1 C.2.1 [(.iload_n 1, 1), (.iload_n 2, 1), (.iload_n 3, 1)] (pc' := 39) (by decide +kernel) rfl (lv' := [(0, sv_r a), (1, sv_i ar1), (2, sv_i ar2), (3, sv_i ar3)]) (st' := [sv_i ar3, sv_i ar2, sv_i ar1, sv_r tq]) rfl ?_
            refine sv_cv C (index := 180) (k := 3) (rest := []) (ci := 7) (r := (RX8, TX8, 4)) (by decide +kernel) (ct_X8_setStreet l g A ty σ hok12 hTA hI tq k_tq (ar1) ⟨by omega, by omega⟩ (ar2) ⟨by omega, by omega⟩ (ar3) ⟨by omega, by omega⟩ mq k_mq em) ⟨co_X8_setStreet, in_X8, ⟨by decide, by decide, by decide +kernel⟩, Nat.le_of_ble_eq_true rfl, Nat.le_of_ble_eq_true rfl⟩ ml_X9_180 im_X8_setStreet se_X8_setStreet (by rw [k_tq]; rfl) rfl rfl rfl (Nat.le_of_ble_eq_true rfl) ⟨Nat.zero_le _, Nat.zero_le _⟩ (fun r21 σ22 hpo20 hok23 => ?_)
            obtain ⟨⟨vu24, rfl, hvu24, ivu24_0⟩, hIu24, hFu24⟩ := hpo20
            have hGu24 := hF.tr hFu24 (by decide) (by decide)
            have t25 : σ22 a 4 = (tq : Int) + 1 := (hFu24.at k_a (by decide) (by decide)).trans et
            have t26 : σ22 tq 2 = (mq : Int) + 1 := (hFu24.at k_tq (by decide) (by decide)).trans em
            have hp27 := ivu24_0 (by omega) (by omega)
            refine sv_same (st2 := [sv_i vu24]) (lv2 := [(0, sv_r a), (1, sv_i ar1), (2, sv_i ar2), (3, sv_i ar3)]) rfl rfl ?_
            exact sv_iret C hr (by decide +kernel) hok23 (⟨⟨_, rfl, ⟨by omega, by omega⟩, fun _ _ => ⟨fun _ => hp27, fun h => absurd (by unfold fs_ok; omega) h⟩⟩, hIu24, hGu24⟩)
          · refine sv_go C.1 C.2.1 [(.bipush (-2), 2)] (pc' := 31) (by decide +kernel) rfl (lv' := [(0, sv_r a), (1, sv_i ar1), (2, sv_i ar2), (3, sv_i ar3)]) (st' := [sv_i ((-2))]) rfl ?_
            exact sv_iret C hr (by decide +kernel) hok12 (⟨⟨_, rfl, ⟨by omega, by omega⟩, fun _ _ => ⟨fun h => absurd h (by unfold fs_ok; omega), fun _ => ⟨rfl, fun j => rfl⟩⟩⟩, hI, hF⟩)

set_option maxHeartbeats 4000000 in
set_option maxRecDepth 100000 in
theorem ct_X11_street (l : Launch) (g : sv_G) (A : Nat → Prop) (ty : Nat → Nat) (σ : Nat → Nat → Int) (hok : sv_ok ty σ) (hTA : ∀ q, ty q ≠ 0 → A q) (hI : sv_inv sp_1 ty σ) (a : Nat) (k_a : ty a = 10) (ar1 : Int) (h_ar1 : (-2147483648) ≤ ar1 ∧ ar1 ≤ 2147483647) (ar2 : Int) (h_ar2 : (-2147483648) ≤ ar2 ∧ ar2 ≤ 2147483647) (ar3 : Int) (h_ar3 : (-2147483648) ≤ ar3 ∧ ar3 ≤ 2147483647) (sq : Nat) (k_sq : ty sq = 101) (es : σ a 41 = (sq : Int) + 1) : sv_M l yX11_street cX11_street 5 (some .int) { frames := 2, cells := 0, slots := 0, locals := 45 } g A ty σ [sv_r a, sv_i ar1, sv_i ar2, sv_i ar3] (fun r σ' => (∃ rv : Int, r = [sv_i rv] ∧ ((-2) ≤ rv ∧ rv ≤ 60) ∧ ((-2147483648) ≤ rv → rv ≤ 2147483647 → fs_street σ σ' sq ar1 ar2 ar3 rv)) ∧ sv_inv sp_1 ty σ' ∧ sv_ofx [] [101] ty σ σ') := by
  refine sv_enter (by decide) (Nat.le_of_ble_eq_true rfl) ?_
  intro p e s m args below meth c C hr
  have C : sv_C g A RX11 cX11_street 5 p s m args meth c := C
  have hr : meth.sig.returnType = (some .int) := hr
  have hF : sv_ofx [] [101] ty σ σ := sv_ofx.rf
  refine sv_same (st2 := []) (lv2 := [(0, sv_r a), (1, sv_i ar1), (2, sv_i ar2), (3, sv_i ar3)]) rfl rfl ?_
  refine sv_go C.1 C.2.1 [(.iload_n 1, 1)] (pc' := 1) (by decide +kernel) rfl (lv' := [(0, sv_r a), (1, sv_i ar1), (2, sv_i ar2), (3, sv_i ar3)]) (st' := [sv_i ar1]) rfl ?_
  refine sv_cs C (index := 338) (k := 1) (rest := []) (by decide +kernel) (sf2_X11_isCorner l g A ty σ hok hTA hI (ar1) ⟨by omega, by omega⟩) ⟨co_X11_isCorner, in_X11, ⟨by decide, by decide, by decide +kernel⟩, Nat.le_of_ble_eq_true rfl, Nat.le_of_ble_eq_true rfl⟩ ml_X11_338 st_X11_isCorner rfl rfl (Nat.le_of_ble_eq_true rfl) ⟨Nat.zero_le _, Nat.zero_le _⟩ (fun r2 σ3 hpo1 hok4 => ?_)
  obtain ⟨rfl, ⟨vu5, rfl, hvu5, ivu5_0, ivu5_1⟩⟩ := hpo1
  refine sv_same (st2 := [sv_i vu5]) (lv2 := [(0, sv_r a), (1, sv_i ar1), (2, sv_i ar2), (3, sv_i ar3)]) rfl rfl ?_
  refine sv_if C.1 C.2.1 (cnd := .eq) (off := 27) (tgt := 31) (by decide +kernel) (by decide) ⟨by omega, by omega⟩ (fun (h6 : vu5 = 0) => ?_) (fun (h6 : ¬ (vu5 = 0)) => ?_)
  · have hp7 := ivu5_1 (by omega) (by omega)
    refine sv_go C.1 C.2.1 [(.bipush (-2), 2)] (pc' := 33) (by decide +kernel) rfl (lv' := [(0, sv_r a), (1, sv_i ar1), (2, sv_i ar2), (3, sv_i ar3)]) (st' := [sv_i ((-2))]) rfl ?_
    exact sv_iret C hr (by decide +kernel) hok4 (⟨⟨_, rfl, ⟨by omega, by omega⟩, fun _ _ => ⟨fun h => absurd h (by unfold fs_ok; omega), fun _ => ⟨rfl, fun j => rfl⟩⟩⟩, hI, hF⟩)
  · have hp8 := ivu5_0 (by omega) (by omega)
    refine sv_go C.1 C.2.1 [(.iload_n 2, 1)] (pc' := 8) (by decide +kernel) rfl (lv' := [(0, sv_r a), (1, sv_i ar1), (2, sv_i ar2), (3, sv_i ar3)]) (st' := [sv_i ar2]) rfl ?_
    refine sv_cs C (index := 338) (k := 1) (rest := []) (by decide +kernel) (sf2_X11_isCorner l g A ty σ hok4 hTA hI (ar2) ⟨by omega, by omega⟩) ⟨co_X11_isCorner, in_X11, ⟨by decide, by decide, by decide +kernel⟩, Nat.le_of_ble_eq_true rfl, Nat.le_of_ble_eq_true rfl⟩ ml_X11_338 st_X11_isCorner rfl rfl (Nat.le_of_ble_eq_true rfl) ⟨Nat.zero_le _, Nat.zero_le _⟩ (fun r10 σ11 hpo9 hok12 => ?_)
    obtain ⟨rfl, ⟨vu13, rfl, hvu13, ivu13_0, ivu13_1⟩⟩ := hpo9
    refine sv_same (st2 := [sv_i vu13]) (lv2 := [(0, sv_r a), (1, sv_i ar1), (2, sv_i ar2), (3, sv_i ar3)]) rfl rfl ?_
    refine sv_if C.1 C.2.1 (cnd := .eq) (off := 20) (tgt := 31) (by decide +kernel) (by decide) ⟨by omega, by omega⟩ (fun (h14 : vu13 = 0) => ?_) (fun (h14 : ¬ (vu13 = 0)) => ?_)
    · have hp15 := ivu13_1 (by omega) (by omega)
      refine sv_go C.1 C.2.1 [(.bipush (-2), 2)] (pc' := 33) (by decide +kernel) rfl (lv' := [(0, sv_r a), (1, sv_i ar1), (2, sv_i ar2), (3, sv_i ar3)]) (st' := [sv_i ((-2))]) rfl ?_
      exact sv_iret C hr (by decide +kernel) hok12 (⟨⟨_, rfl, ⟨by omega, by omega⟩, fun _ _ => ⟨fun h => absurd h (by unfold fs_ok; omega), fun _ => ⟨rfl, fun j => rfl⟩⟩⟩, hI, hF⟩)
    · have hp16 := ivu13_0 (by omega) (by omega)
      refine sv_go C.1 C.2.1 [(.iload_n 1, 1), (.iload_n 2, 1)] (pc' := 16) (by decide +kernel) rfl (lv' := [(0, sv_r a), (1, sv_i ar1), (2, sv_i ar2), (3, sv_i ar3)]) (st' := [sv_i ar2, sv_i ar1]) rfl ?_
      refine sv_icmp C.1 C.2.1 (cnd := .eq) (off := 15) (tgt := 31) (by decide +kernel) (by decide) ⟨by omega, by omega⟩ ⟨by omega, by omega⟩ (fun (h17 : ar1 = ar2) => ?_) (fun (h17 : ¬ (ar1 = ar2)) => ?_)
      · refine sv_go C.1 C.2.1 [(.bipush (-2), 2)] (pc' := 33) (by decide +kernel) rfl (lv' := [(0, sv_r a), (1, sv_i ar1), (2, sv_i ar2), (3, sv_i ar3)]) (st' := [sv_i ((-2))]) rfl ?_
        exact sv_iret C hr (by decide +kernel) hok12 (⟨⟨_, rfl, ⟨by omega, by omega⟩, fun _ _ => ⟨fun h => absurd h (by unfold fs_ok; omega), fun _ => ⟨rfl, fun j => rfl⟩⟩⟩, hI, hF⟩)
      · refine sv_go C.1 C.2.1 [(.iload_n 3, 1)] (pc' := 20) (by decide +kernel) rfl (lv' := [(0, sv_r a), (1, sv_i ar1), (2, sv_i ar2), (3, sv_i ar3)]) (st' := [sv_i ar3]) rfl ?_
        refine sv_i2l C.1 C.2.1 (by decide +kernel) ⟨by omega, by omega⟩ ?_
        refine sv_go C.1 C.2.1 [(.lconst 0, 1)] (pc' := 22) (by decide +kernel) rfl (lv' := [(0, sv_r a), (1, sv_i ar1), (2, sv_i ar2), (3, sv_i ar3)]) (st' := [sv_l 0, sv_l ar3]) rfl ?_
        refine sv_ldc2 C (index := 341) (z := 60) (by decide +kernel) cl_X11_341 (by decide) ?_
        refine sv_cs C (index := 9) (k := 3) (rest := []) (by decide +kernel) (ct_X11_in l g A ty σ hok12 (ar3) ⟨by omega, by omega⟩ (0) ⟨by omega, by omega⟩ (60) ⟨by omega, by omega⟩) ⟨co_X11_in, in_X11, ⟨by decide, by decide, by decide +kernel⟩, Nat.le_of_ble_eq_true rfl, Nat.le_of_ble_eq_true rfl⟩ ml_X11_9 st_X11_in rfl rfl (Nat.le_of_ble_eq_true rfl) ⟨Nat.zero_le _, Nat.zero_le _⟩ (fun r19 σ20 hpo18 hok21 => ?_)
        obtain ⟨rfl, ⟨h22, rfl⟩ | ⟨h22, rfl⟩⟩ := hpo18
        · refine sv_same (st2 := [sv_i 1]) (lv2 := [(0, sv_r a), (1, sv_i ar1), (2, sv_i ar2), (3, sv_i ar3)]) rfl rfl ?_
          refine sv_if_t C.1 C.2.1 (cnd := .ne) (off := 6) (tgt := 34) (by decide +kernel) (by decide) ⟨by omega, by omega⟩ (show 1 ≠ 0 by omega) ?_
          refine sv_go C.1 C.2.1 [(.aload_n 0, 1)] (pc' := 35) (by decide +kernel) rfl (lv' := [(0, sv_r a), (1, sv_i ar1), (2, sv_i ar2), (3, sv_i ar3)]) (st' := [sv_r a]) rfl ?_
          refine sv_gf C (index := 148) (ci := 10) (k := 41) (r := (RX11, TX11, 47)) (v := sv_r sq) (by decide +kernel) (by rw [k_a]; rfl) rfl (by decide) fl_X11_148 (congrArg sv_a es) ?_
          refine sv_go C.1 C.2.1 [(.bipush 20, 2), (.iload_n 1, 1), (.imul, 1), (.iload_n 2, 1), (.iadd, 1)] (pc' := 44) (by decide +kernel) rfl (lv' := [(0, sv_r a), (1, sv_i ar1), (2, sv_i ar2), (3, sv_i ar3)]) (st' := [sv_i ((20 * ar1) + ar2), sv_r sq]) rfl ?_
          refine sv_ia C (n := 400) (by decide +kernel) (by rw [k_sq]; rfl) (by decide) (by omega) (by omega) ?_
          obtain ⟨v23, ev23, hv23⟩ := sv_rdn hI (k := ((20 * ar1) + ar2 : Int).toNat) k_sq rfl
          rw [ev23]
          refine sv_go C.1 C.2.1 [(.istore 4, 2), (.aload_n 0, 1)] (pc' := 48) (by decide +kernel) rfl (lv' := [(0, sv_r a), (1, sv_i ar1), (2, sv_i ar2), (3, sv_i ar3), (4, sv_i v23)]) (st' := [sv_r a]) rfl ?_
          refine sv_gf C (index := 148) (ci := 10) (k := 41) (r := (RX11, TX11, 47)) (v := sv_r sq) (by decide +kernel) (by rw [k_a]; rfl) rfl (by decide) fl_X11_148 (congrArg sv_a es) ?_
          refine sv_go C.1 C.2.1 [(.bipush 20, 2), (.iload_n 1, 1), (.imul, 1), (.iload_n 2, 1), (.iadd, 1), (.iload_n 3, 1)] (pc' := 58) (by decide +kernel) rfl (lv' := [(0, sv_r a), (1, sv_i ar1), (2, sv_i ar2), (3, sv_i ar3), (4, sv_i v23)]) (st' := [sv_i ar3, sv_i ((20 * ar1) + ar2), sv_r sq]) rfl ?_
          refine sv_is C (n := 400) (by decide +kernel) (by rw [k_sq]; rfl) (by decide) (by omega) (by omega) ⟨by omega, by omega⟩ (hTA _ (by rw [k_sq]; decide)) hok21 (fun hok24 => ?_)
          have hI26 := hI.up (a := sq) (k := ((20 * ar1) + ar2 : Int).toNat) (z := ar3) (by rw [k_sq]; exact ⟨by omega, by omega⟩)
          have hF27 := hF.up (a := sq) (k := ((20 * ar1) + ar2 : Int).toNat) (z := ar3) (Or.inl (by rw [k_sq]; decide))
          generalize eσ25 : sv_up σ sq ((20 * ar1) + ar2 : Int).toNat ar3 = σ25 at hok24 hI26 hF27 ⊢
          have t28 : σ25 a 41 = (sq : Int) + 1 := by rw [← eσ25, sv_up_a (sv_ne k_a k_sq (by decide))]; exact es
          have t30 : σ25 sq ((20 * ar1) + ar2 : Int).toNat = ar3 := by rw [← eσ25]; exact sv_up_s _ _ _ _
          refine sv_go C.1 C.2.1 [(.aload_n 0, 1)] (pc' := 60) (by decide +kernel) rfl (lv' := [(0, sv_r a), (1, sv_i ar1), (2, sv_i ar2), (3, sv_i ar3), (4, sv_i v23)]) (st' := [sv_r a]) rfl ?_
          refine sv_gf C (index := 148) (ci := 10) (k := 41) (r := (RX11, TX11, 47)) (v := sv_r sq) (by decide +kernel) (by rw [k_a]; rfl) rfl (by decide) fl_X11_148 (congrArg sv_a t28) ?_
          refine sv_go C.1 C.2.1 [(.bipush 20, 2), (.iload_n 2, 1), (.imul, 1), (.iload_n 1, 1), (.iadd, 1), (.iload_n 3, 1)] (pc' := 70) (by decide +kernel) rfl (lv' := [(0, sv_r a), (1, sv_i ar1), (2, sv_i ar2), (3, sv_i ar3), (4, sv_i v23)]) (st' := [sv_i ar3, sv_i ((20 * ar2) + ar1), sv_r sq]) rfl ?_
          refine sv_is C (n := 400) (by decide +kernel) (by rw [k_sq]; rfl) (by decide) (by omega) (by omega) ⟨by omega, by omega⟩ (hTA _ (by rw [k_sq]; decide)) hok24 (fun hok31 => ?_)
          have hI33 := hI26.up (a := sq) (k := ((20 * ar2) + ar1 : Int).toNat) (z := ar3) (by rw [k_sq]; exact ⟨by omega, by omega⟩)
          have hF34 := hF27.up (a := sq) (k := ((20 * ar2) + ar1 : Int).toNat) (z := ar3) (Or.inl (by rw [k_sq]; decide))
          generalize eσ32 : sv_up σ25 sq ((20 * ar2) + ar1 : Int).toNat ar3 = σ32 at hok31 hI33 hF34 ⊢
          have t35 : σ32 a 41 = (sq : Int) + 1 := by rw [← eσ32, sv_up_a (sv_ne k_a k_sq (by decide))]; exact t28
          have t37 : σ32 sq ((20 * ar2) + ar1 : Int).toNat = ar3 := by rw [← eσ32]; exact sv_up_s _ _ _ _
          refine sv_go C.1 C.2.1 [(.iload 4, 2)] (pc' := 73) (by decide +kernel) rfl (lv' := [(0, sv_r a), (1, sv_i ar1), (2, sv_i ar2), (3, sv_i ar3), (4, sv_i v23)]) (st' := [sv_i v23]) rfl ?_
          exact sv_iret C hr (by decide +kernel) hok31 (⟨⟨_, rfl, ⟨by omega, by omega⟩, fun _ _ => ⟨fun _ => ⟨by omega, fun j => by rw [← eσ32, ← eσ25]; exact zs_two _ _ _ _ _ j⟩, fun h => absurd (by unfold fs_ok; omega) h⟩⟩, hI33, hF34⟩)
        · refine sv_same (st2 := [sv_i 0]) (lv2 := [(0, sv_r a), (1, sv_i ar1), (2, sv_i ar2), (3, sv_i ar3)]) rfl rfl ?_
          refine sv_if_f C.1 C.2.1 (cnd := .ne) (off := 6) (tgt := 34) (by decide +kernel) (by decide) ⟨by omega, by omega⟩ (show ¬ (0 ≠ 0) by omega) ?_
          refine sv_go C.1 C.2.1 [(.bipush (-2), 2)] (pc' := 33) (by decide +kernel) rfl (lv' := [(0, sv_r a), (1, sv_i ar1), (2, sv_i ar2), (3, sv_i ar3)]) (st' := [sv_i ((-2))]) rfl ?_
          exact sv_iret C hr (by decide +kernel) hok21 (⟨⟨_, rfl, ⟨by omega, by omega⟩, fun _ _ => ⟨fun h => absurd h (by unfold fs_ok; omega), fun _ => ⟨rfl, fun j => rfl⟩⟩⟩, hI, hF⟩)
