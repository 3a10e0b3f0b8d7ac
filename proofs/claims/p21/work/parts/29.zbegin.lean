/-! the answers of begin -/
def fx_begin (k c m t : Int) : Int := if (0 ≤ k ∧ k ≤ 11) ∧ (0 ≤ c ∧ c ≤ 19) ∧ (0 ≤ m ∧ m ≤ 1440) ∧ 0 ≤ t ∧ t ≤ 30 then 1 else -2

set_option maxHeartbeats 4000000 in
set_option maxRecDepth 100000 in
theorem sf2_X9_isCorner (l : Launch) (g : sv_G) (A : Nat → Prop) (ty : Nat → Nat) (σ : Nat → Nat → Int) (hok : sv_ok ty σ) (hTA : ∀ q, ty q ≠ 0 → A q) (hI : sv_inv sp_1 ty σ) (v : Int) (h_v : (-2147483648) ≤ v ∧ v ≤ 2147483647) : sv_M l yX9_isCorner cX9_isCorner 1 (some .boolean) { frames := 0, cells := 0, slots := 0, locals := 0 } g A ty σ [sv_i v] (fun r σ' => σ = σ' ∧ ∃ rv : Int, r = [sv_i rv] ∧ (0 ≤ rv ∧ rv ≤ 1) ∧ (1 ≤ rv → rv ≤ 1 → 0 ≤ v ∧ v ≤ 19) ∧ (0 ≤ rv → rv ≤ 0 → ¬ (0 ≤ v ∧ v ≤ 19))) := by
  refine sv_enter (by decide) (Nat.le_of_ble_eq_true rfl) ?_
  intro p e s m args below meth c C hr
  have C : sv_C g A RX9 cX9_isCorner 1 p s m args meth c := C
  have hr : meth.sig.returnType = (some .boolean) := hr
  have hF : sv_ofx [] [] ty σ σ := sv_ofx.rf
  refine sv_same (st2 := []) (lv2 := [(0, sv_i v)]) rfl rfl ?_
  refine sv_go C.1 C.2.1 [(.iload_n 0, 1)] (pc' := 1) (by decide +kernel) rfl (lv' := [(0, sv_i v)]) (st' := [sv_i v]) rfl ?_
  refine sv_if C.1 C.2.1 (cnd := .lt) (off := 13) (tgt := 14) (by decide +kernel) (by decide) ⟨by omega, by omega⟩ (fun (h1 : v < 0) => ?_) (fun (h1 : ¬ (v < 0)) => ?_)
  · refine sv_go C.1 C.2.1 [(.iconst 0, 1)] (pc' := 15) (by decide +kernel) rfl (lv' := [(0, sv_i v)]) (st' := [sv_i 0]) rfl ?_
    exact sv_zret C hr (by omega) (by decide +kernel) hok (⟨rfl, ⟨_, rfl, ⟨by omega, by omega⟩, fun _ _ => (by omega), fun _ _ => (by omega)⟩⟩)
  · refine sv_go C.1 C.2.1 [(.iload_n 0, 1), (.bipush 20, 2)] (pc' := 7) (by decide +kernel) rfl (lv' := [(0, sv_i v)]) (st' := [sv_i 20, sv_i v]) rfl ?_
    refine sv_icmp C.1 C.2.1 (cnd := .ge) (off := 7) (tgt := 14) (by decide +kernel) (by decide) ⟨by omega, by omega⟩ ⟨by omega, by omega⟩ (fun (h2 : 20 ≤ v) => ?_) (fun (h2 : ¬ (20 ≤ v)) => ?_)
    · refine sv_go C.1 C.2.1 [(.iconst 0, 1)] (pc' := 15) (by decide +kernel) rfl (lv' := [(0, sv_i v)]) (st' := [sv_i 0]) rfl ?_
      exact sv_zret C hr (by omega) (by decide +kernel) hok (⟨rfl, ⟨_, rfl, ⟨by omega, by omega⟩, fun _ _ => (by omega), fun _ _ => (by omega)⟩⟩)
    · refine sv_go C.1 C.2.1 [(.iconst 1, 1)] (pc' := 11) (by decide +kernel) rfl (lv' := [(0, sv_i v)]) (st' := [sv_i 1]) rfl ?_
      refine sv_goto C.1 C.2.1 (off := 4) (tgt := 15) (by decide +kernel) (by decide) ?_
      exact sv_zret C hr (by omega) (by decide +kernel) hok (⟨rfl, ⟨_, rfl, ⟨by omega, by omega⟩, fun _ _ => (by omega), fun _ _ => (by omega)⟩⟩)

set_option maxHeartbeats 4000000 in
set_option maxRecDepth 100000 in
theorem sf2_X9_isProcession (l : Launch) (g : sv_G) (A : Nat → Prop) (ty : Nat → Nat) (σ : Nat → Nat → Int) (hok : sv_ok ty σ) (hTA : ∀ q, ty q ≠ 0 → A q) (hI : sv_inv sp_1 ty σ) (v : Int) (h_v : (-2147483648) ≤ v ∧ v ≤ 2147483647) : sv_M l yX9_isProcession cX9_isProcession 1 (some .boolean) { frames := 0, cells := 0, slots := 0, locals := 0 } g A ty σ [sv_i v] (fun r σ' => σ = σ' ∧ ∃ rv : Int, r = [sv_i rv] ∧ (0 ≤ rv ∧ rv ≤ 1) ∧ (1 ≤ rv → rv ≤ 1 → 0 ≤ v ∧ v ≤ 11) ∧ (0 ≤ rv → rv ≤ 0 → ¬ (0 ≤ v ∧ v ≤ 11))) := by
  refine sv_enter (by decide) (Nat.le_of_ble_eq_true rfl) ?_
  intro p e s m args below meth c C hr
  have C : sv_C g A RX9 cX9_isProcession 1 p s m args meth c := C
  have hr : meth.sig.returnType = (some .boolean) := hr
  have hF : sv_ofx [] [] ty σ σ := sv_ofx.rf
  refine sv_same (st2 := []) (lv2 := [(0, sv_i v)]) rfl rfl ?_
  refine sv_go C.1 C.2.1 [(.iload_n 0, 1)] (pc' := 1) (by decide +kernel) rfl (lv' := [(0, sv_i v)]) (st' := [sv_i v]) rfl ?_
  refine sv_if C.1 C.2.1 (cnd := .lt) (off := 13) (tgt := 14) (by decide +kernel) (by decide) ⟨by omega, by omega⟩ (fun (h1 : v < 0) => ?_) (fun (h1 : ¬ (v < 0)) => ?_)
  · refine sv_go C.1 C.2.1 [(.iconst 0, 1)] (pc' := 15) (by decide +kernel) rfl (lv' := [(0, sv_i v)]) (st' := [sv_i 0]) rfl ?_
    exact sv_zret C hr (by omega) (by decide +kernel) hok (⟨rfl, ⟨_, rfl, ⟨by omega, by omega⟩, fun _ _ => (by omega), fun _ _ => (by omega)⟩⟩)
  · refine sv_go C.1 C.2.1 [(.iload_n 0, 1), (.bipush 12, 2)] (pc' := 7) (by decide +kernel) rfl (lv' := [(0, sv_i v)]) (st' := [sv_i 12, sv_i v]) rfl ?_
    refine sv_icmp C.1 C.2.1 (cnd := .ge) (off := 7) (tgt := 14) (by decide +kernel) (by decide) ⟨by omega, by omega⟩ ⟨by omega, by omega⟩ (fun (h2 : 12 ≤ v) => ?_) (fun (h2 : ¬ (12 ≤ v)) => ?_)
    · refine sv_go C.1 C.2.1 [(.iconst 0, 1)] (pc' := 15) (by decide +kernel) rfl (lv' := [(0, sv_i v)]) (st' := [sv_i 0]) rfl ?_
      exact sv_zret C hr (by omega) (by decide +kernel) hok (⟨rfl, ⟨_, rfl, ⟨by omega, by omega⟩, fun _ _ => (by omega), fun _ _ => (by omega)⟩⟩)
    · refine sv_go C.1 C.2.1 [(.iconst 1, 1)] (pc' := 11) (by decide +kernel) rfl (lv' := [(0, sv_i v)]) (st' := [sv_i 1]) rfl ?_
      refine sv_goto C.1 C.2.1 (off := 4) (tgt := 15) (by decide +kernel) (by decide) ?_
      exact sv_zret C hr (by omega) (by decide +kernel) hok (⟨rfl, ⟨_, rfl, ⟨by omega, by omega⟩, fun _ _ => (by omega), fun _ _ => (by omega)⟩⟩)

set_option maxHeartbeats 4000000 in
set_option maxRecDepth 100000 in
theorem sf2_X9_isBeginning (l : Launch) (g : sv_G) (A : Nat → Prop) (ty : Nat → Nat) (σ : Nat → Nat → Int) (hok : sv_ok ty σ) (hTA : ∀ q, ty q ≠ 0 → A q) (hI : sv_inv sp_1 ty σ) (v : Int) (h_v : (-2147483648) ≤ v ∧ v ≤ 2147483647) : sv_M l yX9_isBeginning cX9_isBeginning 1 (some .boolean) { frames := 0, cells := 0, slots := 0, locals := 0 } g A ty σ [sv_i v] (fun r σ' => σ = σ' ∧ ∃ rv : Int, r = [sv_i rv] ∧ (0 ≤ rv ∧ rv ≤ 1) ∧ (1 ≤ rv → rv ≤ 1 → 0 ≤ v ∧ v ≤ 1440) ∧ (0 ≤ rv → rv ≤ 0 → ¬ (0 ≤ v ∧ v ≤ 1440))) := by
  refine sv_enter (by decide) (Nat.le_of_ble_eq_true rfl) ?_
  intro p e s m args below meth c C hr
  have C : sv_C g A RX9 cX9_isBeginning 1 p s m args meth c := C
  have hr : meth.sig.returnType = (some .boolean) := hr
  have hF : sv_ofx [] [] ty σ σ := sv_ofx.rf
  refine sv_same (st2 := []) (lv2 := [(0, sv_i v)]) rfl rfl ?_
  refine sv_go C.1 C.2.1 [(.iload_n 0, 1)] (pc' := 1) (by decide +kernel) rfl (lv' := [(0, sv_i v)]) (st' := [sv_i v]) rfl ?_
  refine sv_if C.1 C.2.1 (cnd := .lt) (off := 14) (tgt := 15) (by decide +kernel) (by decide) ⟨by omega, by omega⟩ (fun (h1 : v < 0) => ?_) (fun (h1 : ¬ (v < 0)) => ?_)
  · refine sv_go C.1 C.2.1 [(.iconst 0, 1)] (pc' := 16) (by decide +kernel) rfl (lv' := [(0, sv_i v)]) (st' := [sv_i 0]) rfl ?_
    exact sv_zret C hr (by omega) (by decide +kernel) hok (⟨rfl, ⟨_, rfl, ⟨by omega, by omega⟩, fun _ _ => (by omega), fun _ _ => (by omega)⟩⟩)
  · refine sv_go C.1 C.2.1 [(.iload_n 0, 1), (.sipush 1440, 3)] (pc' := 8) (by decide +kernel) rfl (lv' := [(0, sv_i v)]) (st' := [sv_i 1440, sv_i v]) rfl ?_
    refine sv_icmp C.1 C.2.1 (cnd := .gt) (off := 7) (tgt := 15) (by decide +kernel) (by decide) ⟨by omega, by omega⟩ ⟨by omega, by omega⟩ (fun (h2 : 1440 < v) => ?_) (fun (h2 : ¬ (1440 < v)) => ?_)
    · refine sv_go C.1 C.2.1 [(.iconst 0, 1)] (pc' := 16) (by decide +kernel) rfl (lv' := [(0, sv_i v)]) (st' := [sv_i 0]) rfl ?_
      exact sv_zret C hr (by omega) (by decide +kernel) hok (⟨rfl, ⟨_, rfl, ⟨by omega, by omega⟩, fun _ _ => (by omega), fun _ _ => (by omega)⟩⟩)
    · refine sv_go C.1 C.2.1 [(.iconst 1, 1)] (pc' := 12) (by decide +kernel) rfl (lv' := [(0, sv_i v)]) (st' := [sv_i 1]) rfl ?_
      refine sv_goto C.1 C.2.1 (off := 4) (tgt := 16) (by decide +kernel) (by decide) ?_
      exact sv_zret C hr (by omega) (by decide +kernel) hok (⟨rfl, ⟨_, rfl, ⟨by omega, by omega⟩, fun _ _ => (by omega), fun _ _ => (by omega)⟩⟩)

set_option maxHeartbeats 4000000 in
set_option maxRecDepth 100000 in
theorem sf2_X11_isCorner (l : Launch) (g : sv_G) (A : Nat → Prop) (ty : Nat → Nat) (σ : Nat → Nat → Int) (hok : sv_ok ty σ) (hTA : ∀ q, ty q ≠ 0 → A q) (hI : sv_inv sp_1 ty σ) (v : Int) (h_v : (-2147483648) ≤ v ∧ v ≤ 2147483647) : sv_M l yX11_isCorner cX11_isCorner 1 (some .boolean) { frames := 1, cells := 0, slots := 0, locals := 25 } g A ty σ [sv_i v] (fun r σ' => σ = σ' ∧ ∃ rv : Int, r = [sv_i rv] ∧ (0 ≤ rv ∧ rv ≤ 1) ∧ (1 ≤ rv → rv ≤ 1 → 0 ≤ v ∧ v ≤ 19) ∧ (0 ≤ rv → rv ≤ 0 → ¬ (0 ≤ v ∧ v ≤ 19))) := by
  refine sv_enter (by decide) (Nat.le_of_ble_eq_true rfl) ?_
  intro p e s m args below meth c C hr
  have C : sv_C g A RX11 cX11_isCorner 1 p s m args meth c := C
  have hr : meth.sig.returnType = (some .boolean) := hr
  have hF : sv_ofx [] [] ty σ σ := sv_ofx.rf
  refine sv_same (st2 := []) (lv2 := [(0, sv_i v)]) rfl rfl ?_
  refine sv_go C.1 C.2.1 [(.iload_n 0, 1)] (pc' := 1) (by decide +kernel) rfl (lv' := [(0, sv_i v)]) (st' := [sv_i v]) rfl ?_
  refine sv_i2l C.1 C.2.1 (by decide +kernel) ⟨by omega, by omega⟩ ?_
  refine sv_go C.1 C.2.1 [(.lconst 0, 1)] (pc' := 3) (by decide +kernel) rfl (lv' := [(0, sv_i v)]) (st' := [sv_l 0, sv_l v]) rfl ?_
  refine sv_ldc2 C (index := 336) (z := 19) (by decide +kernel) cl_X11_336 (by decide) ?_
  refine sv_cs C (index := 9) (k := 3) (rest := []) (by decide +kernel) (ct_X11_in l g A ty σ hok (v) ⟨by omega, by omega⟩ (0) ⟨by omega, by omega⟩ (19) ⟨by omega, by omega⟩) ⟨co_X11_in, in_X11, ⟨by decide, by decide, by decide +kernel⟩, Nat.le_of_ble_eq_true rfl, Nat.le_of_ble_eq_true rfl⟩ ml_X11_9 st_X11_in rfl rfl (Nat.le_of_ble_eq_true rfl) ⟨Nat.zero_le _, Nat.zero_le _⟩ (fun r2 σ3 hpo1 hok4 => ?_)
  obtain ⟨rfl, ⟨h5, rfl⟩ | ⟨h5, rfl⟩⟩ := hpo1
  · refine sv_same (st2 := [sv_i 1]) (lv2 := [(0, sv_i v)]) rfl rfl ?_
    exact sv_zret C hr (by omega) (by decide +kernel) hok4 (⟨rfl, ⟨_, rfl, ⟨by omega, by omega⟩, fun _ _ => (by omega), fun _ _ => (by omega)⟩⟩)
  · refine sv_same (st2 := [sv_i 0]) (lv2 := [(0, sv_i v)]) rfl rfl ?_
    exact sv_zret C hr (by omega) (by decide +kernel) hok4 (⟨rfl, ⟨_, rfl, ⟨by omega, by omega⟩, fun _ _ => (by omega), fun _ _ => (by omega)⟩⟩)

set_option maxHeartbeats 4000000 in
set_option maxRecDepth 100000 in
theorem sf2_X11_isWalk (l : Launch) (g : sv_G) (A : Nat → Prop) (ty : Nat → Nat) (σ : Nat → Nat → Int) (hok : sv_ok ty σ) (hTA : ∀ q, ty q ≠ 0 → A q) (hI : sv_inv sp_1 ty σ) (v : Int) (h_v : (-2147483648) ≤ v ∧ v ≤ 2147483647) : sv_M l yX11_isWalk cX11_isWalk 1 (some .boolean) { frames := 1, cells := 0, slots := 0, locals := 25 } g A ty σ [sv_i v] (fun r σ' => σ = σ' ∧ ∃ rv : Int, r = [sv_i rv] ∧ (0 ≤ rv ∧ rv ≤ 1) ∧ (1 ≤ rv → rv ≤ 1 → 0 ≤ v ∧ v ≤ 11) ∧ (0 ≤ rv → rv ≤ 0 → ¬ (0 ≤ v ∧ v ≤ 11))) := by
  refine sv_enter (by decide) (Nat.le_of_ble_eq_true rfl) ?_
  intro p e s m args below meth c C hr
  have C : sv_C g A RX11 cX11_isWalk 1 p s m args meth c := C
  have hr : meth.sig.returnType = (some .boolean) := hr
  have hF : sv_ofx [] [] ty σ σ := sv_ofx.rf
  refine sv_same (st2 := []) (lv2 := [(0, sv_i v)]) rfl rfl ?_
  refine sv_go C.1 C.2.1 [(.iload_n 0, 1)] (pc' := 1) (by decide +kernel) rfl (lv' := [(0, sv_i v)]) (st' := [sv_i v]) rfl ?_
  refine sv_i2l C.1 C.2.1 (by decide +kernel) ⟨by omega, by omega⟩ ?_
  refine sv_go C.1 C.2.1 [(.lconst 0, 1)] (pc' := 3) (by decide +kernel) rfl (lv' := [(0, sv_i v)]) (st' := [sv_l 0, sv_l v]) rfl ?_
  refine sv_ldc2 C (index := 343) (z := 11) (by decide +kernel) cl_X11_343 (by decide) ?_
  refine sv_cs C (index := 9) (k := 3) (rest := []) (by decide +kernel) (ct_X11_in l g A ty σ hok (v) ⟨by omega, by omega⟩ (0) ⟨by omega, by omega⟩ (11) ⟨by omega, by omega⟩) ⟨co_X11_in, in_X11, ⟨by decide, by decide, by decide +kernel⟩, Nat.le_of_ble_eq_true rfl, Nat.le_of_ble_eq_true rfl⟩ ml_X11_9 st_X11_in rfl rfl (Nat.le_of_ble_eq_true rfl) ⟨Nat.zero_le _, Nat.zero_le _⟩ (fun r2 σ3 hpo1 hok4 => ?_)
  obtain ⟨rfl, ⟨h5, rfl⟩ | ⟨h5, rfl⟩⟩ := hpo1
  · refine sv_same (st2 := [sv_i 1]) (lv2 := [(0, sv_i v)]) rfl rfl ?_
    exact sv_zret C hr (by omega) (by decide +kernel) hok4 (⟨rfl, ⟨_, rfl, ⟨by omega, by omega⟩, fun _ _ => (by omega), fun _ _ => (by omega)⟩⟩)
  · refine sv_same (st2 := [sv_i 0]) (lv2 := [(0, sv_i v)]) rfl rfl ?_
    exact sv_zret C hr (by omega) (by decide +kernel) hok4 (⟨rfl, ⟨_, rfl, ⟨by omega, by omega⟩, fun _ _ => (by omega), fun _ _ => (by omega)⟩⟩)

set_option maxHeartbeats 4000000 in
set_option maxRecDepth 100000 in
theorem ct_X9_begin (l : Launch) (g : sv_G) (A : Nat → Prop) (ty : Nat → Nat) (σ : Nat → Nat → Int) (hok : sv_ok ty σ) (hTA : ∀ q, ty q ≠ 0 → A q) (hI : sv_inv sp_1 ty σ) (a : Nat) (k_a : ty a = 1) (ar1 : Int) (h_ar1 : (-2147483648) ≤ ar1 ∧ ar1 ≤ 2147483647) (ar2 : Int) (h_ar2 : (-2147483648) ≤ ar2 ∧ ar2 ≤ 2147483647) (ar3 : Int) (h_ar3 : (-2147483648) ≤ ar3 ∧ ar3 ≤ 2147483647) (ar4 : Int) (h_ar4 : (-2147483648) ≤ ar4 ∧ ar4 ≤ 2147483647) : sv_M l yX9_begin cX9_begin 5 (some .int) { frames := 1, cells := 0, slots := 0, locals := 23 } g A ty σ [sv_r a, sv_i ar1, sv_i ar2, sv_i ar3, sv_i ar4] (fun r σ' => (∃ rv : Int, r = [sv_i rv] ∧ ((-2) ≤ rv ∧ rv ≤ 1) ∧ ((-2147483648) ≤ rv → rv ≤ 2147483647 → rv = fx_begin ar1 ar2 ar3 ar4)) ∧ sv_inv sp_1 ty σ' ∧ sv_ofx [(9, 0), (9, 1), (9, 4)] [40, 41] ty σ σ') := by
  refine sv_enter (by decide) (Nat.le_of_ble_eq_true rfl) ?_
  intro p e s m args below meth c C hr
  have C : sv_C g A RX9 cX9_begin 5 p s m args meth c := C
  have hr : meth.sig.returnType = (some .int) := hr
  have hF : sv_ofx [(9, 0), (9, 1), (9, 4)] [40, 41] ty σ σ := sv_ofx.rf
  refine sv_same (st2 := []) (lv2 := [(0, sv_r a), (1, sv_i ar1), (2, sv_i ar2), (3, sv_i ar3), (4, sv_i ar4)]) rfl rfl ?_
  refine sv_go C.1 C.2.1 [(.iload_n 1, 1)] (pc' := 1) (by decide +kernel) rfl (lv' := [(0, sv_r a), (1, sv_i ar1), (2, sv_i ar2), (3, sv_i ar3), (4, sv_i ar4)]) (st' := [sv_i ar1]) rfl ?_
  refine sv_cs C (index := 184) (k := 1) (rest := []) (by decide +kernel) (sf2_X9_isProcession l g A ty σ hok hTA hI (ar1) ⟨by omega, by omega⟩) ⟨co_X9_isProcession, in_X9, ⟨by decide, by decide, by decide +kernel⟩, Nat.le_of_ble_eq_true rfl, Nat.le_of_ble_eq_true rfl⟩ ml_X9_184 st_X9_isProcession rfl rfl (Nat.le_of_ble_eq_true rfl) ⟨Nat.zero_le _, Nat.zero_le _⟩ (fun r2 σ3 hpo1 hok4 => ?_)
  obtain ⟨rfl, ⟨vu5, rfl, hvu5, ivu5_0, ivu5_1⟩⟩ := hpo1
  refine sv_same (st2 := [sv_i vu5]) (lv2 := [(0, sv_r a), (1, sv_i ar1), (2, sv_i ar2), (3, sv_i ar3), (4, sv_i ar4)]) rfl rfl ?_
  refine sv_if C.1 C.2.1 (cnd := .eq) (off := 17) (tgt := 21) (by decide +kernel) (by decide) ⟨by omega, by omega⟩ (fun (h6 : vu5 = 0) => ?_) (fun (h6 : ¬ (vu5 = 0)) => ?_)
  · have hp7 := ivu5_1 (by omega) (by omega)
    refine sv_go C.1 C.2.1 [(.bipush (-2), 2)] (pc' := 23) (by decide +kernel) rfl (lv' := [(0, sv_r a), (1, sv_i ar1), (2, sv_i ar2), (3, sv_i ar3), (4, sv_i ar4)]) (st' := [sv_i ((-2))]) rfl ?_
    exact sv_iret C hr (by decide +kernel) hok4 (⟨⟨_, rfl, ⟨by omega, by omega⟩, fun _ _ => (by unfold fx_begin; first | rw [if_pos (by omega)] | rw [if_neg (by omega)])⟩, hI, hF⟩)
  · have hp8 := ivu5_0 (by omega) (by omega)
    refine sv_go C.1 C.2.1 [(.iload_n 2, 1)] (pc' := 8) (by decide +kernel) rfl (lv' := [(0, sv_r a), (1, sv_i ar1), (2, sv_i ar2), (3, sv_i ar3), (4, sv_i ar4)]) (st' := [sv_i ar2]) rfl ?_
    refine sv_cs C (index := 177) (k := 1) (rest := []) (by decide +kernel) (sf2_X9_isCorner l g A ty σ hok4 hTA hI (ar2) ⟨by omega, by omega⟩) ⟨co_X9_isCorner, in_X9, ⟨by decide, by decide, by decide +kernel⟩, Nat.le_of_ble_eq_true rfl, Nat.le_of_ble_eq_true rfl⟩ ml_X9_177 st_X9_isCorner rfl rfl (Nat.le_of_ble_eq_true rfl) ⟨Nat.zero_le _, Nat.zero_le _⟩ (fun r10 σ11 hpo9 hok12 => ?_)
    obtain ⟨rfl, ⟨vu13, rfl, hvu13, ivu13_0, ivu13_1⟩⟩ := hpo9
    refine sv_same (st2 := [sv_i vu13]) (lv2 := [(0, sv_r a), (1, sv_i ar1), (2, sv_i ar2), (3, sv_i ar3), (4, sv_i ar4)]) rfl rfl ?_
    refine sv_if C.1 C.2.1 (cnd := .eq) (off := 10) (tgt := 21) (by decide +kernel) (by decide) ⟨by omega, by omega⟩ (fun (h14 : vu13 = 0) => ?_) (fun (h14 : ¬ (vu13 = 0)) => ?_)
    · have hp15 := ivu13_1 (by omega) (by omega)
      refine sv_go C.1 C.2.1 [(.bipush (-2), 2)] (pc' := 23) (by decide +kernel) rfl (lv' := [(0, sv_r a), (1, sv_i ar1), (2, sv_i ar2), (3, sv_i ar3), (4, sv_i ar4)]) (st' := [sv_i ((-2))]) rfl ?_
      exact sv_iret C hr (by decide +kernel) hok12 (⟨⟨_, rfl, ⟨by omega, by omega⟩, fun _ _ => (by unfold fx_begin; first | rw [if_pos (by omega)] | rw [if_neg (by omega)])⟩, hI, hF⟩)
    · have hp16 := ivu13_0 (by omega) (by omega)
      refine sv_go C.1 C.2.1 [(.iload_n 3, 1)] (pc' := 15) (by decide +kernel) rfl (lv' := [(0, sv_r a), (1, sv_i ar1), (2, sv_i ar2), (3, sv_i ar3), (4, sv_i ar4)]) (st' := [sv_i ar3]) rfl ?_
      refine sv_cs C (index := 187) (k := 1) (rest := []) (by decide +kernel) (sf2_X9_isBeginning l g A ty σ hok12 hTA hI (ar3) ⟨by omega, by omega⟩) ⟨co_X9_isBeginning, in_X9, ⟨by decide, by decide, by decide +kernel⟩, Nat.le_of_ble_eq_true rfl, Nat.le_of_ble_eq_true rfl⟩ ml_X9_187 st_X9_isBeginning rfl rfl (Nat.le_of_ble_eq_true rfl) ⟨Nat.zero_le _, Nat.zero_le _⟩ (fun r18 σ19 hpo17 hok20 => ?_)
      obtain ⟨rfl, ⟨vu21, rfl, hvu21, ivu21_0, ivu21_1⟩⟩ := hpo17
      refine sv_same (st2 := [sv_i vu21]) (lv2 := [(0, sv_r a), (1, sv_i ar1), (2, sv_i ar2), (3, sv_i ar3), (4, sv_i ar4)]) rfl rfl ?_
      refine sv_if C.1 C.2.1 (cnd := .ne) (off := 6) (tgt := 24) (by decide +kernel) (by decide) ⟨by omega, by omega⟩ (fun (h22 : vu21 ≠ 0) => ?_) (fun (h22 : ¬ (vu21 ≠ 0)) => ?_)
      · have hp23 := ivu21_0 (by omega) (by omega)
        refine sv_go C.1 C.2.1 [(.iload 4, 2)] (pc' := 26) (by decide +kernel) rfl (lv' := [(0, sv_r a), (1, sv_i ar1), (2, sv_i ar2), (3, sv_i ar3), (4, sv_i ar4)]) (st' := [sv_i ar4]) rfl ?_
        refine sv_if C.1 C.2.1 (cnd := .lt) (off := 10) (tgt := 36) (by decide +kernel) (by decide) ⟨by omega, by omega⟩ (fun (h24 : ar4 < 0) => ?_) (fun (h24 : ¬ (ar4 < 0)) => ?_)
        · refine sv_go C.1 C.2.1 [(.bipush (-2), 2)] (pc' := 38) (by decide +kernel) rfl (lv' := [(0, sv_r a), (1, sv_i ar1), (2, sv_i ar2), (3, sv_i ar3), (4, sv_i ar4)]) (st' := [sv_i ((-2))]) rfl ?_
          exact sv_iret C hr (by decide +kernel) hok20 (⟨⟨_, rfl, ⟨by omega, by omega⟩, fun _ _ => (by unfold fx_begin; first | rw [if_pos (by omega)] | rw [if_neg (by omega)])⟩, hI, hF⟩)
        · refine sv_go C.1 C.2.1 [(.iload 4, 2), (.bipush 30, 2)] (pc' := 33) (by decide +kernel) rfl (lv' := [(0, sv_r a), (1, sv_i ar1), (2, sv_i ar2), (3, sv_i ar3), (4, sv_i ar4)]) (st' := [sv_i 30, sv_i ar4]) rfl ?_
          refine sv_icmp C.1 C.2.1 (cnd := .le) (off := 6) (tgt := 39) (by decide +kernel) (by decide) ⟨by omega, by omega⟩ ⟨by omega, by omega⟩ (fun (h25 : ar4 ≤ 30) => ?_) (fun (h25 : ¬ (ar4 ≤ 30)) => ?_)
          · refine sv_go C.1 C.2.1 [(.aload_n 0, 1)] (pc' := 40) (by decide +kernel) rfl (lv' := [(0, sv_r a), (1, sv_i ar1), (2, sv_i ar2), (3, sv_i ar3), (4, sv_i ar4)]) (st' := [sv_r a]) rfl ?_
            obtain ⟨v26, ev26, kv26⟩ := hI.ref (k := 4) k_a rfl
            refine sv_gf C (index := 40) (ci := 8) (k := 4) (r := (RX9, TX9, 6)) (v := sv_r v26) (by decide +kernel) (by rw [k_a]; rfl) rfl (by decide) fl_X9_40 (congrArg sv_a ev26) ?_
            obtain ⟨v27, ev27, kv27⟩ := hI.ref (k := 0) kv26 rfl
            refine sv_gf C (index := 190) (ci := 7) (k := 0) (r := (RX8, TX8, 4)) (v := sv_r v27) (by decide +kernel) (by rw [kv26]; rfl) rfl (by decide) fl_X9_190 (congrArg sv_a ev27) ?_
            refine sv_go C.1 C.2.1 [(.iload_n 1, 1)] (pc' := 47) (by decide +kernel) rfl (lv' := [(0, sv_r a), (1, sv_i ar1), (2, sv_i ar2), (3, sv_i ar3), (4, sv_i ar4)]) (st' := [sv_i ar1, sv_r v27]) rfl ?_
            refine sv_aa C (N := "SaintsRoad$Procession") (by decide) (n := 12) (by decide +kernel) (by rw [kv27]; rfl) (by decide) (by omega) (by omega) ?_
            obtain ⟨v28, ev28, kv28⟩ := hI.ref (k := (ar1 : Int).toNat) kv27 (by first | rfl | (show (if _ then _ else _) = _; rw [if_pos (by omega)]))
            rw [ev28]
            refine sv_go C.1 C.2.1 [(.iload_n 2, 1), (.iload_n 3, 1), (.iload 4, 2)] (pc' := 52) (by decide +kernel) rfl (lv' := [(0, sv_r a), (1, sv_i ar1), (2, sv_i ar2), (3, sv_i ar3), (4, sv_i ar4)]) (st' := [sv_i ar4, sv_i ar3, sv_i ar2, sv_r v28]) rfl ?_
            refine sv_cv C (index := 194) (k := 3) (rest := []) (ci := 4) (r := (RX5, TX5, 5)) (by decide +kernel) (sf_X5_start l g A ty σ hok20 hTA hI v28 kv28 (ar2) ⟨by omega, by omega⟩ (ar3) ⟨by omega, by omega⟩ (ar4) ⟨by omega, by omega⟩) ⟨co_X5_start, in_X5, ⟨by decide, by decide, by decide +kernel⟩, Nat.le_of_ble_eq_true rfl, Nat.le_of_ble_eq_true rfl⟩ ml_X9_194 im_X5_start se_X5_start (by rw [kv28]; rfl) rfl rfl rfl (Nat.le_of_ble_eq_true rfl) ⟨Nat.zero_le _, Nat.zero_le _⟩ (fun r30 σ31 hpo29 hok32 => ?_)
            obtain ⟨rfl, hIu33, hFu33⟩ := hpo29
            have hGu33 := hF.tr hFu33 (by decide) (by decide)
            have t34 : σ31 a 4 = (v26 : Int) + 1 := (hFu33.at k_a (by decide) (by decide)).trans ev26
            have t35 : σ31 v26 0 = (v27 : Int) + 1 := (hFu33.at kv26 (by decide) (by decide)).trans ev27
            have t36 : σ31 v27 (ar1 : Int).toNat = (v28 : Int) + 1 := (hFu33.atA kv27 (by decide) (by decide)).trans ev28
            refine sv_same (st2 := []) (lv2 := [(0, sv_r a), (1, sv_i ar1), (2, sv_i ar2), (3, sv_i ar3), (4, sv_i ar4)]) rfl rfl ?_
            refine sv_go C.1 C.2.1 [(.iconst 1, 1)] (pc' := 56) (by decide +kernel) rfl (lv' := [(0, sv_r a), (1, sv_i ar1), (2, sv_i ar2), (3, sv_i ar3), (4, sv_i ar4)]) (st' := [sv_i 1]) rfl ?_
            exact sv_iret C hr (by decide +kernel) hok32 (⟨⟨_, rfl, ⟨by omega, by omega⟩, fun _ _ => (by unfold fx_begin; first | rw [if_pos (by omega)] | rw [if_neg (by omega)])⟩, hIu33, hGu33⟩)
          · refine sv_go C.1 C.2.1 [(.bipush (-2), 2)] (pc' := 38) (by decide +kernel) rfl (lv' := [(0, sv_r a), (1, sv_i ar1), (2, sv_i ar2), (3, sv_i ar3), (4, sv_i ar4)]) (st' := [sv_i ((-2))]) rfl ?_
            exact sv_iret C hr (by decide +kernel) hok20 (⟨⟨_, rfl, ⟨by omega, by omega⟩, fun _ _ => (by unfold fx_begin; first | rw [if_pos (by omega)] | rw [if_neg (by omega)])⟩, hI, hF⟩)
      · have hp37 := ivu21_1 (by omega) (by omega)
        refine sv_go C.1 C.2.1 [(.bipush (-2), 2)] (pc' := 23) (by decide +kernel) rfl (lv' := [(0, sv_r a), (1, sv_i ar1), (2, sv_i ar2), (3, sv_i ar3), (4, sv_i ar4)]) (st' := [sv_i ((-2))]) rfl ?_
        exact sv_iret C hr (by decide +kernel) hok20 (⟨⟨_, rfl, ⟨by omega, by omega⟩, fun _ _ => (by unfold fx_begin; first | rw [if_pos (by omega)] | rw [if_neg (by omega)])⟩, hI, hF⟩)

set_option maxHeartbeats 4000000 in
set_option maxRecDepth 100000 in
theorem ct_X11_begin (l : Launch) (g : sv_G) (A : Nat → Prop) (ty : Nat → Nat) (σ : Nat → Nat → Int) (hok : sv_ok ty σ) (hTA : ∀ q, ty q ≠ 0 → A q) (hI : sv_inv sp_1 ty σ) (a : Nat) (k_a : ty a = 10) (ar1 : Int) (h_ar1 : (-2147483648) ≤ ar1 ∧ ar1 ≤ 2147483647) (ar2 : Int) (h_ar2 : (-2147483648) ≤ ar2 ∧ ar2 ≤ 2147483647) (ar3 : Int) (h_ar3 : (-2147483648) ≤ ar3 ∧ ar3 ≤ 2147483647) (ar4 : Int) (h_ar4 : (-2147483648) ≤ ar4 ∧ ar4 ≤ 2147483647) : sv_M l yX11_begin cX11_begin 5 (some .int) { frames := 2, cells := 0, slots := 0, locals := 45 } g A ty σ [sv_r a, sv_i ar1, sv_i ar2, sv_i ar3, sv_i ar4] (fun r σ' => (∃ rv : Int, r = [sv_i rv] ∧ ((-2) ≤ rv ∧ rv ≤ 1) ∧ ((-2147483648) ≤ rv → rv ≤ 2147483647 → rv = fx_begin ar1 ar2 ar3 ar4)) ∧ sv_inv sp_1 ty σ' ∧ sv_ofx [] [102, 103, 104, 105, 106] ty σ σ') := by
  refine sv_enter (by decide) (Nat.le_of_ble_eq_true rfl) ?_
  intro p e s m args below meth c C hr
  have C : sv_C g A RX11 cX11_begin 5 p s m args meth c := C
  have hr : meth.sig.returnType = (some .int) := hr
  have hF : sv_ofx [] [102, 103, 104, 105, 106] ty σ σ := sv_ofx.rf
  refine sv_same (st2 := []) (lv2 := [(0, sv_r a), (1, sv_i ar1), (2, sv_i ar2), (3, sv_i ar3), (4, sv_i ar4)]) rfl rfl ?_
  refine sv_go C.1 C.2.1 [(.iload_n 1, 1)] (pc' := 1) (by decide +kernel) rfl (lv' := [(0, sv_r a), (1, sv_i ar1), (2, sv_i ar2), (3, sv_i ar3), (4, sv_i ar4)]) (st' := [sv_i ar1]) rfl ?_
  refine sv_cs C (index := 345) (k := 1) (rest := []) (by decide +kernel) (sf2_X11_isWalk l g A ty σ hok hTA hI (ar1) ⟨by omega, by omega⟩) ⟨co_X11_isWalk, in_X11, ⟨by decide, by decide, by decide +kernel⟩, Nat.le_of_ble_eq_true rfl, Nat.le_of_ble_eq_true rfl⟩ ml_X11_345 st_X11_isWalk rfl rfl (Nat.le_of_ble_eq_true rfl) ⟨Nat.zero_le _, Nat.zero_le _⟩ (fun r2 σ3 hpo1 hok4 => ?_)
  obtain ⟨rfl, ⟨vu5, rfl, hvu5, ivu5_0, ivu5_1⟩⟩ := hpo1
  refine sv_same (st2 := [sv_i vu5]) (lv2 := [(0, sv_r a), (1, sv_i ar1), (2, sv_i ar2), (3, sv_i ar3), (4, sv_i ar4)]) rfl rfl ?_
  refine sv_if C.1 C.2.1 (cnd := .eq) (off := 35) (tgt := 39) (by decide +kernel) (by decide) ⟨by omega, by omega⟩ (fun (h6 : vu5 = 0) => ?_) (fun (h6 : ¬ (vu5 = 0)) => ?_)
  · have hp7 := ivu5_1 (by omega) (by omega)
    refine sv_go C.1 C.2.1 [(.bipush (-2), 2)] (pc' := 41) (by decide +kernel) rfl (lv' := [(0, sv_r a), (1, sv_i ar1), (2, sv_i ar2), (3, sv_i ar3), (4, sv_i ar4)]) (st' := [sv_i ((-2))]) rfl ?_
    exact sv_iret C hr (by decide +kernel) hok4 (⟨⟨_, rfl, ⟨by omega, by omega⟩, fun _ _ => (by unfold fx_begin; first | rw [if_pos (by omega)] | rw [if_neg (by omega)])⟩, hI, hF⟩)
  · have hp8 := ivu5_0 (by omega) (by omega)
    refine sv_go C.1 C.2.1 [(.iload_n 2, 1)] (pc' := 8) (by decide +kernel) rfl (lv' := [(0, sv_r a), (1, sv_i ar1), (2, sv_i ar2), (3, sv_i ar3), (4, sv_i ar4)]) (st' := [sv_i ar2]) rfl ?_
    refine sv_cs C (index := 338) (k := 1) (rest := []) (by decide +kernel) (sf2_X11_isCorner l g A ty σ hok4 hTA hI (ar2) ⟨by omega, by omega⟩) ⟨co_X11_isCorner, in_X11, ⟨by decide, by decide, by decide +kernel⟩, Nat.le_of_ble_eq_true rfl, Nat.le_of_ble_eq_true rfl⟩ ml_X11_338 st_X11_isCorner rfl rfl (Nat.le_of_ble_eq_true rfl) ⟨Nat.zero_le _, Nat.zero_le _⟩ (fun r10 σ11 hpo9 hok12 => ?_)
    obtain ⟨rfl, ⟨vu13, rfl, hvu13, ivu13_0, ivu13_1⟩⟩ := hpo9
    refine sv_same (st2 := [sv_i vu13]) (lv2 := [(0, sv_r a), (1, sv_i ar1), (2, sv_i ar2), (3, sv_i ar3), (4, sv_i ar4)]) rfl rfl ?_
    refine sv_if C.1 C.2.1 (cnd := .eq) (off := 28) (tgt := 39) (by decide +kernel) (by decide) ⟨by omega, by omega⟩ (fun (h14 : vu13 = 0) => ?_) (fun (h14 : ¬ (vu13 = 0)) => ?_)
    · have hp15 := ivu13_1 (by omega) (by omega)
      refine sv_go C.1 C.2.1 [(.bipush (-2), 2)] (pc' := 41) (by decide +kernel) rfl (lv' := [(0, sv_r a), (1, sv_i ar1), (2, sv_i ar2), (3, sv_i ar3), (4, sv_i ar4)]) (st' := [sv_i ((-2))]) rfl ?_
      exact sv_iret C hr (by decide +kernel) hok12 (⟨⟨_, rfl, ⟨by omega, by omega⟩, fun _ _ => (by unfold fx_begin; first | rw [if_pos (by omega)] | rw [if_neg (by omega)])⟩, hI, hF⟩)
    · have hp16 := ivu13_0 (by omega) (by omega)
      refine sv_go C.1 C.2.1 [(.iload_n 3, 1)] (pc' := 15) (by decide +kernel) rfl (lv' := [(0, sv_r a), (1, sv_i ar1), (2, sv_i ar2), (3, sv_i ar3), (4, sv_i ar4)]) (st' := [sv_i ar3]) rfl ?_
      refine sv_i2l C.1 C.2.1 (by decide +kernel) ⟨by omega, by omega⟩ ?_
      refine sv_go C.1 C.2.1 [(.lconst 0, 1)] (pc' := 17) (by decide +kernel) rfl (lv' := [(0, sv_r a), (1, sv_i ar1), (2, sv_i ar2), (3, sv_i ar3), (4, sv_i ar4)]) (st' := [sv_l 0, sv_l ar3]) rfl ?_
      refine sv_ldc2 C (index := 348) (z := 1440) (by decide +kernel) cl_X11_348 (by decide) ?_
      refine sv_cs C (index := 9) (k := 3) (rest := []) (by decide +kernel) (ct_X11_in l g A ty σ hok12 (ar3) ⟨by omega, by omega⟩ (0) ⟨by omega, by omega⟩ (1440) ⟨by omega, by omega⟩) ⟨co_X11_in, in_X11, ⟨by decide, by decide, by decide +kernel⟩, Nat.le_of_ble_eq_true rfl, Nat.le_of_ble_eq_true rfl⟩ ml_X11_9 st_X11_in rfl rfl (Nat.le_of_ble_eq_true rfl) ⟨Nat.zero_le _, Nat.zero_le _⟩ (fun r18 σ19 hpo17 hok20 => ?_)
      obtain ⟨rfl, ⟨h21, rfl⟩ | ⟨h21, rfl⟩⟩ := hpo17
      · refine sv_same (st2 := [sv_i 1]) (lv2 := [(0, sv_r a), (1, sv_i ar1), (2, sv_i ar2), (3, sv_i ar3), (4, sv_i ar4)]) rfl rfl ?_
        refine sv_if_f C.1 C.2.1 (cnd := .eq) (off := 16) (tgt := 39) (by decide +kernel) (by decide) ⟨by omega, by omega⟩ (show ¬ (1 = 0) by omega) ?_
        refine sv_go C.1 C.2.1 [(.iload 4, 2)] (pc' := 28) (by decide +kernel) rfl (lv' := [(0, sv_r a), (1, sv_i ar1), (2, sv_i ar2), (3, sv_i ar3), (4, sv_i ar4)]) (st' := [sv_i ar4]) rfl ?_
        refine sv_i2l C.1 C.2.1 (by decide +kernel) ⟨by omega, by omega⟩ ?_
        refine sv_go C.1 C.2.1 [(.lconst 0, 1)] (pc' := 30) (by decide +kernel) rfl (lv' := [(0, sv_r a), (1, sv_i ar1), (2, sv_i ar2), (3, sv_i ar3), (4, sv_i ar4)]) (st' := [sv_l 0, sv_l ar4]) rfl ?_
        refine sv_ldc2 C (index := 350) (z := 30) (by decide +kernel) cl_X11_350 (by decide) ?_
        refine sv_cs C (index := 9) (k := 3) (rest := []) (by decide +kernel) (ct_X11_in l g A ty σ hok20 (ar4) ⟨by omega, by omega⟩ (0) ⟨by omega, by omega⟩ (30) ⟨by omega, by omega⟩) ⟨co_X11_in, in_X11, ⟨by decide, by decide, by decide +kernel⟩, Nat.le_of_ble_eq_true rfl, Nat.le_of_ble_eq_true rfl⟩ ml_X11_9 st_X11_in rfl rfl (Nat.le_of_ble_eq_true rfl) ⟨Nat.zero_le _, Nat.zero_le _⟩ (fun r23 σ24 hpo22 hok25 => ?_)
        obtain ⟨rfl, ⟨h26, rfl⟩ | ⟨h26, rfl⟩⟩ := hpo22
        · refine sv_same (st2 := [sv_i 1]) (lv2 := [(0, sv_r a), (1, sv_i ar1), (2, sv_i ar2), (3, sv_i ar3), (4, sv_i ar4)]) rfl rfl ?_
          refine sv_if_t C.1 C.2.1 (cnd := .ne) (off := 6) (tgt := 42) (by decide +kernel) (by decide) ⟨by omega, by omega⟩ (show 1 ≠ 0 by omega) ?_
          refine sv_go C.1 C.2.1 [(.aload_n 0, 1)] (pc' := 43) (by decide +kernel) rfl (lv' := [(0, sv_r a), (1, sv_i ar1), (2, sv_i ar2), (3, sv_i ar3), (4, sv_i ar4)]) (st' := [sv_r a]) rfl ?_
          obtain ⟨v27, ev27, kv27⟩ := hI.ref (k := 42) k_a rfl
          refine sv_gf C (index := 151) (ci := 10) (k := 42) (r := (RX11, TX11, 47)) (v := sv_r v27) (by decide +kernel) (by rw [k_a]; rfl) rfl (by decide) fl_X11_151 (congrArg sv_a ev27) ?_
          refine sv_go C.1 C.2.1 [(.iload_n 1, 1), (.iconst 1, 1)] (pc' := 48) (by decide +kernel) rfl (lv' := [(0, sv_r a), (1, sv_i ar1), (2, sv_i ar2), (3, sv_i ar3), (4, sv_i ar4)]) (st' := [sv_i 1, sv_i ar1, sv_r v27]) rfl ?_
          refine sv_is C (n := 12) (by decide +kernel) (by rw [kv27]; rfl) (by decide) (by omega) (by omega) ⟨by omega, by omega⟩ (hTA _ (by rw [kv27]; decide)) hok25 (fun hok28 => ?_)
          have hI30 := hI.up (a := v27) (k := (ar1 : Int).toNat) (z := 1) (by rw [kv27]; exact ⟨by omega, by omega⟩)
          have hF31 := hF.up (a := v27) (k := (ar1 : Int).toNat) (z := 1) (Or.inl (by rw [kv27]; decide))
          generalize eσ29 : sv_up σ v27 (ar1 : Int).toNat 1 = σ29 at hok28 hI30 hF31 ⊢
          have t32 : σ29 a 42 = (v27 : Int) + 1 := by rw [← eσ29, sv_up_a (sv_ne k_a kv27 (by decide))]; exact ev27
          have t33 : σ29 v27 (ar1 : Int).toNat = 1 := by rw [← eσ29]; exact sv_up_s _ _ _ _
          refine sv_go C.1 C.2.1 [(.aload_n 0, 1)] (pc' := 50) (by decide +kernel) rfl (lv' := [(0, sv_r a), (1, sv_i ar1), (2, sv_i ar2), (3, sv_i ar3), (4, sv_i ar4)]) (st' := [sv_r a]) rfl ?_
          obtain ⟨v34, ev34, kv34⟩ := hI30.ref (k := 43) k_a rfl
          refine sv_gf C (index := 154) (ci := 10) (k := 43) (r := (RX11, TX11, 47)) (v := sv_r v34) (by decide +kernel) (by rw [k_a]; rfl) rfl (by decide) fl_X11_154 (congrArg sv_a ev34) ?_
          refine sv_go C.1 C.2.1 [(.iload_n 1, 1), (.iload_n 3, 1)] (pc' := 55) (by decide +kernel) rfl (lv' := [(0, sv_r a), (1, sv_i ar1), (2, sv_i ar2), (3, sv_i ar3), (4, sv_i ar4)]) (st' := [sv_i ar3, sv_i ar1, sv_r v34]) rfl ?_
          refine sv_is C (n := 12) (by decide +kernel) (by rw [kv34]; rfl) (by decide) (by omega) (by omega) ⟨by omega, by omega⟩ (hTA _ (by rw [kv34]; decide)) hok28 (fun hok35 => ?_)
          have hI37 := hI30.up (a := v34) (k := (ar1 : Int).toNat) (z := ar3) (by rw [kv34]; exact ⟨by omega, by omega⟩)
          have hF38 := hF31.up (a := v34) (k := (ar1 : Int).toNat) (z := ar3) (Or.inl (by rw [kv34]; decide))
          generalize eσ36 : sv_up σ29 v34 (ar1 : Int).toNat ar3 = σ36 at hok35 hI37 hF38 ⊢
          have t39 : σ36 a 42 = (v27 : Int) + 1 := by rw [← eσ36, sv_up_a (sv_ne k_a kv34 (by decide))]; exact t32
          have t40 : σ36 v27 (ar1 : Int).toNat = 1 := by rw [← eσ36, sv_up_a (sv_ne kv27 kv34 (by decide))]; exact t33
          have t41 : σ36 a 43 = (v34 : Int) + 1 := by rw [← eσ36, sv_up_a (sv_ne k_a kv34 (by decide))]; exact ev34
          have t42 : σ36 v34 (ar1 : Int).toNat = ar3 := by rw [← eσ36]; exact sv_up_s _ _ _ _
          refine sv_go C.1 C.2.1 [(.aload_n 0, 1)] (pc' := 57) (by decide +kernel) rfl (lv' := [(0, sv_r a), (1, sv_i ar1), (2, sv_i ar2), (3, sv_i ar3), (4, sv_i ar4)]) (st' := [sv_r a]) rfl ?_
          obtain ⟨v43, ev43, kv43⟩ := hI37.ref (k := 44) k_a rfl
          refine sv_gf C (index := 157) (ci := 10) (k := 44) (r := (RX11, TX11, 47)) (v := sv_r v43) (by decide +kernel) (by rw [k_a]; rfl) rfl (by decide) fl_X11_157 (congrArg sv_a ev43) ?_
          refine sv_go C.1 C.2.1 [(.iload_n 1, 1), (.iload 4, 2)] (pc' := 63) (by decide +kernel) rfl (lv' := [(0, sv_r a), (1, sv_i ar1), (2, sv_i ar2), (3, sv_i ar3), (4, sv_i ar4)]) (st' := [sv_i ar4, sv_i ar1, sv_r v43]) rfl ?_
          refine sv_is C (n := 12) (by decide +kernel) (by rw [kv43]; rfl) (by decide) (by omega) (by omega) ⟨by omega, by omega⟩ (hTA _ (by rw [kv43]; decide)) hok35 (fun hok44 => ?_)
          have hI46 := hI37.up (a := v43) (k := (ar1 : Int).toNat) (z := ar4) (by rw [kv43]; exact ⟨by omega, by omega⟩)
          have hF47 := hF38.up (a := v43) (k := (ar1 : Int).toNat) (z := ar4) (Or.inl (by rw [kv43]; decide))
          generalize eσ45 : sv_up σ36 v43 (ar1 : Int).toNat ar4 = σ45 at hok44 hI46 hF47 ⊢
          have t48 : σ45 a 42 = (v27 : Int) + 1 := by rw [← eσ45, sv_up_a (sv_ne k_a kv43 (by decide))]; exact t39
          have t49 : σ45 v27 (ar1 : Int).toNat = 1 := by rw [← eσ45, sv_up_a (sv_ne kv27 kv43 (by decide))]; exact t40
          have t50 : σ45 a 43 = (v34 : Int) + 1 := by rw [← eσ45, sv_up_a (sv_ne k_a kv43 (by decide))]; exact t41
          have t51 : σ45 v34 (ar1 : Int).toNat = ar3 := by rw [← eσ45, sv_up_a (sv_ne kv34 kv43 (by decide))]; exact t42
          have t52 : σ45 a 44 = (v43 : Int) + 1 := by rw [← eσ45, sv_up_a (sv_ne k_a kv43 (by decide))]; exact ev43
          have t53 : σ45 v43 (ar1 : Int).toNat = ar4 := by rw [← eσ45]; exact sv_up_s _ _ _ _
          refine sv_go C.1 C.2.1 [(.aload_n 0, 1)] (pc' := 65) (by decide +kernel) rfl (lv' := [(0, sv_r a), (1, sv_i ar1), (2, sv_i ar2), (3, sv_i ar3), (4, sv_i ar4)]) (st' := [sv_r a]) rfl ?_
          obtain ⟨v54, ev54, kv54⟩ := hI46.ref (k := 45) k_a rfl
          refine sv_gf C (index := 160) (ci := 10) (k := 45) (r := (RX11, TX11, 47)) (v := sv_r v54) (by decide +kernel) (by rw [k_a]; rfl) rfl (by decide) fl_X11_160 (congrArg sv_a ev54) ?_
          refine sv_go C.1 C.2.1 [(.bipush 12, 2), (.iload_n 1, 1), (.imul, 1), (.iload_n 2, 1)] (pc' := 73) (by decide +kernel) rfl (lv' := [(0, sv_r a), (1, sv_i ar1), (2, sv_i ar2), (3, sv_i ar3), (4, sv_i ar4)]) (st' := [sv_i ar2, sv_i (12 * ar1), sv_r v54]) rfl ?_
          refine sv_is C (n := 144) (by decide +kernel) (by rw [kv54]; rfl) (by decide) (by omega) (by omega) ⟨by omega, by omega⟩ (hTA _ (by rw [kv54]; decide)) hok44 (fun hok55 => ?_)
          have hI57 := hI46.up (a := v54) (k := (12 * ar1 : Int).toNat) (z := ar2) (by rw [kv54]; exact ⟨by omega, by omega⟩)
          have hF58 := hF47.up (a := v54) (k := (12 * ar1 : Int).toNat) (z := ar2) (Or.inl (by rw [kv54]; decide))
          generalize eσ56 : sv_up σ45 v54 (12 * ar1 : Int).toNat ar2 = σ56 at hok55 hI57 hF58 ⊢
          have t59 : σ56 a 42 = (v27 : Int) + 1 := by rw [← eσ56, sv_up_a (sv_ne k_a kv54 (by decide))]; exact t48
          have t60 : σ56 v27 (ar1 : Int).toNat = 1 := by rw [← eσ56, sv_up_a (sv_ne kv27 kv54 (by decide))]; exact t49
          have t61 : σ56 a 43 = (v34 : Int) + 1 := by rw [← eσ56, sv_up_a (sv_ne k_a kv54 (by decide))]; exact t50
          have t62 : σ56 v34 (ar1 : Int).toNat = ar3 := by rw [← eσ56, sv_up_a (sv_ne kv34 kv54 (by decide))]; exact t51
          have t63 : σ56 a 44 = (v43 : Int) + 1 := by rw [← eσ56, sv_up_a (sv_ne k_a kv54 (by decide))]; exact t52
          have t64 : σ56 v43 (ar1 : Int).toNat = ar4 := by rw [← eσ56, sv_up_a (sv_ne kv43 kv54 (by decide))]; exact t53
          have t65 : σ56 a 45 = (v54 : Int) + 1 := by rw [← eσ56, sv_up_a (sv_ne k_a kv54 (by decide))]; exact ev54
          have t66 : σ56 v54 (12 * ar1 : Int).toNat = ar2 := by rw [← eσ56]; exact sv_up_s _ _ _ _
          refine sv_go C.1 C.2.1 [(.aload_n 0, 1)] (pc' := 75) (by decide +kernel) rfl (lv' := [(0, sv_r a), (1, sv_i ar1), (2, sv_i ar2), (3, sv_i ar3), (4, sv_i ar4)]) (st' := [sv_r a]) rfl ?_
          obtain ⟨v67, ev67, kv67⟩ := hI57.ref (k := 46) k_a rfl
          refine sv_gf C (index := 163) (ci := 10) (k := 46) (r := (RX11, TX11, 47)) (v := sv_r v67) (by decide +kernel) (by rw [k_a]; rfl) rfl (by decide) fl_X11_163 (congrArg sv_a ev67) ?_
          refine sv_go C.1 C.2.1 [(.bipush 12, 2), (.iload_n 1, 1), (.imul, 1), (.iconst 0, 1)] (pc' := 83) (by decide +kernel) rfl (lv' := [(0, sv_r a), (1, sv_i ar1), (2, sv_i ar2), (3, sv_i ar3), (4, sv_i ar4)]) (st' := [sv_i 0, sv_i (12 * ar1), sv_r v67]) rfl ?_
          refine sv_is C (n := 144) (by decide +kernel) (by rw [kv67]; rfl) (by decide) (by omega) (by omega) ⟨by omega, by omega⟩ (hTA _ (by rw [kv67]; decide)) hok55 (fun hok68 => ?_)
          have hI70 := hI57.up (a := v67) (k := (12 * ar1 : Int).toNat) (z := 0) (by rw [kv67]; exact trivial)
          have hF71 := hF58.up (a := v67) (k := (12 * ar1 : Int).toNat) (z := 0) (Or.inl (by rw [kv67]; decide))
          generalize eσ69 : sv_up σ56 v67 (12 * ar1 : Int).toNat 0 = σ69 at hok68 hI70 hF71 ⊢
          have t72 : σ69 a 42 = (v27 : Int) + 1 := by rw [← eσ69, sv_up_a (sv_ne k_a kv67 (by decide))]; exact t59
          have t73 : σ69 v27 (ar1 : Int).toNat = 1 := by rw [← eσ69, sv_up_a (sv_ne kv27 kv67 (by decide))]; exact t60
          have t74 : σ69 a 43 = (v34 : Int) + 1 := by rw [← eσ69, sv_up_a (sv_ne k_a kv67 (by decide))]; exact t61
          have t75 : σ69 v34 (ar1 : Int).toNat = ar3 := by rw [← eσ69, sv_up_a (sv_ne kv34 kv67 (by decide))]; exact t62
          have t76 : σ69 a 44 = (v43 : Int) + 1 := by rw [← eσ69, sv_up_a (sv_ne k_a kv67 (by decide))]; exact t63
          have t77 : σ69 v43 (ar1 : Int).toNat = ar4 := by rw [← eσ69, sv_up_a (sv_ne kv43 kv67 (by decide))]; exact t64
          have t78 : σ69 a 45 = (v54 : Int) + 1 := by rw [← eσ69, sv_up_a (sv_ne k_a kv67 (by decide))]; exact t65
          have t79 : σ69 v54 (12 * ar1 : Int).toNat = ar2 := by rw [← eσ69, sv_up_a (sv_ne kv54 kv67 (by decide))]; exact t66
          have t80 : σ69 a 46 = (v67 : Int) + 1 := by rw [← eσ69, sv_up_a (sv_ne k_a kv67 (by decide))]; exact ev67
          have t81 : σ69 v67 (12 * ar1 : Int).toNat = 0 := by rw [← eσ69]; exact sv_up_s _ _ _ _
          refine sv_go C.1 C.2.1 [(.iconst 1, 1)] (pc' := 85) (by decide +kernel) rfl (lv' := [(0, sv_r a), (1, sv_i ar1), (2, sv_i ar2), (3, sv_i ar3), (4, sv_i ar4)]) (st' := [sv_i 1]) rfl ?_
          exact sv_iret C hr (by decide +kernel) hok68 (⟨⟨_, rfl, ⟨by omega, by omega⟩, fun _ _ => (by unfold fx_begin; first | rw [if_pos (by omega)] | rw [if_neg (by omega)])⟩, hI70, hF71⟩)
        · refine sv_same (st2 := [sv_i 0]) (lv2 := [(0, sv_r a), (1, sv_i ar1), (2, sv_i ar2), (3, sv_i ar3), (4, sv_i ar4)]) rfl rfl ?_
          refine sv_if_f C.1 C.2.1 (cnd := .ne) (off := 6) (tgt := 42) (by decide +kernel) (by decide) ⟨by omega, by omega⟩ (show ¬ (0 ≠ 0) by omega) ?_
          refine sv_go C.1 C.2.1 [(.bipush (-2), 2)] (pc' := 41) (by decide +kernel) rfl (lv' := [(0, sv_r a), (1, sv_i ar1), (2, sv_i ar2), (3, sv_i ar3), (4, sv_i ar4)]) (st' := [sv_i ((-2))]) rfl ?_
          exact sv_iret C hr (by decide +kernel) hok25 (⟨⟨_, rfl, ⟨by omega, by omega⟩, fun _ _ => (by unfold fx_begin; first | rw [if_pos (by omega)] | rw [if_neg (by omega)])⟩, hI, hF⟩)
      · refine sv_same (st2 := [sv_i 0]) (lv2 := [(0, sv_r a), (1, sv_i ar1), (2, sv_i ar2), (3, sv_i ar3), (4, sv_i ar4)]) rfl rfl ?_
        refine sv_if_t C.1 C.2.1 (cnd := .eq) (off := 16) (tgt := 39) (by decide +kernel) (by decide) ⟨by omega, by omega⟩ (show 0 = 0 by omega) ?_
        refine sv_go C.1 C.2.1 [(.bipush (-2), 2)] (pc' := 41) (by decide +kernel) rfl (lv' := [(0, sv_r a), (1, sv_i ar1), (2, sv_i ar2), (3, sv_i ar3), (4, sv_i ar4)]) (st' := [sv_i ((-2))]) rfl ?_
        exact sv_iret C hr (by decide +kernel) hok20 (⟨⟨_, rfl, ⟨by omega, by omega⟩, fun _ _ => (by unfold fx_begin; first | rw [if_pos (by omega)] | rw [if_neg (by omega)])⟩, hI, hF⟩)
