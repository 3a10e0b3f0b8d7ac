set_option maxHeartbeats 4000000 in
set_option maxRecDepth 100000 in
theorem sf_X11_at (l : Launch) (g : sv_G) (A : Nat → Prop) (ty : Nat → Nat) (σ : Nat → Nat → Int) (hok : sv_ok ty σ) (hTA : ∀ q, ty q ≠ 0 → A q) (hI : sv_inv sp_1 ty σ) (v : Int) (h_v : 0 ≤ v ∧ v ≤ 4) (w : Int) (h_w : 0 ≤ w ∧ w ≤ 59) : sv_M l yX11_at cX11_at 2 (some .int) { frames := 0, cells := 0, slots := 0, locals := 0 } g A ty σ [sv_i v, sv_i w] (fun r σ' => σ = σ' ∧ ∃ rv : Int, r = [sv_i rv] ∧ (0 ≤ rv ∧ rv ≤ 299)) := by
  refine sv_enter (by decide) (Nat.le_of_ble_eq_true rfl) ?_
  intro p e s m args below meth c C hr
  have C : sv_C g A RX11 cX11_at 2 p s m args meth c := C
  have hr : meth.sig.returnType = (some .int) := hr
  have hF : sv_ofx [] [] ty σ σ := sv_ofx.rf
  refine sv_same (st2 := []) (lv2 := [(0, sv_i v), (1, sv_i w)]) rfl rfl ?_
  refine sv_go C.1 C.2.1 [(.bipush 60, 2), (.iload_n 0, 1), (.imul, 1), (.iload_n 1, 1), (.iadd, 1)] (pc' := 6) (by decide +kernel) rfl (lv' := [(0, sv_i v), (1, sv_i w)]) (st' := [sv_i ((60 * v) + w)]) rfl ?_
  exact sv_iret C hr (by decide +kernel) hok (⟨rfl, ⟨_, rfl, ⟨by omega, by omega⟩⟩⟩)

theorem cl_X11_275 : Cond.constantLong RX11 275 (3) ∈ lw_good := sv_mem 1265 (by decide +kernel) rfl
set_option maxHeartbeats 4000000 in
set_option maxRecDepth 100000 in
theorem sf_X11_isPlace (l : Launch) (g : sv_G) (A : Nat → Prop) (ty : Nat → Nat) (σ : Nat → Nat → Int) (hok : sv_ok ty σ) (hTA : ∀ q, ty q ≠ 0 → A q) (hI : sv_inv sp_1 ty σ) (v : Int) (h_v : (-2147483648) ≤ v ∧ v ≤ 2147483647) : sv_M l yX11_isPlace cX11_isPlace 1 (some .boolean) { frames := 1, cells := 0, slots := 0, locals := 25 } g A ty σ [sv_i v] (fun r σ' => σ = σ' ∧ ∃ rv : Int, r = [sv_i rv] ∧ (0 ≤ rv ∧ rv ≤ 1) ∧ (1 ≤ rv → rv ≤ 1 → 0 ≤ v ∧ v ≤ 3)) := by
  refine sv_enter (by decide) (Nat.le_of_ble_eq_true rfl) ?_
  intro p e s m args below meth c C hr
  have C : sv_C g A RX11 cX11_isPlace 1 p s m args meth c := C
  have hr : meth.sig.returnType = (some .boolean) := hr
  have hF : sv_ofx [] [] ty σ σ := sv_ofx.rf
  refine sv_same (st2 := []) (lv2 := [(0, sv_i v)]) rfl rfl ?_
  refine sv_go C.1 C.2.1 [(.iload_n 0, 1)] (pc' := 1) (by decide +kernel) rfl (lv' := [(0, sv_i v)]) (st' := [sv_i v]) rfl ?_
  refine sv_i2l C.1 C.2.1 (by decide +kernel) ⟨by omega, by omega⟩ ?_
  refine sv_go C.1 C.2.1 [(.lconst 0, 1)] (pc' := 3) (by decide +kernel) rfl (lv' := [(0, sv_i v)]) (st' := [sv_l 0, sv_l v]) rfl ?_
  refine sv_ldc2 C (index := 275) (z := 3) (by decide +kernel) cl_X11_275 (by decide) ?_
  refine sv_cs C (index := 9) (k := 3) (rest := []) (by decide +kernel) (ct_X11_in l g A ty σ hok (v) ⟨by omega, by omega⟩ (0) ⟨by omega, by omega⟩ (3) ⟨by omega, by omega⟩) ⟨co_X11_in, in_X11, ⟨by decide, by decide, by decide +kernel⟩, Nat.le_of_ble_eq_true rfl, Nat.le_of_ble_eq_true rfl⟩ ml_X11_9 st_X11_in rfl rfl (Nat.le_of_ble_eq_true rfl) ⟨Nat.zero_le _, Nat.zero_le _⟩ (fun r2 σ3 hpo1 hok4 => ?_)
  obtain ⟨rfl, ⟨h5, rfl⟩ | ⟨h5, rfl⟩⟩ := hpo1
  · refine sv_same (st2 := [sv_i 1]) (lv2 := [(0, sv_i v)]) rfl rfl ?_
    exact sv_zret C hr (by omega) (by decide +kernel) hok4 (⟨rfl, ⟨_, rfl, ⟨by omega, by omega⟩, fun _ _ => (by omega)⟩⟩)
  · refine sv_same (st2 := [sv_i 0]) (lv2 := [(0, sv_i v)]) rfl rfl ?_
    exact sv_zret C hr (by omega) (by decide +kernel) hok4 (⟨rfl, ⟨_, rfl, ⟨by omega, by omega⟩, fun _ _ => (by omega)⟩⟩)

theorem cl_X11_292 : Cond.constantLong RX11 292 (9) ∈ lw_good := sv_mem 1361 (by decide +kernel) rfl
set_option maxHeartbeats 4000000 in
set_option maxRecDepth 100000 in
theorem sf_X11_isBrotherhood (l : Launch) (g : sv_G) (A : Nat → Prop) (ty : Nat → Nat) (σ : Nat → Nat → Int) (hok : sv_ok ty σ) (hTA : ∀ q, ty q ≠ 0 → A q) (hI : sv_inv sp_1 ty σ) (v : Int) (h_v : (-2147483648) ≤ v ∧ v ≤ 2147483647) : sv_M l yX11_isBrotherhood cX11_isBrotherhood 1 (some .boolean) { frames := 1, cells := 0, slots := 0, locals := 25 } g A ty σ [sv_i v] (fun r σ' => σ = σ' ∧ ∃ rv : Int, r = [sv_i rv] ∧ (0 ≤ rv ∧ rv ≤ 1) ∧ (1 ≤ rv → rv ≤ 1 → 0 ≤ v ∧ v ≤ 9)) := by
  refine sv_enter (by decide) (Nat.le_of_ble_eq_true rfl) ?_
  intro p e s m args below meth c C hr
  have C : sv_C g A RX11 cX11_isBrotherhood 1 p s m args meth c := C
  have hr : meth.sig.returnType = (some .boolean) := hr
  have hF : sv_ofx [] [] ty σ σ := sv_ofx.rf
  refine sv_same (st2 := []) (lv2 := [(0, sv_i v)]) rfl rfl ?_
  refine sv_go C.1 C.2.1 [(.iload_n 0, 1)] (pc' := 1) (by decide +kernel) rfl (lv' := [(0, sv_i v)]) (st' := [sv_i v]) rfl ?_
  refine sv_i2l C.1 C.2.1 (by decide +kernel) ⟨by omega, by omega⟩ ?_
  refine sv_go C.1 C.2.1 [(.lconst 0, 1)] (pc' := 3) (by decide +kernel) rfl (lv' := [(0, sv_i v)]) (st' := [sv_l 0, sv_l v]) rfl ?_
  refine sv_ldc2 C (index := 292) (z := 9) (by decide +kernel) cl_X11_292 (by decide) ?_
  refine sv_cs C (index := 9) (k := 3) (rest := []) (by decide +kernel) (ct_X11_in l g A ty σ hok (v) ⟨by omega, by omega⟩ (0) ⟨by omega, by omega⟩ (9) ⟨by omega, by omega⟩) ⟨co_X11_in, in_X11, ⟨by decide, by decide, by decide +kernel⟩, Nat.le_of_ble_eq_true rfl, Nat.le_of_ble_eq_true rfl⟩ ml_X11_9 st_X11_in rfl rfl (Nat.le_of_ble_eq_true rfl) ⟨Nat.zero_le _, Nat.zero_le _⟩ (fun r2 σ3 hpo1 hok4 => ?_)
  obtain ⟨rfl, ⟨h5, rfl⟩ | ⟨h5, rfl⟩⟩ := hpo1
  · refine sv_same (st2 := [sv_i 1]) (lv2 := [(0, sv_i v)]) rfl rfl ?_
    exact sv_zret C hr (by omega) (by decide +kernel) hok4 (⟨rfl, ⟨_, rfl, ⟨by omega, by omega⟩, fun _ _ => (by omega)⟩⟩)
  · refine sv_same (st2 := [sv_i 0]) (lv2 := [(0, sv_i v)]) rfl rfl ?_
    exact sv_zret C hr (by omega) (by decide +kernel) hok4 (⟨rfl, ⟨_, rfl, ⟨by omega, by omega⟩, fun _ _ => (by omega)⟩⟩)

theorem cl_X11_336 : Cond.constantLong RX11 336 (19) ∈ lw_good := sv_mem 1452 (by decide +kernel) rfl
set_option maxHeartbeats 4000000 in
set_option maxRecDepth 100000 in
theorem sf_X11_isCorner (l : Launch) (g : sv_G) (A : Nat → Prop) (ty : Nat → Nat) (σ : Nat → Nat → Int) (hok : sv_ok ty σ) (hTA : ∀ q, ty q ≠ 0 → A q) (hI : sv_inv sp_1 ty σ) (v : Int) (h_v : (-2147483648) ≤ v ∧ v ≤ 2147483647) : sv_M l yX11_isCorner cX11_isCorner 1 (some .boolean) { frames := 1, cells := 0, slots := 0, locals := 25 } g A ty σ [sv_i v] (fun r σ' => σ = σ' ∧ ∃ rv : Int, r = [sv_i rv] ∧ (0 ≤ rv ∧ rv ≤ 1) ∧ (1 ≤ rv → rv ≤ 1 → 0 ≤ v ∧ v ≤ 19)) := by
  refine sv_enter (by decide) (Nat.le_of_ble_eq_true rfl) ?_
  intro p e s m args below meth c C hr
  have C : sv_C g A RX11 cX11_isCorner 1 p s m args meth c := C
  have hr : meth.sig.returnType = (some .boolean) := hr
  have hF : sv_ofx [] [] ty σ σ := sv_ofx.rf
  refine sv_same (st2 := []) (lv2 := [(0, sv_i v)]) rfl rfl ?_
  refine sv_go C.1 C.2.1 [(.iload_n 0, 1)] (pc' := 1) (by decide +kernel) rfl (lv' := [(0, sv_i v)]) (st' := [sv_i v]) rfl ?_
  refine sv_i2l C.1 C.2.1 (by decide +kernel) ⟨by omega, by omega⟩ ?_
  refine sv_go C.1 C.2.1 [(.lconst 0, 1)] (pc' := 3) (by decide +kernel) rfl (lv' := [(0, sv_i v)]) (st' := [sv_l 0, sv_l v]) rfl ?_
  refine sv_ldc2 C (index := 336) (z := 19) (by decide +kernel) cl_X11_336 (by decide) ?_
  refine sv_cs C (index := 9) (k := 3) (rest := []) (by decide +kernel) (ct_X11_in l g A ty σ hok (v) ⟨by omega, by omega⟩ (0) ⟨by omega, by omega⟩ (19) ⟨by omega, by omega⟩) ⟨co_X11_in, in_X11, ⟨by decide, by decide, by decide +kernel⟩, Nat.le_of_ble_eq_true rfl, Nat.le_of_ble_eq_true rfl⟩ ml_X11_9 st_X11_in rfl rfl (Nat.le_of_ble_eq_true rfl) ⟨Nat.zero_le _, Nat.zero_le _⟩ (fun r2 σ3 hpo1 hok4 => ?_)
  obtain ⟨rfl, ⟨h5, rfl⟩ | ⟨h5, rfl⟩⟩ := hpo1
  · refine sv_same (st2 := [sv_i 1]) (lv2 := [(0, sv_i v)]) rfl rfl ?_
    exact sv_zret C hr (by omega) (by decide +kernel) hok4 (⟨rfl, ⟨_, rfl, ⟨by omega, by omega⟩, fun _ _ => (by omega)⟩⟩)
  · refine sv_same (st2 := [sv_i 0]) (lv2 := [(0, sv_i v)]) rfl rfl ?_
    exact sv_zret C hr (by omega) (by decide +kernel) hok4 (⟨rfl, ⟨_, rfl, ⟨by omega, by omega⟩, fun _ _ => (by omega)⟩⟩)

theorem cl_X11_343 : Cond.constantLong RX11 343 (11) ∈ lw_good := sv_mem 1461 (by decide +kernel) rfl
set_option maxHeartbeats 4000000 in
set_option maxRecDepth 100000 in
theorem sf_X11_isWalk (l : Launch) (g : sv_G) (A : Nat → Prop) (ty : Nat → Nat) (σ : Nat → Nat → Int) (hok : sv_ok ty σ) (hTA : ∀ q, ty q ≠ 0 → A q) (hI : sv_inv sp_1 ty σ) (v : Int) (h_v : (-2147483648) ≤ v ∧ v ≤ 2147483647) : sv_M l yX11_isWalk cX11_isWalk 1 (some .boolean) { frames := 1, cells := 0, slots := 0, locals := 25 } g A ty σ [sv_i v] (fun r σ' => σ = σ' ∧ ∃ rv : Int, r = [sv_i rv] ∧ (0 ≤ rv ∧ rv ≤ 1) ∧ (1 ≤ rv → rv ≤ 1 → 0 ≤ v ∧ v ≤ 11)) := by
  refine sv_enter (by decide) (Nat.le_of_ble_eq_true rfl) ?_
  intro p e s m args below meth c C hr
  have C : sv_C g A RX11 cX11_isWalk 1 p s m args meth c := C
  have hr : meth.sig.returnType = (some .boolean) := hr
  have hF : sv_ofx [] [] ty σ σ := sv_ofx.rf
  refine sv_same (st2 := []) (lv2 := [(0, sv_i v)]) rfl rfl ?_
  refine sv_go C.1 C.2.1 [(.iload_n 0, 1)] (pc' := 1) (by decide +kernel) rfl (lv' := [(0, sv_i v)]) (st' := [sv_i v]) rfl ?_
  refine sv_i2l C.1 C.2.1 (by decide +kernel) ⟨by omega, by omega⟩ ?_
  refine sv_go C.1 C.2.1 [(.lconst 0, 1)] (pc' := 3) (by decide +kernel) rfl (lv' := [(0, sv_i v)]) (st' := [sv_l 0, sv_l v]) rfl ?_
  refine sv_ldc2 C (index := 343) (z := 11) (by decide +kernel) cl_X11_343 (by decide) ?_
  refine sv_cs C (index := 9) (k := 3) (rest := []) (by decide +kernel) (ct_X11_in l g A ty σ hok (v) ⟨by omega, by omega⟩ (0) ⟨by omega, by omega⟩ (11) ⟨by omega, by omega⟩) ⟨co_X11_in, in_X11, ⟨by decide, by decide, by decide +kernel⟩, Nat.le_of_ble_eq_true rfl, Nat.le_of_ble_eq_true rfl⟩ ml_X11_9 st_X11_in rfl rfl (Nat.le_of_ble_eq_true rfl) ⟨Nat.zero_le _, Nat.zero_le _⟩ (fun r2 σ3 hpo1 hok4 => ?_)
  obtain ⟨rfl, ⟨h5, rfl⟩ | ⟨h5, rfl⟩⟩ := hpo1
  · refine sv_same (st2 := [sv_i 1]) (lv2 := [(0, sv_i v)]) rfl rfl ?_
    exact sv_zret C hr (by omega) (by decide +kernel) hok4 (⟨rfl, ⟨_, rfl, ⟨by omega, by omega⟩, fun _ _ => (by omega)⟩⟩)
  · refine sv_same (st2 := [sv_i 0]) (lv2 := [(0, sv_i v)]) rfl rfl ?_
    exact sv_zret C hr (by omega) (by decide +kernel) hok4 (⟨rfl, ⟨_, rfl, ⟨by omega, by omega⟩, fun _ _ => (by omega)⟩⟩)

set_option maxHeartbeats 4000000 in
set_option maxRecDepth 100000 in
theorem sf_X11_isLetter (l : Launch) (g : sv_G) (A : Nat → Prop) (ty : Nat → Nat) (σ : Nat → Nat → Int) (hok : sv_ok ty σ) (hTA : ∀ q, ty q ≠ 0 → A q) (hI : sv_inv sp_1 ty σ) (v : Int) (h_v : (-2147483648) ≤ v ∧ v ≤ 2147483647) : sv_M l yX11_isLetter cX11_isLetter 1 (some .boolean) { frames := 0, cells := 0, slots := 0, locals := 0 } g A ty σ [sv_i v] (fun r σ' => σ = σ' ∧ ∃ rv : Int, r = [sv_i rv] ∧ (0 ≤ rv ∧ rv ≤ 1) ∧ (1 ≤ rv → rv ≤ 1 → 97 ≤ v ∧ v ≤ 122)) := by
  refine sv_enter (by decide) (Nat.le_of_ble_eq_true rfl) ?_
  intro p e s m args below meth c C hr
  have C : sv_C g A RX11 cX11_isLetter 1 p s m args meth c := C
  have hr : meth.sig.returnType = (some .boolean) := hr
  have hF : sv_ofx [] [] ty σ σ := sv_ofx.rf
  refine sv_same (st2 := []) (lv2 := [(0, sv_i v)]) rfl rfl ?_
  refine sv_go C.1 C.2.1 [(.iload_n 0, 1), (.bipush 97, 2)] (pc' := 3) (by decide +kernel) rfl (lv' := [(0, sv_i v)]) (st' := [sv_i 97, sv_i v]) rfl ?_
  refine sv_icmp C.1 C.2.1 (cnd := .lt) (off := 13) (tgt := 16) (by decide +kernel) (by decide) ⟨by omega, by omega⟩ ⟨by omega, by omega⟩ (fun (h1 : v < 97) => ?_) (fun (h1 : ¬ (v < 97)) => ?_)
  · refine sv_go C.1 C.2.1 [(.iconst 0, 1)] (pc' := 17) (by decide +kernel) rfl (lv' := [(0, sv_i v)]) (st' := [sv_i 0]) rfl ?_
    exact sv_zret C hr (by omega) (by decide +kernel) hok (⟨rfl, ⟨_, rfl, ⟨by omega, by omega⟩, fun _ _ => (by omega)⟩⟩)
  · refine sv_go C.1 C.2.1 [(.iload_n 0, 1), (.bipush 122, 2)] (pc' := 9) (by decide +kernel) rfl (lv' := [(0, sv_i v)]) (st' := [sv_i 122, sv_i v]) rfl ?_
    refine sv_icmp C.1 C.2.1 (cnd := .gt) (off := 7) (tgt := 16) (by decide +kernel) (by decide) ⟨by omega, by omega⟩ ⟨by omega, by omega⟩ (fun (h2 : 122 < v) => ?_) (fun (h2 : ¬ (122 < v)) => ?_)
    · refine sv_go C.1 C.2.1 [(.iconst 0, 1)] (pc' := 17) (by decide +kernel) rfl (lv' := [(0, sv_i v)]) (st' := [sv_i 0]) rfl ?_
      exact sv_zret C hr (by omega) (by decide +kernel) hok (⟨rfl, ⟨_, rfl, ⟨by omega, by omega⟩, fun _ _ => (by omega)⟩⟩)
    · refine sv_go C.1 C.2.1 [(.iconst 1, 1)] (pc' := 13) (by decide +kernel) rfl (lv' := [(0, sv_i v)]) (st' := [sv_i 1]) rfl ?_
      refine sv_goto C.1 C.2.1 (off := 4) (tgt := 17) (by decide +kernel) (by decide) ?_
      exact sv_zret C hr (by omega) (by decide +kernel) hok (⟨rfl, ⟨_, rfl, ⟨by omega, by omega⟩, fun _ _ => (by omega)⟩⟩)

set_option maxHeartbeats 4000000 in
set_option maxRecDepth 100000 in
theorem sf_X11_isDigit (l : Launch) (g : sv_G) (A : Nat → Prop) (ty : Nat → Nat) (σ : Nat → Nat → Int) (hok : sv_ok ty σ) (hTA : ∀ q, ty q ≠ 0 → A q) (hI : sv_inv sp_1 ty σ) (v : Int) (h_v : (-2147483648) ≤ v ∧ v ≤ 2147483647) : sv_M l yX11_isDigit cX11_isDigit 1 (some .boolean) { frames := 0, cells := 0, slots := 0, locals := 0 } g A ty σ [sv_i v] (fun r σ' => σ = σ' ∧ ∃ rv : Int, r = [sv_i rv] ∧ (0 ≤ rv ∧ rv ≤ 1) ∧ (1 ≤ rv → rv ≤ 1 → 48 ≤ v ∧ v ≤ 57)) := by
  refine sv_enter (by decide) (Nat.le_of_ble_eq_true rfl) ?_
  intro p e s m args below meth c C hr
  have C : sv_C g A RX11 cX11_isDigit 1 p s m args meth c := C
  have hr : meth.sig.returnType = (some .boolean) := hr
  have hF : sv_ofx [] [] ty σ σ := sv_ofx.rf
  refine sv_same (st2 := []) (lv2 := [(0, sv_i v)]) rfl rfl ?_
  refine sv_go C.1 C.2.1 [(.iload_n 0, 1), (.bipush 48, 2)] (pc' := 3) (by decide +kernel) rfl (lv' := [(0, sv_i v)]) (st' := [sv_i 48, sv_i v]) rfl ?_
  refine sv_icmp C.1 C.2.1 (cnd := .lt) (off := 13) (tgt := 16) (by decide +kernel) (by decide) ⟨by omega, by omega⟩ ⟨by omega, by omega⟩ (fun (h1 : v < 48) => ?_) (fun (h1 : ¬ (v < 48)) => ?_)
  · refine sv_go C.1 C.2.1 [(.iconst 0, 1)] (pc' := 17) (by decide +kernel) rfl (lv' := [(0, sv_i v)]) (st' := [sv_i 0]) rfl ?_
    exact sv_zret C hr (by omega) (by decide +kernel) hok (⟨rfl, ⟨_, rfl, ⟨by omega, by omega⟩, fun _ _ => (by omega)⟩⟩)
  · refine sv_go C.1 C.2.1 [(.iload_n 0, 1), (.bipush 57, 2)] (pc' := 9) (by decide +kernel) rfl (lv' := [(0, sv_i v)]) (st' := [sv_i 57, sv_i v]) rfl ?_
    refine sv_icmp C.1 C.2.1 (cnd := .gt) (off := 7) (tgt := 16) (by decide +kernel) (by decide) ⟨by omega, by omega⟩ ⟨by omega, by omega⟩ (fun (h2 : 57 < v) => ?_) (fun (h2 : ¬ (57 < v)) => ?_)
    · refine sv_go C.1 C.2.1 [(.iconst 0, 1)] (pc' := 17) (by decide +kernel) rfl (lv' := [(0, sv_i v)]) (st' := [sv_i 0]) rfl ?_
      exact sv_zret C hr (by omega) (by decide +kernel) hok (⟨rfl, ⟨_, rfl, ⟨by omega, by omega⟩, fun _ _ => (by omega)⟩⟩)
    · refine sv_go C.1 C.2.1 [(.iconst 1, 1)] (pc' := 13) (by decide +kernel) rfl (lv' := [(0, sv_i v)]) (st' := [sv_i 1]) rfl ?_
      refine sv_goto C.1 C.2.1 (off := 4) (tgt := 17) (by decide +kernel) (by decide) ?_
      exact sv_zret C hr (by omega) (by decide +kernel) hok (⟨rfl, ⟨_, rfl, ⟨by omega, by omega⟩, fun _ _ => (by omega)⟩⟩)

set_option maxHeartbeats 4000000 in
set_option maxRecDepth 100000 in
theorem sf_X11_dayOf (l : Launch) (g : sv_G) (A : Nat → Prop) (ty : Nat → Nat) (σ : Nat → Nat → Int) (hok : sv_ok ty σ) (hTA : ∀ q, ty q ≠ 0 → A q) (hI : sv_inv sp_1 ty σ) (y : Int) (h_y : 1 ≤ y ∧ y ≤ 2000) (mo : Int) (h_mo : (-90) ≤ mo ∧ mo ≤ 90) (d : Int) (h_d : (-10) ≤ d ∧ d ≤ 40) : sv_M l yX11_dayOf cX11_dayOf 5 (some .int) { frames := 2, cells := 0, slots := 0, locals := 41 } g A ty σ [sv_i y, sv_i mo, sv_i d] (fun r σ' => σ = σ' ∧ ∃ rv : Int, r = [sv_i rv] ∧ ((-11) ≤ rv ∧ rv ≤ 2798) ∧ ((-2147483648) ≤ rv → rv ≤ 2147483647 → d - 1 ≤ rv)) := by
  refine sv_enter (by decide) (Nat.le_of_ble_eq_true rfl) ?_
  intro p e s m args below meth c C hr
  have C : sv_C g A RX11 cX11_dayOf 5 p s m args meth c := C
  have hr : meth.sig.returnType = (some .int) := hr
  have hF : sv_ofx [] [] ty σ σ := sv_ofx.rf
  refine sv_same (st2 := []) (lv2 := [(0, sv_i y), (1, sv_i mo), (2, sv_i d)]) rfl rfl ?_
  refine sv_go C.1 C.2.1 [(.iload_n 2, 1), (.iconst 1, 1), (.isub, 1), (.istore_n 3, 1), (.iconst 1, 1), (.istore 4, 2)] (pc' := 7) (by decide +kernel) rfl (lv' := [(0, sv_i y), (1, sv_i mo), (2, sv_i d), (3, sv_i (d - 1)), (4, sv_i 1)]) (st' := []) rfl ?_
  have L2 : ∀ (n : Nat) (Xg1_l3 : Int) (Xg1_l4 : Int), ((-11) ≤ Xg1_l3 ∧ Xg1_l3 ≤ 2798) → (1 ≤ Xg1_l4 ∧ Xg1_l4 ≤ 90) → (Xg1_l3 ≤ 39 + 31 * (Xg1_l4 - 1)) → (d - 1 ≤ Xg1_l3) → (2798 - Xg1_l3) < (n : Int) → sv_E p l e { frames := 2, cells := 0, slots := 0, locals := 41 } s m args below meth c 5 g A ty (fun r σ' => σ = σ' ∧ ∃ rv : Int, r = [sv_i rv] ∧ ((-11) ≤ rv ∧ rv ≤ 2798) ∧ ((-2147483648) ≤ rv → rv ≤ 2147483647 → d - 1 ≤ rv)) σ 7 [(0, sv_i y), (1, sv_i mo), (3, sv_i Xg1_l3), (4, sv_i Xg1_l4)] [] := by
    intro n
    induction n with
    | zero => intro Xg1_l3 Xg1_l4 hXg1_l3 hXg1_l4 hn hm hmu; exact absurd hmu (by omega)
    | succ n ih3 =>
      intro Xg1_l3 Xg1_l4 hXg1_l3 hXg1_l4 hn hm hmu
      refine sv_go C.1 C.2.1 [(.iload 4, 2), (.iload_n 1, 1)] (pc' := 10) (by decide +kernel) rfl (lv' := [(0, sv_i y), (1, sv_i mo), (3, sv_i Xg1_l3), (4, sv_i Xg1_l4)]) (st' := [sv_i mo, sv_i Xg1_l4]) rfl ?_
      refine sv_icmp C.1 C.2.1 (cnd := .ge) (off := 18) (tgt := 28) (by decide +kernel) (by decide) ⟨by omega, by omega⟩ ⟨by omega, by omega⟩ (fun (h4 : mo ≤ Xg1_l4) => ?_) (fun (h4 : ¬ (mo ≤ Xg1_l4)) => ?_)
      · refine sv_go C.1 C.2.1 [(.iload_n 3, 1)] (pc' := 29) (by decide +kernel) rfl (lv' := [(0, sv_i y), (1, sv_i mo), (3, sv_i Xg1_l3), (4, sv_i Xg1_l4)]) (st' := [sv_i Xg1_l3]) rfl ?_
        exact sv_iret C hr (by decide +kernel) hok (⟨rfl, ⟨_, rfl, ⟨by omega, by omega⟩, fun _ _ => (by omega)⟩⟩)
      · refine sv_go C.1 C.2.1 [(.iload_n 3, 1), (.iload_n 0, 1), (.iload 4, 2)] (pc' := 17) (by decide +kernel) rfl (lv' := [(0, sv_i y), (1, sv_i mo), (3, sv_i Xg1_l3), (4, sv_i Xg1_l4)]) (st' := [sv_i Xg1_l4, sv_i y, sv_i Xg1_l3]) rfl ?_
        refine sv_cs C (index := 24) (k := 2) (rest := [sv_i Xg1_l3]) (by decide +kernel) (ct_X11_monthDays l g A ty σ hok (y) ⟨by omega, by omega⟩ (Xg1_l4) ⟨by omega, by omega⟩) ⟨co_X11_monthDays, in_X11, ⟨by decide, by decide, by decide +kernel⟩, Nat.le_of_ble_eq_true rfl, Nat.le_of_ble_eq_true rfl⟩ ml_X11_24 st_X11_monthDays rfl rfl (Nat.le_of_ble_eq_true rfl) ⟨Nat.zero_le _, Nat.zero_le _⟩ (fun r6 σ7 hpo5 hok8 => ?_)
        obtain ⟨rfl, rfl⟩ := hpo5
        have hn10 := dy_md_in y Xg1_l4
        refine sv_same (st2 := [sv_i (dy_md y Xg1_l4), sv_i Xg1_l3]) (lv2 := [(0, sv_i y), (1, sv_i mo), (3, sv_i Xg1_l3), (4, sv_i Xg1_l4)]) rfl rfl ?_
        refine sv_go C.1 C.2.1 [(.iadd, 1), (.istore_n 3, 1), (.iinc 4 1, 3)] (pc' := 25) (by decide +kernel) rfl (lv' := [(0, sv_i y), (1, sv_i mo), (3, sv_i (Xg1_l3 + (dy_md y Xg1_l4))), (4, sv_i (Xg1_l4 + 1))]) (st' := []) rfl ?_
        refine sv_goto C.1 C.2.1 (off := (-18)) (tgt := 7) (by decide +kernel) (by decide) ?_
        exact ih3 (Xg1_l3 + (dy_md y Xg1_l4)) (Xg1_l4 + 1) ⟨by omega, by omega⟩ ⟨by omega, by omega⟩ (by omega) (by omega) (by omega)
  refine sv_pick [0, 1, 3, 4] (lv2 := [(0, sv_i y), (1, sv_i mo), (3, sv_i (d - 1)), (4, sv_i 1)]) rfl ?_
  exact L2 (((2798 - (d - 1) : Int)).toNat + 1) (d - 1) 1 ⟨by omega, by omega⟩ ⟨by omega, by omega⟩ (by omega) (by omega) (by omega)

theorem ml_X11_34 : Cond.methodLink RX11 34 yX11_easterOf ∈ lw_good := sv_mem 1010 (by decide +kernel) rfl
theorem co_X11_easterOf : Cond.code yX11_easterOf cX11_easterOf 2 (some .int) ∈ lw_good := sv_mem 1012 (by decide +kernel) rfl
theorem st_X11_easterOf : Cond.static yX11_easterOf ∈ lw_good := sv_mem 1011 (by decide +kernel) rfl
set_option maxHeartbeats 4000000 in
set_option maxRecDepth 100000 in
theorem sf_X11_easter (l : Launch) (g : sv_G) (A : Nat → Prop) (ty : Nat → Nat) (σ : Nat → Nat → Int) (hok : sv_ok ty σ) (hTA : ∀ q, ty q ≠ 0 → A q) (hI : sv_inv sp_1 ty σ) (a : Nat) (k_a : ty a = 10) (ar1 : Int) (h_ar1 : (-2147483648) ≤ ar1 ∧ ar1 ≤ 2147483647) : sv_M l yX11_easter cX11_easter 2 (some .int) { frames := 4, cells := 0, slots := 0, locals := 86 } g A ty σ [sv_r a, sv_i ar1] (fun r σ' => σ = σ' ∧ ∃ rv : Int, r = [sv_i rv] ∧ ((-2) ≤ rv ∧ rv ≤ 120)) := by
  refine sv_enter (by decide) (Nat.le_of_ble_eq_true rfl) ?_
  intro p e s m args below meth c C hr
  have C : sv_C g A RX11 cX11_easter 2 p s m args meth c := C
  have hr : meth.sig.returnType = (some .int) := hr
  have hF : sv_ofx [] [] ty σ σ := sv_ofx.rf
  refine sv_same (st2 := []) (lv2 := [(0, sv_r a), (1, sv_i ar1)]) rfl rfl ?_
  refine sv_go C.1 C.2.1 [(.iload_n 1, 1)] (pc' := 1) (by decide +kernel) rfl (lv' := [(0, sv_r a), (1, sv_i ar1)]) (st' := [sv_i ar1]) rfl ?_
  refine sv_cs C (index := 13) (k := 1) (rest := []) (by decide +kernel) (ct_X11_isYear l g A ty σ hok (ar1) ⟨by omega, by omega⟩) ⟨co_X11_isYear, in_X11, ⟨by decide, by decide, by decide +kernel⟩, Nat.le_of_ble_eq_true rfl, Nat.le_of_ble_eq_true rfl⟩ ml_X11_13 st_X11_isYear rfl rfl (Nat.le_of_ble_eq_true rfl) ⟨Nat.zero_le _, Nat.zero_le _⟩ (fun r2 σ3 hpo1 hok4 => ?_)
  obtain ⟨rfl, ⟨h5, rfl⟩ | ⟨h5, rfl⟩⟩ := hpo1
  · refine sv_same (st2 := [sv_i 1]) (lv2 := [(0, sv_r a), (1, sv_i ar1)]) rfl rfl ?_
    refine sv_if_f C.1 C.2.1 (cnd := .eq) (off := 10) (tgt := 14) (by decide +kernel) (by decide) ⟨by omega, by omega⟩ (show ¬ (1 = 0) by omega) ?_
    refine sv_go C.1 C.2.1 [(.iload_n 1, 1)] (pc' := 8) (by decide +kernel) rfl (lv' := [(0, sv_r a), (1, sv_i ar1)]) (st' := [sv_i ar1]) rfl ?_
    refine sv_cs C (index := 34) (k := 1) (rest := []) (by decide +kernel) (ct_X11_easterOf l g A ty σ hok4 (ar1) ⟨by omega, by omega⟩) ⟨co_X11_easterOf, in_X11, ⟨by decide, by decide, by decide +kernel⟩, Nat.le_of_ble_eq_true rfl, Nat.le_of_ble_eq_true rfl⟩ ml_X11_34 st_X11_easterOf rfl rfl (Nat.le_of_ble_eq_true rfl) ⟨Nat.zero_le _, Nat.zero_le _⟩ (fun r7 σ8 hpo6 hok9 => ?_)
    obtain ⟨rfl, rfl⟩ := hpo6
    have hn11 := dy_ea_in ar1
    refine sv_same (st2 := [sv_i (dy_ea ar1)]) (lv2 := [(0, sv_r a), (1, sv_i ar1)]) rfl rfl ?_
    refine sv_goto C.1 C.2.1 (off := 5) (tgt := 16) (by decide +kernel) (by decide) ?_
    exact sv_iret C hr (by decide +kernel) hok9 (⟨rfl, ⟨_, rfl, ⟨by omega, by omega⟩⟩⟩)
  · refine sv_same (st2 := [sv_i 0]) (lv2 := [(0, sv_r a), (1, sv_i ar1)]) rfl rfl ?_
    refine sv_if_t C.1 C.2.1 (cnd := .eq) (off := 10) (tgt := 14) (by decide +kernel) (by decide) ⟨by omega, by omega⟩ (show 0 = 0 by omega) ?_
    refine sv_go C.1 C.2.1 [(.bipush (-2), 2)] (pc' := 16) (by decide +kernel) rfl (lv' := [(0, sv_r a), (1, sv_i ar1)]) (st' := [sv_i ((-2))]) rfl ?_
    exact sv_iret C hr (by decide +kernel) hok4 (⟨rfl, ⟨_, rfl, ⟨by omega, by omega⟩⟩⟩)

theorem ml_X11_37 : Cond.methodLink RX11 37 yX11_isDay ∈ lw_good := sv_mem 1032 (by decide +kernel) rfl
theorem co_X11_isDay : Cond.code yX11_isDay cX11_isDay 2 (some .boolean) ∈ lw_good := sv_mem 1034 (by decide +kernel) rfl
theorem st_X11_isDay : Cond.static yX11_isDay ∈ lw_good := sv_mem 1033 (by decide +kernel) rfl
set_option maxHeartbeats 4000000 in
set_option maxRecDepth 100000 in
theorem sf_X11_date (l : Launch) (g : sv_G) (A : Nat → Prop) (ty : Nat → Nat) (σ : Nat → Nat → Int) (hok : sv_ok ty σ) (hTA : ∀ q, ty q ≠ 0 → A q) (hI : sv_inv sp_1 ty σ) (a : Nat) (k_a : ty a = 10) (ar1 : Int) (h_ar1 : (-2147483648) ≤ ar1 ∧ ar1 ≤ 2147483647) (ar2 : Int) (h_ar2 : (-2147483648) ≤ ar2 ∧ ar2 ≤ 2147483647) (ar3 : Int) (h_ar3 : (-2147483648) ≤ ar3 ∧ ar3 ≤ 2147483647) : sv_M l yX11_date cX11_date 6 (some .int) { frames := 3, cells := 0, slots := 0, locals := 66 } g A ty σ [sv_r a, sv_i ar1, sv_i ar2, sv_i ar3] (fun r σ' => σ = σ' ∧ ∃ rv : Int, r = [sv_i rv] ∧ ((-2147483648) ≤ rv ∧ rv ≤ 2147483647)) := by
  refine sv_enter (by decide) (Nat.le_of_ble_eq_true rfl) ?_
  intro p e s m args below meth c C hr
  have C : sv_C g A RX11 cX11_date 6 p s m args meth c := C
  have hr : meth.sig.returnType = (some .int) := hr
  have hF : sv_ofx [] [] ty σ σ := sv_ofx.rf
  refine sv_same (st2 := []) (lv2 := [(0, sv_r a), (1, sv_i ar1), (2, sv_i ar2), (3, sv_i ar3)]) rfl rfl ?_
  refine sv_go C.1 C.2.1 [(.iload_n 1, 1), (.iload_n 2, 1)] (pc' := 2) (by decide +kernel) rfl (lv' := [(0, sv_r a), (1, sv_i ar1), (2, sv_i ar2), (3, sv_i ar3)]) (st' := [sv_i ar2, sv_i ar1]) rfl ?_
  refine sv_cs C (index := 37) (k := 2) (rest := []) (by decide +kernel) (ct_X11_isDay l g A ty σ hok (ar1) ⟨by omega, by omega⟩ (ar2) ⟨by omega, by omega⟩) ⟨co_X11_isDay, in_X11, ⟨by decide, by decide, by decide +kernel⟩, Nat.le_of_ble_eq_true rfl, Nat.le_of_ble_eq_true rfl⟩ ml_X11_37 st_X11_isDay rfl rfl (Nat.le_of_ble_eq_true rfl) ⟨Nat.zero_le _, Nat.zero_le _⟩ (fun r2 σ3 hpo1 hok4 => ?_)
  obtain ⟨rfl, ⟨h5, rfl⟩ | ⟨h5, rfl⟩⟩ := hpo1
  · have hn6 := dy_lp_in ar1
    refine sv_same (st2 := [sv_i 1]) (lv2 := [(0, sv_r a), (1, sv_i ar1), (2, sv_i ar2), (3, sv_i ar3)]) rfl rfl ?_
    refine sv_if_t C.1 C.2.1 (cnd := .ne) (off := 5) (tgt := 10) (by decide +kernel) (by decide) ⟨by omega, by omega⟩ (show 1 ≠ 0 by omega) ?_
    refine sv_go C.1 C.2.1 [(.iconst 1, 1), (.istore 4, 2), (.iload_n 2, 1), (.istore 5, 2)] (pc' := 16) (by decide +kernel) rfl (lv' := [(0, sv_r a), (1, sv_i ar1), (2, sv_i ar2), (3, sv_i ar3), (4, sv_i 1), (5, sv_i ar2)]) (st' := []) rfl ?_
    have L8 : ∀ (n : Nat) (Xg7_l4 : Int) (Xg7_l5 : Int), ((-2147483648) ≤ Xg7_l4 ∧ Xg7_l4 ≤ 2147483647) → ((-3) ≤ Xg7_l5 ∧ Xg7_l5 ≤ 365) → (Xg7_l5 + 10) < (n : Int) → sv_E p l e { frames := 3, cells := 0, slots := 0, locals := 66 } s m args below meth c 6 g A ty (fun r σ' => σ = σ' ∧ ∃ rv : Int, r = [sv_i rv] ∧ ((-2147483648) ≤ rv ∧ rv ≤ 2147483647)) σ 16 [(1, sv_i ar1), (2, sv_i ar2), (3, sv_i ar3), (4, sv_i Xg7_l4), (5, sv_i Xg7_l5)] [] := by
      intro n
      induction n with
      | zero => intro Xg7_l4 Xg7_l5 hXg7_l4 hXg7_l5 hmu; exact absurd hmu (by omega)
      | succ n ih9 =>
        intro Xg7_l4 Xg7_l5 hXg7_l4 hXg7_l5 hmu
        refine sv_go C.1 C.2.1 [(.iload 5, 2), (.iload_n 1, 1), (.iload 4, 2)] (pc' := 21) (by decide +kernel) rfl (lv' := [(1, sv_i ar1), (2, sv_i ar2), (3, sv_i ar3), (4, sv_i Xg7_l4), (5, sv_i Xg7_l5)]) (st' := [sv_i Xg7_l4, sv_i ar1, sv_i Xg7_l5]) rfl ?_
        refine sv_cs C (index := 24) (k := 2) (rest := [sv_i Xg7_l5]) (by decide +kernel) (ct_X11_monthDays l g A ty σ hok4 (ar1) ⟨by omega, by omega⟩ (Xg7_l4) ⟨by omega, by omega⟩) ⟨co_X11_monthDays, in_X11, ⟨by decide, by decide, by decide +kernel⟩, Nat.le_of_ble_eq_true rfl, Nat.le_of_ble_eq_true rfl⟩ ml_X11_24 st_X11_monthDays rfl rfl (Nat.le_of_ble_eq_true rfl) ⟨Nat.zero_le _, Nat.zero_le _⟩ (fun r11 σ12 hpo10 hok13 => ?_)
        obtain ⟨rfl, rfl⟩ := hpo10
        have hn15 := dy_md_in ar1 Xg7_l4
        refine sv_same (st2 := [sv_i (dy_md ar1 Xg7_l4), sv_i Xg7_l5]) (lv2 := [(1, sv_i ar1), (2, sv_i ar2), (3, sv_i ar3), (4, sv_i Xg7_l4), (5, sv_i Xg7_l5)]) rfl rfl ?_
        refine sv_icmp C.1 C.2.1 (cnd := .lt) (off := 20) (tgt := 44) (by decide +kernel) (by decide) ⟨by omega, by omega⟩ ⟨by omega, by omega⟩ (fun (h16 : Xg7_l5 < (dy_md ar1 Xg7_l4)) => ?_) (fun (h16 : ¬ (Xg7_l5 < (dy_md ar1 Xg7_l4))) => ?_)
        · refine sv_go C.1 C.2.1 [(.iload_n 3, 1)] (pc' := 45) (by decide +kernel) rfl (lv' := [(1, sv_i ar1), (2, sv_i ar2), (3, sv_i ar3), (4, sv_i Xg7_l4), (5, sv_i Xg7_l5)]) (st' := [sv_i ar3]) rfl ?_
          refine sv_if C.1 C.2.1 (cnd := .ne) (off := 8) (tgt := 53) (by decide +kernel) (by decide) ⟨by omega, by omega⟩ (fun (h17 : ar3 ≠ 0) => ?_) (fun (h17 : ¬ (ar3 ≠ 0)) => ?_)
          · refine sv_go C.1 C.2.1 [(.iload_n 3, 1), (.iconst 1, 1)] (pc' := 55) (by decide +kernel) rfl (lv' := [(1, sv_i ar1), (2, sv_i ar2), (3, sv_i ar3), (4, sv_i Xg7_l4), (5, sv_i Xg7_l5)]) (st' := [sv_i 1, sv_i ar3]) rfl ?_
            refine sv_icmp C.1 C.2.1 (cnd := .ne) (off := 10) (tgt := 65) (by decide +kernel) (by decide) ⟨by omega, by omega⟩ ⟨by omega, by omega⟩ (fun (h18 : ar3 ≠ 1) => ?_) (fun (h18 : ¬ (ar3 ≠ 1)) => ?_)
            · refine sv_go C.1 C.2.1 [(.iload_n 3, 1), (.iconst 2, 1)] (pc' := 67) (by decide +kernel) rfl (lv' := [(1, sv_i ar1), (2, sv_i ar2), (3, sv_i ar3), (4, sv_i Xg7_l4), (5, sv_i Xg7_l5)]) (st' := [sv_i 2, sv_i ar3]) rfl ?_
              refine sv_icmp C.1 C.2.1 (cnd := .ne) (off := 11) (tgt := 78) (by decide +kernel) (by decide) ⟨by omega, by omega⟩ ⟨by omega, by omega⟩ (fun (h19 : ar3 ≠ 2) => ?_) (fun (h19 : ¬ (ar3 ≠ 2)) => ?_)
              · refine sv_go C.1 C.2.1 [(.iconst (-1), 1)] (pc' := 79) (by decide +kernel) rfl (lv' := [(1, sv_i ar1), (2, sv_i ar2), (3, sv_i ar3), (4, sv_i Xg7_l4), (5, sv_i Xg7_l5)]) (st' := [sv_i ((-1))]) rfl ?_
                exact sv_iret C hr (by decide +kernel) hok13 (⟨rfl, ⟨_, rfl, ⟨by omega, by omega⟩⟩⟩)
              · refine sv_go C.1 C.2.1 [(.iload_n 1, 1), (.iload_n 2, 1)] (pc' := 72) (by decide +kernel) rfl (lv' := [(1, sv_i ar1), (2, sv_i ar2), (3, sv_i ar3), (4, sv_i Xg7_l4), (5, sv_i Xg7_l5)]) (st' := [sv_i ar2, sv_i ar1]) rfl ?_
                refine sv_cs C (index := 31) (k := 2) (rest := []) (by decide +kernel) (ct_X11_weekday l g A ty σ hok13 (ar1) ⟨by omega, by omega⟩ (ar2) ⟨by omega, by omega⟩) ⟨co_X11_weekday, in_X11, ⟨by decide, by decide, by decide +kernel⟩, Nat.le_of_ble_eq_true rfl, Nat.le_of_ble_eq_true rfl⟩ ml_X11_31 st_X11_weekday rfl rfl (Nat.le_of_ble_eq_true rfl) ⟨Nat.zero_le _, Nat.zero_le _⟩ (fun r21 σ22 hpo20 hok23 => ?_)
                obtain ⟨rfl, rfl⟩ := hpo20
                have hn25 := dy_wd_in ar1 ar2
                refine sv_same (st2 := [sv_i (dy_wd ar1 ar2)]) (lv2 := [(1, sv_i ar1), (2, sv_i ar2), (3, sv_i ar3), (4, sv_i Xg7_l4), (5, sv_i Xg7_l5)]) rfl rfl ?_
                refine sv_goto C.1 C.2.1 (off := 4) (tgt := 79) (by decide +kernel) (by decide) ?_
                exact sv_iret C hr (by decide +kernel) hok23 (⟨rfl, ⟨_, rfl, ⟨by omega, by omega⟩⟩⟩)
            · refine sv_go C.1 C.2.1 [(.iload 5, 2), (.iconst 1, 1), (.iadd, 1)] (pc' := 62) (by decide +kernel) rfl (lv' := [(1, sv_i ar1), (2, sv_i ar2), (3, sv_i ar3), (4, sv_i Xg7_l4), (5, sv_i Xg7_l5)]) (st' := [sv_i (Xg7_l5 + 1)]) rfl ?_
              refine sv_goto C.1 C.2.1 (off := 17) (tgt := 79) (by decide +kernel) (by decide) ?_
              exact sv_iret C hr (by decide +kernel) hok13 (⟨rfl, ⟨_, rfl, ⟨by omega, by omega⟩⟩⟩)
          · refine sv_go C.1 C.2.1 [(.iload 4, 2)] (pc' := 50) (by decide +kernel) rfl (lv' := [(1, sv_i ar1), (2, sv_i ar2), (3, sv_i ar3), (4, sv_i Xg7_l4), (5, sv_i Xg7_l5)]) (st' := [sv_i Xg7_l4]) rfl ?_
            refine sv_goto C.1 C.2.1 (off := 29) (tgt := 79) (by decide +kernel) (by decide) ?_
            exact sv_iret C hr (by decide +kernel) hok13 (⟨rfl, ⟨_, rfl, ⟨by omega, by omega⟩⟩⟩)
        · refine sv_go C.1 C.2.1 [(.iload 5, 2), (.iload_n 1, 1), (.iload 4, 2)] (pc' := 32) (by decide +kernel) rfl (lv' := [(1, sv_i ar1), (2, sv_i ar2), (3, sv_i ar3), (4, sv_i Xg7_l4), (5, sv_i Xg7_l5)]) (st' := [sv_i Xg7_l4, sv_i ar1, sv_i Xg7_l5]) rfl ?_
          refine sv_cs C (index := 24) (k := 2) (rest := [sv_i Xg7_l5]) (by decide +kernel) (ct_X11_monthDays l g A ty σ hok13 (ar1) ⟨by omega, by omega⟩ (Xg7_l4) ⟨by omega, by omega⟩) ⟨co_X11_monthDays, in_X11, ⟨by decide, by decide, by decide +kernel⟩, Nat.le_of_ble_eq_true rfl, Nat.le_of_ble_eq_true rfl⟩ ml_X11_24 st_X11_monthDays rfl rfl (Nat.le_of_ble_eq_true rfl) ⟨Nat.zero_le _, Nat.zero_le _⟩ (fun r27 σ28 hpo26 hok29 => ?_)
          obtain ⟨rfl, rfl⟩ := hpo26
          have hn31 := dy_md_in ar1 Xg7_l4
          refine sv_same (st2 := [sv_i (dy_md ar1 Xg7_l4), sv_i Xg7_l5]) (lv2 := [(1, sv_i ar1), (2, sv_i ar2), (3, sv_i ar3), (4, sv_i Xg7_l4), (5, sv_i Xg7_l5)]) rfl rfl ?_
          refine sv_go C.1 C.2.1 [(.isub, 1), (.istore 5, 2), (.iinc 4 1, 3)] (pc' := 41) (by decide +kernel) rfl (lv' := [(1, sv_i ar1), (2, sv_i ar2), (3, sv_i ar3), (4, sv_i (Xg7_l4 + 1)), (5, sv_i (Xg7_l5 - (dy_md ar1 Xg7_l4)))]) (st' := []) rfl ?_
          refine sv_goto C.1 C.2.1 (off := (-25)) (tgt := 16) (by decide +kernel) (by decide) ?_
          obtain ⟨w32, hw32, ew32⟩ := sv_wr (Xg7_l4 + 1)
          refine sv_sameD (st2 := []) (lv2 := [(1, sv_i ar1), (2, sv_i ar2), (3, sv_i ar3), (4, sv_i w32), (5, sv_i (Xg7_l5 - (dy_md ar1 Xg7_l4)))]) (by simp only [List.map_cons, List.map_nil, sv_den_i, ew32]) (by simp only [sv_lm, List.map_cons, List.map_nil, sv_den_i, ew32]) ?_
          exact ih9 w32 (Xg7_l5 - (dy_md ar1 Xg7_l4)) ⟨by omega, by omega⟩ ⟨by omega, by omega⟩ (by omega)
    refine sv_pick [1, 2, 3, 4, 5] (lv2 := [(1, sv_i ar1), (2, sv_i ar2), (3, sv_i ar3), (4, sv_i 1), (5, sv_i ar2)]) rfl ?_
    exact L8 (((ar2 + 10 : Int)).toNat + 1) 1 ar2 ⟨by omega, by omega⟩ ⟨by omega, by omega⟩ (by omega)
  · have hn6 := dy_lp_in ar1
    refine sv_same (st2 := [sv_i 0]) (lv2 := [(0, sv_r a), (1, sv_i ar1), (2, sv_i ar2), (3, sv_i ar3)]) rfl rfl ?_
    refine sv_if_f C.1 C.2.1 (cnd := .ne) (off := 5) (tgt := 10) (by decide +kernel) (by decide) ⟨by omega, by omega⟩ (show ¬ (0 ≠ 0) by omega) ?_
    refine sv_go C.1 C.2.1 [(.iconst (-1), 1)] (pc' := 9) (by decide +kernel) rfl (lv' := [(0, sv_r a), (1, sv_i ar1), (2, sv_i ar2), (3, sv_i ar3)]) (st' := [sv_i ((-1))]) rfl ?_
    exact sv_iret C hr (by decide +kernel) hok4 (⟨rfl, ⟨_, rfl, ⟨by omega, by omega⟩⟩⟩)

theorem fl_X11_47 : Cond.fieldLink RX11 47 "SaintsRoadModel" "feasts" "[I" ∈ lw_good := sv_mem 1104 (by decide +kernel) rfl
theorem fl_X11_51 : Cond.fieldLink RX11 51 "SaintsRoadModel" "yieldRank" "[I" ∈ lw_good := sv_mem 1105 (by decide +kernel) rfl
theorem fl_X11_54 : Cond.fieldLink RX11 54 "SaintsRoadModel" "yieldTimes" "[I" ∈ lw_good := sv_mem 1106 (by decide +kernel) rfl
theorem fl_X11_57 : Cond.fieldLink RX11 57 "SaintsRoadModel" "lent" "[I" ∈ lw_good := sv_mem 1107 (by decide +kernel) rfl
theorem fl_X11_60 : Cond.fieldLink RX11 60 "SaintsRoadModel" "wax" "[I" ∈ lw_good := sv_mem 1108 (by decide +kernel) rfl
set_option maxHeartbeats 4000000 in
set_option maxRecDepth 100000 in
theorem sf_X11_clear (l : Launch) (g : sv_G) (A : Nat → Prop) (ty : Nat → Nat) (σ : Nat → Nat → Int) (hok : sv_ok ty σ) (hTA : ∀ q, ty q ≠ 0 → A q) (hI : sv_inv sp_1 ty σ) (a : Nat) (k_a : ty a = 10) (v : Int) (h_v : 0 ≤ v ∧ v ≤ 4) : sv_M l yX11_clear cX11_clear 3 none { frames := 0, cells := 0, slots := 0, locals := 0 } g A ty σ [sv_r a, sv_i v] (fun r σ' => (r = []) ∧ sv_inv sp_1 ty σ' ∧ sv_ofx [] [60, 61, 62, 63, 64] ty σ σ') := by
  refine sv_enter (by decide) (Nat.le_of_ble_eq_true rfl) ?_
  intro p e s m args below meth c C hr
  have C : sv_C g A RX11 cX11_clear 3 p s m args meth c := C
  have hr : meth.sig.returnType = none := hr
  have hF : sv_ofx [] [60, 61, 62, 63, 64] ty σ σ := sv_ofx.rf
  refine sv_same (st2 := []) (lv2 := [(0, sv_r a), (1, sv_i v)]) rfl rfl ?_
  refine sv_go C.1 C.2.1 [(.aload_n 0, 1)] (pc' := 1) (by decide +kernel) rfl (lv' := [(0, sv_r a), (1, sv_i v)]) (st' := [sv_r a]) rfl ?_
  obtain ⟨v1, ev1, kv1⟩ := hI.ref (k := 0) k_a rfl
  refine sv_gf C (index := 47) (ci := 10) (k := 0) (r := (RX11, TX11, 47)) (v := sv_r v1) (by decide +kernel) (by rw [k_a]; rfl) rfl (by decide) fl_X11_47 (congrArg sv_a ev1) ?_
  refine sv_go C.1 C.2.1 [(.iload_n 1, 1), (.iconst 0, 1)] (pc' := 6) (by decide +kernel) rfl (lv' := [(0, sv_r a), (1, sv_i v)]) (st' := [sv_i 0, sv_i v, sv_r v1]) rfl ?_
  refine sv_is C (n := 5) (by decide +kernel) (by rw [kv1]; rfl) (by decide) (by omega) (by omega) ⟨by omega, by omega⟩ (hTA _ (by rw [kv1]; decide)) hok (fun hok2 => ?_)
  have hI4 := hI.up (a := v1) (k := (v : Int).toNat) (z := 0) (by rw [kv1]; exact ⟨by omega, by omega⟩)
  have hF5 := hF.up (a := v1) (k := (v : Int).toNat) (z := 0) (Or.inl (by rw [kv1]; decide))
  generalize eσ3 : sv_up σ v1 (v : Int).toNat 0 = σ3 at hok2 hI4 hF5 ⊢
  have t6 : σ3 a 0 = (v1 : Int) + 1 := by rw [← eσ3, sv_up_a (sv_ne k_a kv1 (by decide))]; exact ev1
  have t7 : σ3 v1 (v : Int).toNat = 0 := by rw [← eσ3]; exact sv_up_s _ _ _ _
  refine sv_go C.1 C.2.1 [(.aload_n 0, 1)] (pc' := 8) (by decide +kernel) rfl (lv' := [(0, sv_r a), (1, sv_i v)]) (st' := [sv_r a]) rfl ?_
  obtain ⟨v8, ev8, kv8⟩ := hI4.ref (k := 1) k_a rfl
  refine sv_gf C (index := 51) (ci := 10) (k := 1) (r := (RX11, TX11, 47)) (v := sv_r v8) (by decide +kernel) (by rw [k_a]; rfl) rfl (by decide) fl_X11_51 (congrArg sv_a ev8) ?_
  refine sv_go C.1 C.2.1 [(.iload_n 1, 1), (.iconst 0, 1)] (pc' := 13) (by decide +kernel) rfl (lv' := [(0, sv_r a), (1, sv_i v)]) (st' := [sv_i 0, sv_i v, sv_r v8]) rfl ?_
  refine sv_is C (n := 5) (by decide +kernel) (by rw [kv8]; rfl) (by decide) (by omega) (by omega) ⟨by omega, by omega⟩ (hTA _ (by rw [kv8]; decide)) hok2 (fun hok9 => ?_)
  have hI11 := hI4.up (a := v8) (k := (v : Int).toNat) (z := 0) (by rw [kv8]; exact trivial)
  have hF12 := hF5.up (a := v8) (k := (v : Int).toNat) (z := 0) (Or.inl (by rw [kv8]; decide))
  generalize eσ10 : sv_up σ3 v8 (v : Int).toNat 0 = σ10 at hok9 hI11 hF12 ⊢
  have t13 : σ10 a 0 = (v1 : Int) + 1 := by rw [← eσ10, sv_up_a (sv_ne k_a kv8 (by decide))]; exact t6
  have t14 : σ10 v1 (v : Int).toNat = 0 := by rw [← eσ10, sv_up_a (sv_ne kv1 kv8 (by decide))]; exact t7
  have t15 : σ10 a 1 = (v8 : Int) + 1 := by rw [← eσ10, sv_up_a (sv_ne k_a kv8 (by decide))]; exact ev8
  have t16 : σ10 v8 (v : Int).toNat = 0 := by rw [← eσ10]; exact sv_up_s _ _ _ _
  refine sv_go C.1 C.2.1 [(.aload_n 0, 1)] (pc' := 15) (by decide +kernel) rfl (lv' := [(0, sv_r a), (1, sv_i v)]) (st' := [sv_r a]) rfl ?_
  obtain ⟨v17, ev17, kv17⟩ := hI11.ref (k := 2) k_a rfl
  refine sv_gf C (index := 54) (ci := 10) (k := 2) (r := (RX11, TX11, 47)) (v := sv_r v17) (by decide +kernel) (by rw [k_a]; rfl) rfl (by decide) fl_X11_54 (congrArg sv_a ev17) ?_
  refine sv_go C.1 C.2.1 [(.iload_n 1, 1), (.iconst 0, 1)] (pc' := 20) (by decide +kernel) rfl (lv' := [(0, sv_r a), (1, sv_i v)]) (st' := [sv_i 0, sv_i v, sv_r v17]) rfl ?_
  refine sv_is C (n := 5) (by decide +kernel) (by rw [kv17]; rfl) (by decide) (by omega) (by omega) ⟨by omega, by omega⟩ (hTA _ (by rw [kv17]; decide)) hok9 (fun hok18 => ?_)
  have hI20 := hI11.up (a := v17) (k := (v : Int).toNat) (z := 0) (by rw [kv17]; exact trivial)
  have hF21 := hF12.up (a := v17) (k := (v : Int).toNat) (z := 0) (Or.inl (by rw [kv17]; decide))
  generalize eσ19 : sv_up σ10 v17 (v : Int).toNat 0 = σ19 at hok18 hI20 hF21 ⊢
  have t22 : σ19 a 0 = (v1 : Int) + 1 := by rw [← eσ19, sv_up_a (sv_ne k_a kv17 (by decide))]; exact t13
  have t23 : σ19 v1 (v : Int).toNat = 0 := by rw [← eσ19, sv_up_a (sv_ne kv1 kv17 (by decide))]; exact t14
  have t24 : σ19 a 1 = (v8 : Int) + 1 := by rw [← eσ19, sv_up_a (sv_ne k_a kv17 (by decide))]; exact t15
  have t25 : σ19 v8 (v : Int).toNat = 0 := by rw [← eσ19, sv_up_a (sv_ne kv8 kv17 (by decide))]; exact t16
  have t26 : σ19 a 2 = (v17 : Int) + 1 := by rw [← eσ19, sv_up_a (sv_ne k_a kv17 (by decide))]; exact ev17
  have t27 : σ19 v17 (v : Int).toNat = 0 := by rw [← eσ19]; exact sv_up_s _ _ _ _
  refine sv_go C.1 C.2.1 [(.aload_n 0, 1)] (pc' := 22) (by decide +kernel) rfl (lv' := [(0, sv_r a), (1, sv_i v)]) (st' := [sv_r a]) rfl ?_
  obtain ⟨v28, ev28, kv28⟩ := hI20.ref (k := 3) k_a rfl
  refine sv_gf C (index := 57) (ci := 10) (k := 3) (r := (RX11, TX11, 47)) (v := sv_r v28) (by decide +kernel) (by rw [k_a]; rfl) rfl (by decide) fl_X11_57 (congrArg sv_a ev28) ?_
  refine sv_go C.1 C.2.1 [(.iload_n 1, 1), (.iconst 0, 1)] (pc' := 27) (by decide +kernel) rfl (lv' := [(0, sv_r a), (1, sv_i v)]) (st' := [sv_i 0, sv_i v, sv_r v28]) rfl ?_
  refine sv_is C (n := 5) (by decide +kernel) (by rw [kv28]; rfl) (by decide) (by omega) (by omega) ⟨by omega, by omega⟩ (hTA _ (by rw [kv28]; decide)) hok18 (fun hok29 => ?_)
  have hI31 := hI20.up (a := v28) (k := (v : Int).toNat) (z := 0) (by rw [kv28]; exact trivial)
  have hF32 := hF21.up (a := v28) (k := (v : Int).toNat) (z := 0) (Or.inl (by rw [kv28]; decide))
  generalize eσ30 : sv_up σ19 v28 (v : Int).toNat 0 = σ30 at hok29 hI31 hF32 ⊢
  have t33 : σ30 a 0 = (v1 : Int) + 1 := by rw [← eσ30, sv_up_a (sv_ne k_a kv28 (by decide))]; exact t22
  have t34 : σ30 v1 (v : Int).toNat = 0 := by rw [← eσ30, sv_up_a (sv_ne kv1 kv28 (by decide))]; exact t23
  have t35 : σ30 a 1 = (v8 : Int) + 1 := by rw [← eσ30, sv_up_a (sv_ne k_a kv28 (by decide))]; exact t24
  have t36 : σ30 v8 (v : Int).toNat = 0 := by rw [← eσ30, sv_up_a (sv_ne kv8 kv28 (by decide))]; exact t25
  have t37 : σ30 a 2 = (v17 : Int) + 1 := by rw [← eσ30, sv_up_a (sv_ne k_a kv28 (by decide))]; exact t26
  have t38 : σ30 v17 (v : Int).toNat = 0 := by rw [← eσ30, sv_up_a (sv_ne kv17 kv28 (by decide))]; exact t27
  have t39 : σ30 a 3 = (v28 : Int) + 1 := by rw [← eσ30, sv_up_a (sv_ne k_a kv28 (by decide))]; exact ev28
  have t40 : σ30 v28 (v : Int).toNat = 0 := by rw [← eσ30]; exact sv_up_s _ _ _ _
  refine sv_go C.1 C.2.1 [(.iconst 0, 1), (.istore_n 2, 1)] (pc' := 30) (by decide +kernel) rfl (lv' := [(0, sv_r a), (1, sv_i v), (2, sv_i 0)]) (st' := []) rfl ?_
  have L43 : ∀ (n : Nat) (Xg41_l2 : Int) (σ42 : Nat → Nat → Int), (0 ≤ Xg41_l2 ∧ Xg41_l2 ≤ 9) → (sv_ok ty σ42) → (sv_inv sp_1 ty σ42) → (sv_ofx [] [60, 61, 62, 63, 64] ty σ σ42) → (σ42 a 0 = (v1 : Int) + 1) → (σ42 v1 (v : Int).toNat = 0) → (σ42 a 1 = (v8 : Int) + 1) → (σ42 v8 (v : Int).toNat = 0) → (σ42 a 2 = (v17 : Int) + 1) → (σ42 v17 (v : Int).toNat = 0) → (σ42 a 3 = (v28 : Int) + 1) → (σ42 v28 (v : Int).toNat = 0) → (9 - Xg41_l2) < (n : Int) → sv_E p l e { frames := 0, cells := 0, slots := 0, locals := 0 } s m args below meth c 3 g A ty (fun r σ' => (r = []) ∧ sv_inv sp_1 ty σ' ∧ sv_ofx [] [60, 61, 62, 63, 64] ty σ σ') σ42 30 [(0, sv_r a), (1, sv_i v), (2, sv_i Xg41_l2)] [] := by
    intro n
    induction n with
    | zero => intro Xg41_l2 σ42 hXg41_l2 okσ42 Iσ42 Fσ42 eσ42_0 eσ42_1 eσ42_2 eσ42_3 eσ42_4 eσ42_5 eσ42_6 eσ42_7 hmu; exact absurd hmu (by omega)
    | succ n ih44 =>
      intro Xg41_l2 σ42 hXg41_l2 okσ42 Iσ42 Fσ42 eσ42_0 eσ42_1 eσ42_2 eσ42_3 eσ42_4 eσ42_5 eσ42_6 eσ42_7 hmu
      refine sv_go C.1 C.2.1 [(.iload_n 2, 1), (.bipush 9, 2)] (pc' := 33) (by decide +kernel) rfl (lv' := [(0, sv_r a), (1, sv_i v), (2, sv_i Xg41_l2)]) (st' := [sv_i 9, sv_i Xg41_l2]) rfl ?_
      refine sv_icmp C.1 C.2.1 (cnd := .ge) (off := 21) (tgt := 54) (by decide +kernel) (by decide) ⟨by omega, by omega⟩ ⟨by omega, by omega⟩ (fun (h45 : 9 ≤ Xg41_l2) => ?_) (fun (h45 : ¬ (9 ≤ Xg41_l2)) => ?_)
      · exact sv_vret C hr (by decide +kernel) okσ42 (⟨rfl, Iσ42, Fσ42⟩)
      · refine sv_go C.1 C.2.1 [(.aload_n 0, 1)] (pc' := 37) (by decide +kernel) rfl (lv' := [(0, sv_r a), (1, sv_i v), (2, sv_i Xg41_l2)]) (st' := [sv_r a]) rfl ?_
        obtain ⟨v46, ev46, kv46⟩ := Iσ42.ref (k := 4) k_a rfl
        refine sv_gf C (index := 60) (ci := 10) (k := 4) (r := (RX11, TX11, 47)) (v := sv_r v46) (by decide +kernel) (by rw [k_a]; rfl) rfl (by decide) fl_X11_60 (congrArg sv_a ev46) ?_
        refine sv_go C.1 C.2.1 [(.bipush 9, 2), (.iload_n 1, 1), (.imul, 1), (.iload_n 2, 1), (.iadd, 1), (.iconst 0, 1)] (pc' := 47) (by decide +kernel) rfl (lv' := [(0, sv_r a), (1, sv_i v), (2, sv_i Xg41_l2)]) (st' := [sv_i 0, sv_i ((9 * v) + Xg41_l2), sv_r v46]) rfl ?_
        refine sv_is C (n := 45) (by decide +kernel) (by rw [kv46]; rfl) (by decide) (by omega) (by omega) ⟨by omega, by omega⟩ (hTA _ (by rw [kv46]; decide)) okσ42 (fun hok47 => ?_)
        have hI49 := Iσ42.up (a := v46) (k := ((9 * v) + Xg41_l2 : Int).toNat) (z := 0) (by rw [kv46]; exact trivial)
        have hF50 := Fσ42.up (a := v46) (k := ((9 * v) + Xg41_l2 : Int).toNat) (z := 0) (Or.inl (by rw [kv46]; decide))
        generalize eσ48 : sv_up σ42 v46 ((9 * v) + Xg41_l2 : Int).toNat 0 = σ48 at hok47 hI49 hF50 ⊢
        have t51 : σ48 a 0 = (v1 : Int) + 1 := by rw [← eσ48, sv_up_a (sv_ne k_a kv46 (by decide))]; exact eσ42_0
        have t52 : σ48 v1 (v : Int).toNat = 0 := by rw [← eσ48, sv_up_a (sv_ne kv1 kv46 (by decide))]; exact eσ42_1
        have t53 : σ48 a 1 = (v8 : Int) + 1 := by rw [← eσ48, sv_up_a (sv_ne k_a kv46 (by decide))]; exact eσ42_2
        have t54 : σ48 v8 (v : Int).toNat = 0 := by rw [← eσ48, sv_up_a (sv_ne kv8 kv46 (by decide))]; exact eσ42_3
        have t55 : σ48 a 2 = (v17 : Int) + 1 := by rw [← eσ48, sv_up_a (sv_ne k_a kv46 (by decide))]; exact eσ42_4
        have t56 : σ48 v17 (v : Int).toNat = 0 := by rw [← eσ48, sv_up_a (sv_ne kv17 kv46 (by decide))]; exact eσ42_5
        have t57 : σ48 a 3 = (v28 : Int) + 1 := by rw [← eσ48, sv_up_a (sv_ne k_a kv46 (by decide))]; exact eσ42_6
        have t58 : σ48 v28 (v : Int).toNat = 0 := by rw [← eσ48, sv_up_a (sv_ne kv28 kv46 (by decide))]; exact eσ42_7
        have t59 : σ48 a 4 = (v46 : Int) + 1 := by rw [← eσ48, sv_up_a (sv_ne k_a kv46 (by decide))]; exact ev46
        have t60 : σ48 v46 ((9 * v) + Xg41_l2 : Int).toNat = 0 := by rw [← eσ48]; exact sv_up_s _ _ _ _
        refine sv_go C.1 C.2.1 [(.iinc 2 1, 3)] (pc' := 51) (by decide +kernel) rfl (lv' := [(0, sv_r a), (1, sv_i v), (2, sv_i (Xg41_l2 + 1))]) (st' := []) rfl ?_
        refine sv_goto C.1 C.2.1 (off := (-21)) (tgt := 30) (by decide +kernel) (by decide) ?_
        exact ih44 (Xg41_l2 + 1) σ48 ⟨by omega, by omega⟩ hok47 hI49 hF50 t51 t52 t53 t54 t55 t56 t57 t58 (by omega)
  exact L43 (((9 - 0 : Int)).toNat + 1) 0 σ30 ⟨by omega, by omega⟩ hok29 hI31 hF32 t33 t34 t35 t36 t37 t38 t39 t40 (by omega)

theorem ml_X11_166 : Cond.methodLink RX11 166 yX11_at ∈ lw_good := sv_mem 1320 (by decide +kernel) rfl
theorem co_X11_at : Cond.code yX11_at cX11_at 2 (some .int) ∈ lw_good := sv_mem 1322 (by decide +kernel) rfl
theorem st_X11_at : Cond.static yX11_at ∈ lw_good := sv_mem 1321 (by decide +kernel) rfl
theorem fl_X11_63 : Cond.fieldLink RX11 63 "SaintsRoadModel" "kind" "[I" ∈ lw_good := sv_mem 1109 (by decide +kernel) rfl
theorem fl_X11_66 : Cond.fieldLink RX11 66 "SaintsRoadModel" "one" "[I" ∈ lw_good := sv_mem 1110 (by decide +kernel) rfl
theorem fl_X11_69 : Cond.fieldLink RX11 69 "SaintsRoadModel" "two" "[I" ∈ lw_good := sv_mem 1111 (by decide +kernel) rfl
theorem fl_X11_72 : Cond.fieldLink RX11 72 "SaintsRoadModel" "rank" "[I" ∈ lw_good := sv_mem 1112 (by decide +kernel) rfl
theorem fl_X11_75 : Cond.fieldLink RX11 75 "SaintsRoadModel" "from" "[I" ∈ lw_good := sv_mem 1113 (by decide +kernel) rfl
theorem fl_X11_78 : Cond.fieldLink RX11 78 "SaintsRoadModel" "till" "[I" ∈ lw_good := sv_mem 1114 (by decide +kernel) rfl
theorem fl_X11_81 : Cond.fieldLink RX11 81 "SaintsRoadModel" "nameSize" "[I" ∈ lw_good := sv_mem 1115 (by decide +kernel) rfl
theorem fl_X11_84 : Cond.fieldLink RX11 84 "SaintsRoadModel" "vigil" "[Z" ∈ lw_good := sv_mem 1116 (by decide +kernel) rfl
theorem fl_X11_88 : Cond.fieldLink RX11 88 "SaintsRoadModel" "octave" "[Z" ∈ lw_good := sv_mem 1117 (by decide +kernel) rfl
theorem fl_X11_91 : Cond.fieldLink RX11 91 "SaintsRoadModel" "name" "[B" ∈ lw_good := sv_mem 1118 (by decide +kernel) rfl
set_option maxHeartbeats 4000000 in
set_option maxRecDepth 100000 in
theorem sf_X11_become (l : Launch) (g : sv_G) (A : Nat → Prop) (ty : Nat → Nat) (σ : Nat → Nat → Int) (hok : sv_ok ty σ) (hTA : ∀ q, ty q ≠ 0 → A q) (hI : sv_inv sp_1 ty σ) (a : Nat) (k_a : ty a = 10) (v : Int) (h_v : 0 ≤ v ∧ v ≤ 4) (w : Int) (h_w : 0 ≤ w ∧ w ≤ 4) : sv_M l yX11_become cX11_become 7 none { frames := 1, cells := 0, slots := 0, locals := 21 } g A ty σ [sv_r a, sv_i v, sv_i w] (fun r σ' => (r = []) ∧ sv_inv sp_1 ty σ' ∧ sv_ofx [] [60, 61, 62, 63, 64, 65, 66, 67, 68, 69, 70, 71, 72, 73, 74] ty σ σ') := by
  refine sv_enter (by decide) (Nat.le_of_ble_eq_true rfl) ?_
  intro p e s m args below meth c C hr
  have C : sv_C g A RX11 cX11_become 7 p s m args meth c := C
  have hr : meth.sig.returnType = none := hr
  have hF : sv_ofx [] [60, 61, 62, 63, 64, 65, 66, 67, 68, 69, 70, 71, 72, 73, 74] ty σ σ := sv_ofx.rf
  refine sv_same (st2 := []) (lv2 := [(0, sv_r a), (1, sv_i v), (2, sv_i w)]) rfl rfl ?_
  refine sv_go C.1 C.2.1 [(.aload_n 0, 1)] (pc' := 1) (by decide +kernel) rfl (lv' := [(0, sv_r a), (1, sv_i v), (2, sv_i w)]) (st' := [sv_r a]) rfl ?_
  obtain ⟨v1, ev1, kv1⟩ := hI.ref (k := 0) k_a rfl
  refine sv_gf C (index := 47) (ci := 10) (k := 0) (r := (RX11, TX11, 47)) (v := sv_r v1) (by decide +kernel) (by rw [k_a]; rfl) rfl (by decide) fl_X11_47 (congrArg sv_a ev1) ?_
  refine sv_go C.1 C.2.1 [(.iload_n 1, 1), (.aload_n 0, 1)] (pc' := 6) (by decide +kernel) rfl (lv' := [(0, sv_r a), (1, sv_i v), (2, sv_i w)]) (st' := [sv_r a, sv_i v, sv_r v1]) rfl ?_
  refine sv_gf C (index := 47) (ci := 10) (k := 0) (r := (RX11, TX11, 47)) (v := sv_r v1) (by decide +kernel) (by rw [k_a]; rfl) rfl (by decide) fl_X11_47 (congrArg sv_a ev1) ?_
  refine sv_go C.1 C.2.1 [(.iload_n 2, 1)] (pc' := 10) (by decide +kernel) rfl (lv' := [(0, sv_r a), (1, sv_i v), (2, sv_i w)]) (st' := [sv_i w, sv_r v1, sv_i v, sv_r v1]) rfl ?_
  refine sv_ia C (n := 5) (by decide +kernel) (by rw [kv1]; rfl) (by decide) (by omega) (by omega) ?_
  obtain ⟨v2, ev2, hv2⟩ := sv_rdn hI (k := (w : Int).toNat) kv1 rfl
  rw [ev2]
  refine sv_is C (n := 5) (by decide +kernel) (by rw [kv1]; rfl) (by decide) (by omega) (by omega) ⟨by omega, by omega⟩ (hTA _ (by rw [kv1]; decide)) hok (fun hok3 => ?_)
  have hI5 := hI.up (a := v1) (k := (v : Int).toNat) (z := v2) (by rw [kv1]; exact ⟨by omega, by omega⟩)
  have hF6 := hF.up (a := v1) (k := (v : Int).toNat) (z := v2) (Or.inl (by rw [kv1]; decide))
  generalize eσ4 : sv_up σ v1 (v : Int).toNat v2 = σ4 at hok3 hI5 hF6 ⊢
  have t7 : σ4 a 0 = (v1 : Int) + 1 := by rw [← eσ4, sv_up_a (sv_ne k_a kv1 (by decide))]; exact ev1
  have t9 : σ4 v1 (v : Int).toNat = v2 := by rw [← eσ4]; exact sv_up_s _ _ _ _
  refine sv_go C.1 C.2.1 [(.aload_n 0, 1)] (pc' := 13) (by decide +kernel) rfl (lv' := [(0, sv_r a), (1, sv_i v), (2, sv_i w)]) (st' := [sv_r a]) rfl ?_
  obtain ⟨v10, ev10, kv10⟩ := hI5.ref (k := 1) k_a rfl
  refine sv_gf C (index := 51) (ci := 10) (k := 1) (r := (RX11, TX11, 47)) (v := sv_r v10) (by decide +kernel) (by rw [k_a]; rfl) rfl (by decide) fl_X11_51 (congrArg sv_a ev10) ?_
  refine sv_go C.1 C.2.1 [(.iload_n 1, 1), (.aload_n 0, 1)] (pc' := 18) (by decide +kernel) rfl (lv' := [(0, sv_r a), (1, sv_i v), (2, sv_i w)]) (st' := [sv_r a, sv_i v, sv_r v10]) rfl ?_
  refine sv_gf C (index := 51) (ci := 10) (k := 1) (r := (RX11, TX11, 47)) (v := sv_r v10) (by decide +kernel) (by rw [k_a]; rfl) rfl (by decide) fl_X11_51 (congrArg sv_a ev10) ?_
  refine sv_go C.1 C.2.1 [(.iload_n 2, 1)] (pc' := 22) (by decide +kernel) rfl (lv' := [(0, sv_r a), (1, sv_i v), (2, sv_i w)]) (st' := [sv_i w, sv_r v10, sv_i v, sv_r v10]) rfl ?_
  refine sv_ia C (n := 5) (by decide +kernel) (by rw [kv10]; rfl) (by decide) (by omega) (by omega) ?_
  obtain ⟨v11, ev11, hv11⟩ := sv_rde hok3 (a := v10) (k := (w : Int).toNat) (n := 5) (by rw [kv10]; rfl) (by omega)
  rw [ev11]
  refine sv_is C (n := 5) (by decide +kernel) (by rw [kv10]; rfl) (by decide) (by omega) (by omega) ⟨by omega, by omega⟩ (hTA _ (by rw [kv10]; decide)) hok3 (fun hok12 => ?_)
  have hI14 := hI5.up (a := v10) (k := (v : Int).toNat) (z := v11) (by rw [kv10]; exact trivial)
  have hF15 := hF6.up (a := v10) (k := (v : Int).toNat) (z := v11) (Or.inl (by rw [kv10]; decide))
  generalize eσ13 : sv_up σ4 v10 (v : Int).toNat v11 = σ13 at hok12 hI14 hF15 ⊢
  have t16 : σ13 a 0 = (v1 : Int) + 1 := by rw [← eσ13, sv_up_a (sv_ne k_a kv10 (by decide))]; exact t7
  have t17 : σ13 v1 (v : Int).toNat = v2 := by rw [← eσ13, sv_up_a (sv_ne kv1 kv10 (by decide))]; exact t9
  have t18 : σ13 a 1 = (v10 : Int) + 1 := by rw [← eσ13, sv_up_a (sv_ne k_a kv10 (by decide))]; exact ev10
  have t20 : σ13 v10 (v : Int).toNat = v11 := by rw [← eσ13]; exact sv_up_s _ _ _ _
  refine sv_go C.1 C.2.1 [(.aload_n 0, 1)] (pc' := 25) (by decide +kernel) rfl (lv' := [(0, sv_r a), (1, sv_i v), (2, sv_i w)]) (st' := [sv_r a]) rfl ?_
  obtain ⟨v21, ev21, kv21⟩ := hI14.ref (k := 2) k_a rfl
  refine sv_gf C (index := 54) (ci := 10) (k := 2) (r := (RX11, TX11, 47)) (v := sv_r v21) (by decide +kernel) (by rw [k_a]; rfl) rfl (by decide) fl_X11_54 (congrArg sv_a ev21) ?_
  refine sv_go C.1 C.2.1 [(.iload_n 1, 1), (.aload_n 0, 1)] (pc' := 30) (by decide +kernel) rfl (lv' := [(0, sv_r a), (1, sv_i v), (2, sv_i w)]) (st' := [sv_r a, sv_i v, sv_r v21]) rfl ?_
  refine sv_gf C (index := 54) (ci := 10) (k := 2) (r := (RX11, TX11, 47)) (v := sv_r v21) (by decide +kernel) (by rw [k_a]; rfl) rfl (by decide) fl_X11_54 (congrArg sv_a ev21) ?_
  refine sv_go C.1 C.2.1 [(.iload_n 2, 1)] (pc' := 34) (by decide +kernel) rfl (lv' := [(0, sv_r a), (1, sv_i v), (2, sv_i w)]) (st' := [sv_i w, sv_r v21, sv_i v, sv_r v21]) rfl ?_
  refine sv_ia C (n := 5) (by decide +kernel) (by rw [kv21]; rfl) (by decide) (by omega) (by omega) ?_
  obtain ⟨v22, ev22, hv22⟩ := sv_rde hok12 (a := v21) (k := (w : Int).toNat) (n := 5) (by rw [kv21]; rfl) (by omega)
  rw [ev22]
  refine sv_is C (n := 5) (by decide +kernel) (by rw [kv21]; rfl) (by decide) (by omega) (by omega) ⟨by omega, by omega⟩ (hTA _ (by rw [kv21]; decide)) hok12 (fun hok23 => ?_)
  have hI25 := hI14.up (a := v21) (k := (v : Int).toNat) (z := v22) (by rw [kv21]; exact trivial)
  have hF26 := hF15.up (a := v21) (k := (v : Int).toNat) (z := v22) (Or.inl (by rw [kv21]; decide))
  generalize eσ24 : sv_up σ13 v21 (v : Int).toNat v22 = σ24 at hok23 hI25 hF26 ⊢
  have t27 : σ24 a 0 = (v1 : Int) + 1 := by rw [← eσ24, sv_up_a (sv_ne k_a kv21 (by decide))]; exact t16
  have t28 : σ24 v1 (v : Int).toNat = v2 := by rw [← eσ24, sv_up_a (sv_ne kv1 kv21 (by decide))]; exact t17
  have t29 : σ24 a 1 = (v10 : Int) + 1 := by rw [← eσ24, sv_up_a (sv_ne k_a kv21 (by decide))]; exact t18
  have t30 : σ24 v10 (v : Int).toNat = v11 := by rw [← eσ24, sv_up_a (sv_ne kv10 kv21 (by decide))]; exact t20
  have t31 : σ24 a 2 = (v21 : Int) + 1 := by rw [← eσ24, sv_up_a (sv_ne k_a kv21 (by decide))]; exact ev21
  have t33 : σ24 v21 (v : Int).toNat = v22 := by rw [← eσ24]; exact sv_up_s _ _ _ _
  refine sv_go C.1 C.2.1 [(.aload_n 0, 1)] (pc' := 37) (by decide +kernel) rfl (lv' := [(0, sv_r a), (1, sv_i v), (2, sv_i w)]) (st' := [sv_r a]) rfl ?_
  obtain ⟨v34, ev34, kv34⟩ := hI25.ref (k := 3) k_a rfl
  refine sv_gf C (index := 57) (ci := 10) (k := 3) (r := (RX11, TX11, 47)) (v := sv_r v34) (by decide +kernel) (by rw [k_a]; rfl) rfl (by decide) fl_X11_57 (congrArg sv_a ev34) ?_
  refine sv_go C.1 C.2.1 [(.iload_n 1, 1), (.aload_n 0, 1)] (pc' := 42) (by decide +kernel) rfl (lv' := [(0, sv_r a), (1, sv_i v), (2, sv_i w)]) (st' := [sv_r a, sv_i v, sv_r v34]) rfl ?_
  refine sv_gf C (index := 57) (ci := 10) (k := 3) (r := (RX11, TX11, 47)) (v := sv_r v34) (by decide +kernel) (by rw [k_a]; rfl) rfl (by decide) fl_X11_57 (congrArg sv_a ev34) ?_
  refine sv_go C.1 C.2.1 [(.iload_n 2, 1)] (pc' := 46) (by decide +kernel) rfl (lv' := [(0, sv_r a), (1, sv_i v), (2, sv_i w)]) (st' := [sv_i w, sv_r v34, sv_i v, sv_r v34]) rfl ?_
  refine sv_ia C (n := 5) (by decide +kernel) (by rw [kv34]; rfl) (by decide) (by omega) (by omega) ?_
  obtain ⟨v35, ev35, hv35⟩ := sv_rde hok23 (a := v34) (k := (w : Int).toNat) (n := 5) (by rw [kv34]; rfl) (by omega)
  rw [ev35]
  refine sv_is C (n := 5) (by decide +kernel) (by rw [kv34]; rfl) (by decide) (by omega) (by omega) ⟨by omega, by omega⟩ (hTA _ (by rw [kv34]; decide)) hok23 (fun hok36 => ?_)
  have hI38 := hI25.up (a := v34) (k := (v : Int).toNat) (z := v35) (by rw [kv34]; exact trivial)
  have hF39 := hF26.up (a := v34) (k := (v : Int).toNat) (z := v35) (Or.inl (by rw [kv34]; decide))
  generalize eσ37 : sv_up σ24 v34 (v : Int).toNat v35 = σ37 at hok36 hI38 hF39 ⊢
  have t40 : σ37 a 0 = (v1 : Int) + 1 := by rw [← eσ37, sv_up_a (sv_ne k_a kv34 (by decide))]; exact t27
  have t41 : σ37 v1 (v : Int).toNat = v2 := by rw [← eσ37, sv_up_a (sv_ne kv1 kv34 (by decide))]; exact t28
  have t42 : σ37 a 1 = (v10 : Int) + 1 := by rw [← eσ37, sv_up_a (sv_ne k_a kv34 (by decide))]; exact t29
  have t43 : σ37 v10 (v : Int).toNat = v11 := by rw [← eσ37, sv_up_a (sv_ne kv10 kv34 (by decide))]; exact t30
  have t44 : σ37 a 2 = (v21 : Int) + 1 := by rw [← eσ37, sv_up_a (sv_ne k_a kv34 (by decide))]; exact t31
  have t45 : σ37 v21 (v : Int).toNat = v22 := by rw [← eσ37, sv_up_a (sv_ne kv21 kv34 (by decide))]; exact t33
  have t46 : σ37 a 3 = (v34 : Int) + 1 := by rw [← eσ37, sv_up_a (sv_ne k_a kv34 (by decide))]; exact ev34
  have t48 : σ37 v34 (v : Int).toNat = v35 := by rw [← eσ37]; exact sv_up_s _ _ _ _
  refine sv_go C.1 C.2.1 [(.iconst 0, 1), (.istore_n 3, 1)] (pc' := 50) (by decide +kernel) rfl (lv' := [(0, sv_r a), (1, sv_i v), (2, sv_i w), (3, sv_i 0)]) (st' := []) rfl ?_
  have L51 : ∀ (n : Nat) (Xg49_l3 : Int) (σ50 : Nat → Nat → Int), (0 ≤ Xg49_l3 ∧ Xg49_l3 ≤ 9) → (sv_ok ty σ50) → (sv_inv sp_1 ty σ50) → (sv_ofx [] [60, 61, 62, 63, 64, 65, 66, 67, 68, 69, 70, 71, 72, 73, 74] ty σ σ50) → (σ50 a 0 = (v1 : Int) + 1) → (σ50 v1 (v : Int).toNat = v2) → (σ50 a 1 = (v10 : Int) + 1) → (σ50 v10 (v : Int).toNat = v11) → (σ50 a 2 = (v21 : Int) + 1) → (σ50 v21 (v : Int).toNat = v22) → (σ50 a 3 = (v34 : Int) + 1) → (σ50 v34 (v : Int).toNat = v35) → (9 - Xg49_l3) < (n : Int) → sv_E p l e { frames := 1, cells := 0, slots := 0, locals := 21 } s m args below meth c 7 g A ty (fun r σ' => (r = []) ∧ sv_inv sp_1 ty σ' ∧ sv_ofx [] [60, 61, 62, 63, 64, 65, 66, 67, 68, 69, 70, 71, 72, 73, 74] ty σ σ') σ50 50 [(0, sv_r a), (1, sv_i v), (2, sv_i w), (3, sv_i Xg49_l3)] [] := by
    intro n
    induction n with
    | zero => intro Xg49_l3 σ50 hXg49_l3 okσ50 Iσ50 Fσ50 eσ50_0 eσ50_1 eσ50_2 eσ50_3 eσ50_4 eσ50_5 eσ50_6 eσ50_7 hmu; exact absurd hmu (by omega)
    | succ n ih52 =>
      intro Xg49_l3 σ50 hXg49_l3 okσ50 Iσ50 Fσ50 eσ50_0 eσ50_1 eσ50_2 eσ50_3 eσ50_4 eσ50_5 eσ50_6 eσ50_7 hmu
      refine sv_go C.1 C.2.1 [(.iload_n 3, 1), (.bipush 9, 2)] (pc' := 53) (by decide +kernel) rfl (lv' := [(0, sv_r a), (1, sv_i v), (2, sv_i w), (3, sv_i Xg49_l3)]) (st' := [sv_i 9, sv_i Xg49_l3]) rfl ?_
      refine sv_icmp C.1 C.2.1 (cnd := .ge) (off := 31) (tgt := 84) (by decide +kernel) (by decide) ⟨by omega, by omega⟩ ⟨by omega, by omega⟩ (fun (h53 : 9 ≤ Xg49_l3) => ?_) (fun (h53 : ¬ (9 ≤ Xg49_l3)) => ?_)
      · refine sv_go C.1 C.2.1 [(.iconst 0, 1), (.istore_n 3, 1)] (pc' := 86) (by decide +kernel) rfl (lv' := [(0, sv_r a), (1, sv_i v), (2, sv_i w), (3, sv_i 0)]) (st' := []) rfl ?_
        have L56 : ∀ (n : Nat) (Xg54_l3 : Int) (σ55 : Nat → Nat → Int), (0 ≤ Xg54_l3 ∧ Xg54_l3 ≤ 60) → (sv_ok ty σ55) → (sv_inv sp_1 ty σ55) → (sv_ofx [] [60, 61, 62, 63, 64, 65, 66, 67, 68, 69, 70, 71, 72, 73, 74] ty σ σ55) → (σ55 a 0 = (v1 : Int) + 1) → (σ55 v1 (v : Int).toNat = v2) → (σ55 a 1 = (v10 : Int) + 1) → (σ55 v10 (v : Int).toNat = v11) → (σ55 a 2 = (v21 : Int) + 1) → (σ55 v21 (v : Int).toNat = v22) → (σ55 a 3 = (v34 : Int) + 1) → (σ55 v34 (v : Int).toNat = v35) → (60 - Xg54_l3) < (n : Int) → sv_E p l e { frames := 1, cells := 0, slots := 0, locals := 21 } s m args below meth c 7 g A ty (fun r σ' => (r = []) ∧ sv_inv sp_1 ty σ' ∧ sv_ofx [] [60, 61, 62, 63, 64, 65, 66, 67, 68, 69, 70, 71, 72, 73, 74] ty σ σ') σ55 86 [(0, sv_r a), (1, sv_i v), (2, sv_i w), (3, sv_i Xg54_l3)] [] := by
          intro n
          induction n with
          | zero => intro Xg54_l3 σ55 hXg54_l3 okσ55 Iσ55 Fσ55 eσ55_0 eσ55_1 eσ55_2 eσ55_3 eσ55_4 eσ55_5 eσ55_6 eσ55_7 hmu; exact absurd hmu (by omega)
          | succ n ih57 =>
            intro Xg54_l3 σ55 hXg54_l3 okσ55 Iσ55 Fσ55 eσ55_0 eσ55_1 eσ55_2 eσ55_3 eσ55_4 eσ55_5 eσ55_6 eσ55_7 hmu
            refine sv_go C.1 C.2.1 [(.iload_n 3, 1), (.aload_n 0, 1)] (pc' := 88) (by decide +kernel) rfl (lv' := [(0, sv_r a), (1, sv_i v), (2, sv_i w), (3, sv_i Xg54_l3)]) (st' := [sv_r a, sv_i Xg54_l3]) rfl ?_
            refine sv_gf C (index := 47) (ci := 10) (k := 0) (r := (RX11, TX11, 47)) (v := sv_r v1) (by decide +kernel) (by rw [k_a]; rfl) rfl (by decide) fl_X11_47 (congrArg sv_a eσ55_0) ?_
            refine sv_go C.1 C.2.1 [(.iload_n 2, 1)] (pc' := 92) (by decide +kernel) rfl (lv' := [(0, sv_r a), (1, sv_i v), (2, sv_i w), (3, sv_i Xg54_l3)]) (st' := [sv_i w, sv_r v1, sv_i Xg54_l3]) rfl ?_
            refine sv_ia C (n := 5) (by decide +kernel) (by rw [kv1]; rfl) (by decide) (by omega) (by omega) ?_
            obtain ⟨v58, ev58, hv58⟩ := sv_rdn Iσ55 (k := (w : Int).toNat) kv1 rfl
            rw [ev58]
            refine sv_icmp C.1 C.2.1 (cnd := .ge) (off := 191) (tgt := 284) (by decide +kernel) (by decide) ⟨by omega, by omega⟩ ⟨by omega, by omega⟩ (fun (h59 : v58 ≤ Xg54_l3) => ?_) (fun (h59 : ¬ (v58 ≤ Xg54_l3)) => ?_)
            · exact sv_vret C hr (by decide +kernel) okσ55 (⟨rfl, Iσ55, Fσ55⟩)
            · refine sv_go C.1 C.2.1 [(.iload_n 1, 1), (.iload_n 3, 1)] (pc' := 98) (by decide +kernel) rfl (lv' := [(0, sv_r a), (1, sv_i v), (2, sv_i w), (3, sv_i Xg54_l3)]) (st' := [sv_i Xg54_l3, sv_i v]) rfl ?_
              refine sv_cs C (index := 166) (k := 2) (rest := []) (by decide +kernel) (sf_X11_at l g A ty σ55 okσ55 hTA Iσ55 (v) ⟨by omega, by omega⟩ (Xg54_l3) ⟨by omega, by omega⟩) ⟨co_X11_at, in_X11, ⟨by decide, by decide, by decide +kernel⟩, Nat.le_of_ble_eq_true rfl, Nat.le_of_ble_eq_true rfl⟩ ml_X11_166 st_X11_at rfl rfl (Nat.le_of_ble_eq_true rfl) ⟨Nat.zero_le _, Nat.zero_le _⟩ (fun r61 σ62 hpo60 hok63 => ?_)
              obtain ⟨rfl, ⟨vu64, rfl, hvu64⟩⟩ := hpo60
              refine sv_same (st2 := [sv_i vu64]) (lv2 := [(0, sv_r a), (1, sv_i v), (2, sv_i w), (3, sv_i Xg54_l3)]) rfl rfl ?_
              refine sv_go C.1 C.2.1 [(.istore 4, 2), (.iload_n 2, 1), (.iload_n 3, 1)] (pc' := 105) (by decide +kernel) rfl (lv' := [(0, sv_r a), (1, sv_i v), (2, sv_i w), (3, sv_i Xg54_l3), (4, sv_i vu64)]) (st' := [sv_i Xg54_l3, sv_i w]) rfl ?_
              refine sv_cs C (index := 166) (k := 2) (rest := []) (by decide +kernel) (sf_X11_at l g A ty σ55 hok63 hTA Iσ55 (w) ⟨by omega, by omega⟩ (Xg54_l3) ⟨by omega, by omega⟩) ⟨co_X11_at, in_X11, ⟨by decide, by decide, by decide +kernel⟩, Nat.le_of_ble_eq_true rfl, Nat.le_of_ble_eq_true rfl⟩ ml_X11_166 st_X11_at rfl rfl (Nat.le_of_ble_eq_true rfl) ⟨Nat.zero_le _, Nat.zero_le _⟩ (fun r66 σ67 hpo65 hok68 => ?_)
              obtain ⟨rfl, ⟨vu69, rfl, hvu69⟩⟩ := hpo65
              refine sv_same (st2 := [sv_i vu69]) (lv2 := [(0, sv_r a), (1, sv_i v), (2, sv_i w), (3, sv_i Xg54_l3), (4, sv_i vu64)]) rfl rfl ?_
              refine sv_go C.1 C.2.1 [(.istore 5, 2), (.aload_n 0, 1)] (pc' := 111) (by decide +kernel) rfl (lv' := [(0, sv_r a), (1, sv_i v), (2, sv_i w), (3, sv_i Xg54_l3), (4, sv_i vu64), (5, sv_i vu69)]) (st' := [sv_r a]) rfl ?_
              obtain ⟨v70, ev70, kv70⟩ := Iσ55.ref (k := 5) k_a rfl
              refine sv_gf C (index := 63) (ci := 10) (k := 5) (r := (RX11, TX11, 47)) (v := sv_r v70) (by decide +kernel) (by rw [k_a]; rfl) rfl (by decide) fl_X11_63 (congrArg sv_a ev70) ?_
              refine sv_go C.1 C.2.1 [(.iload 4, 2), (.aload_n 0, 1)] (pc' := 117) (by decide +kernel) rfl (lv' := [(0, sv_r a), (1, sv_i v), (2, sv_i w), (3, sv_i Xg54_l3), (4, sv_i vu64), (5, sv_i vu69)]) (st' := [sv_r a, sv_i vu64, sv_r v70]) rfl ?_
              refine sv_gf C (index := 63) (ci := 10) (k := 5) (r := (RX11, TX11, 47)) (v := sv_r v70) (by decide +kernel) (by rw [k_a]; rfl) rfl (by decide) fl_X11_63 (congrArg sv_a ev70) ?_
              refine sv_go C.1 C.2.1 [(.iload 5, 2)] (pc' := 122) (by decide +kernel) rfl (lv' := [(0, sv_r a), (1, sv_i v), (2, sv_i w), (3, sv_i Xg54_l3), (4, sv_i vu64), (5, sv_i vu69)]) (st' := [sv_i vu69, sv_r v70, sv_i vu64, sv_r v70]) rfl ?_
              refine sv_ia C (n := 300) (by decide +kernel) (by rw [kv70]; rfl) (by decide) (by omega) (by omega) ?_
              obtain ⟨v71, ev71, hv71⟩ := sv_rde hok68 (a := v70) (k := (vu69 : Int).toNat) (n := 300) (by rw [kv70]; rfl) (by omega)
              rw [ev71]
              refine sv_is C (n := 300) (by decide +kernel) (by rw [kv70]; rfl) (by decide) (by omega) (by omega) ⟨by omega, by omega⟩ (hTA _ (by rw [kv70]; decide)) hok68 (fun hok72 => ?_)
              have hI74 := Iσ55.up (a := v70) (k := (vu64 : Int).toNat) (z := v71) (by rw [kv70]; exact trivial)
              have hF75 := Fσ55.up (a := v70) (k := (vu64 : Int).toNat) (z := v71) (Or.inl (by rw [kv70]; decide))
              generalize eσ73 : sv_up σ55 v70 (vu64 : Int).toNat v71 = σ73 at hok72 hI74 hF75 ⊢
              have t76 : σ73 a 0 = (v1 : Int) + 1 := by rw [← eσ73, sv_up_a (sv_ne k_a kv70 (by decide))]; exact eσ55_0
              have t77 : σ73 v1 (v : Int).toNat = v2 := by rw [← eσ73, sv_up_a (sv_ne kv1 kv70 (by decide))]; exact eσ55_1
              have t78 : σ73 a 1 = (v10 : Int) + 1 := by rw [← eσ73, sv_up_a (sv_ne k_a kv70 (by decide))]; exact eσ55_2
              have t79 : σ73 v10 (v : Int).toNat = v11 := by rw [← eσ73, sv_up_a (sv_ne kv10 kv70 (by decide))]; exact eσ55_3
              have t80 : σ73 a 2 = (v21 : Int) + 1 := by rw [← eσ73, sv_up_a (sv_ne k_a kv70 (by decide))]; exact eσ55_4
              have t81 : σ73 v21 (v : Int).toNat = v22 := by rw [← eσ73, sv_up_a (sv_ne kv21 kv70 (by decide))]; exact eσ55_5
              have t82 : σ73 a 3 = (v34 : Int) + 1 := by rw [← eσ73, sv_up_a (sv_ne k_a kv70 (by decide))]; exact eσ55_6
              have t83 : σ73 v34 (v : Int).toNat = v35 := by rw [← eσ73, sv_up_a (sv_ne kv34 kv70 (by decide))]; exact eσ55_7
              have t84 : σ73 v1 (w : Int).toNat = v58 := by rw [← eσ73, sv_up_a (sv_ne kv1 kv70 (by decide))]; exact ev58
              have t85 : σ73 a 5 = (v70 : Int) + 1 := by rw [← eσ73, sv_up_a (sv_ne k_a kv70 (by decide))]; exact ev70
              have t87 : σ73 v70 (vu64 : Int).toNat = v71 := by rw [← eσ73]; exact sv_up_s _ _ _ _
              refine sv_go C.1 C.2.1 [(.aload_n 0, 1)] (pc' := 125) (by decide +kernel) rfl (lv' := [(0, sv_r a), (1, sv_i v), (2, sv_i w), (3, sv_i Xg54_l3), (4, sv_i vu64), (5, sv_i vu69)]) (st' := [sv_r a]) rfl ?_
              obtain ⟨v88, ev88, kv88⟩ := hI74.ref (k := 6) k_a rfl
              refine sv_gf C (index := 66) (ci := 10) (k := 6) (r := (RX11, TX11, 47)) (v := sv_r v88) (by decide +kernel) (by rw [k_a]; rfl) rfl (by decide) fl_X11_66 (congrArg sv_a ev88) ?_
              refine sv_go C.1 C.2.1 [(.iload 4, 2), (.aload_n 0, 1)] (pc' := 131) (by decide +kernel) rfl (lv' := [(0, sv_r a), (1, sv_i v), (2, sv_i w), (3, sv_i Xg54_l3), (4, sv_i vu64), (5, sv_i vu69)]) (st' := [sv_r a, sv_i vu64, sv_r v88]) rfl ?_
              refine sv_gf C (index := 66) (ci := 10) (k := 6) (r := (RX11, TX11, 47)) (v := sv_r v88) (by decide +kernel) (by rw [k_a]; rfl) rfl (by decide) fl_X11_66 (congrArg sv_a ev88) ?_
              refine sv_go C.1 C.2.1 [(.iload 5, 2)] (pc' := 136) (by decide +kernel) rfl (lv' := [(0, sv_r a), (1, sv_i v), (2, sv_i w), (3, sv_i Xg54_l3), (4, sv_i vu64), (5, sv_i vu69)]) (st' := [sv_i vu69, sv_r v88, sv_i vu64, sv_r v88]) rfl ?_
              refine sv_ia C (n := 300) (by decide +kernel) (by rw [kv88]; rfl) (by decide) (by omega) (by omega) ?_
              obtain ⟨v89, ev89, hv89⟩ := sv_rdn hI74 (k := (vu69 : Int).toNat) kv88 rfl
              rw [ev89]
              refine sv_is C (n := 300) (by decide +kernel) (by rw [kv88]; rfl) (by decide) (by omega) (by omega) ⟨by omega, by omega⟩ (hTA _ (by rw [kv88]; decide)) hok72 (fun hok90 => ?_)
              have hI92 := hI74.up (a := v88) (k := (vu64 : Int).toNat) (z := v89) (by rw [kv88]; exact ⟨by omega, by omega⟩)
              have hF93 := hF75.up (a := v88) (k := (vu64 : Int).toNat) (z := v89) (Or.inl (by rw [kv88]; decide))
              generalize eσ91 : sv_up σ73 v88 (vu64 : Int).toNat v89 = σ91 at hok90 hI92 hF93 ⊢
              have t94 : σ91 a 0 = (v1 : Int) + 1 := by rw [← eσ91, sv_up_a (sv_ne k_a kv88 (by decide))]; exact t76
              have t95 : σ91 v1 (v : Int).toNat = v2 := by rw [← eσ91, sv_up_a (sv_ne kv1 kv88 (by decide))]; exact t77
              have t96 : σ91 a 1 = (v10 : Int) + 1 := by rw [← eσ91, sv_up_a (sv_ne k_a kv88 (by decide))]; exact t78
              have t97 : σ91 v10 (v : Int).toNat = v11 := by rw [← eσ91, sv_up_a (sv_ne kv10 kv88 (by decide))]; exact t79
              have t98 : σ91 a 2 = (v21 : Int) + 1 := by rw [← eσ91, sv_up_a (sv_ne k_a kv88 (by decide))]; exact t80
              have t99 : σ91 v21 (v : Int).toNat = v22 := by rw [← eσ91, sv_up_a (sv_ne kv21 kv88 (by decide))]; exact t81
              have t100 : σ91 a 3 = (v34 : Int) + 1 := by rw [← eσ91, sv_up_a (sv_ne k_a kv88 (by decide))]; exact t82
              have t101 : σ91 v34 (v : Int).toNat = v35 := by rw [← eσ91, sv_up_a (sv_ne kv34 kv88 (by decide))]; exact t83
              have t102 : σ91 v1 (w : Int).toNat = v58 := by rw [← eσ91, sv_up_a (sv_ne kv1 kv88 (by decide))]; exact t84
              have t103 : σ91 a 5 = (v70 : Int) + 1 := by rw [← eσ91, sv_up_a (sv_ne k_a kv88 (by decide))]; exact t85
              have t104 : σ91 v70 (vu64 : Int).toNat = v71 := by rw [← eσ91, sv_up_a (sv_ne kv70 kv88 (by decide))]; exact t87
              have t105 : σ91 a 6 = (v88 : Int) + 1 := by rw [← eσ91, sv_up_a (sv_ne k_a kv88 (by decide))]; exact ev88
              have t107 : σ91 v88 (vu64 : Int).toNat = v89 := by rw [← eσ91]; exact sv_up_s _ _ _ _
              refine sv_go C.1 C.2.1 [(.aload_n 0, 1)] (pc' := 139) (by decide +kernel) rfl (lv' := [(0, sv_r a), (1, sv_i v), (2, sv_i w), (3, sv_i Xg54_l3), (4, sv_i vu64), (5, sv_i vu69)]) (st' := [sv_r a]) rfl ?_
              obtain ⟨v108, ev108, kv108⟩ := hI92.ref (k := 7) k_a rfl
              refine sv_gf C (index := 69) (ci := 10) (k := 7) (r := (RX11, TX11, 47)) (v := sv_r v108) (by decide +kernel) (by rw [k_a]; rfl) rfl (by decide) fl_X11_69 (congrArg sv_a ev108) ?_
              refine sv_go C.1 C.2.1 [(.iload 4, 2), (.aload_n 0, 1)] (pc' := 145) (by decide +kernel) rfl (lv' := [(0, sv_r a), (1, sv_i v), (2, sv_i w), (3, sv_i Xg54_l3), (4, sv_i vu64), (5, sv_i vu69)]) (st' := [sv_r a, sv_i vu64, sv_r v108]) rfl ?_
              refine sv_gf C (index := 69) (ci := 10) (k := 7) (r := (RX11, TX11, 47)) (v := sv_r v108) (by decide +kernel) (by rw [k_a]; rfl) rfl (by decide) fl_X11_69 (congrArg sv_a ev108) ?_
              refine sv_go C.1 C.2.1 [(.iload 5, 2)] (pc' := 150) (by decide +kernel) rfl (lv' := [(0, sv_r a), (1, sv_i v), (2, sv_i w), (3, sv_i Xg54_l3), (4, sv_i vu64), (5, sv_i vu69)]) (st' := [sv_i vu69, sv_r v108, sv_i vu64, sv_r v108]) rfl ?_
              refine sv_ia C (n := 300) (by decide +kernel) (by rw [kv108]; rfl) (by decide) (by omega) (by omega) ?_
              obtain ⟨v109, ev109, hv109⟩ := sv_rdn hI92 (k := (vu69 : Int).toNat) kv108 rfl
              rw [ev109]
              refine sv_is C (n := 300) (by decide +kernel) (by rw [kv108]; rfl) (by decide) (by omega) (by omega) ⟨by omega, by omega⟩ (hTA _ (by rw [kv108]; decide)) hok90 (fun hok110 => ?_)
              have hI112 := hI92.up (a := v108) (k := (vu64 : Int).toNat) (z := v109) (by rw [kv108]; exact ⟨by omega, by omega⟩)
              have hF113 := hF93.up (a := v108) (k := (vu64 : Int).toNat) (z := v109) (Or.inl (by rw [kv108]; decide))
              generalize eσ111 : sv_up σ91 v108 (vu64 : Int).toNat v109 = σ111 at hok110 hI112 hF113 ⊢
              have t114 : σ111 a 0 = (v1 : Int) + 1 := by rw [← eσ111, sv_up_a (sv_ne k_a kv108 (by decide))]; exact t94
              have t115 : σ111 v1 (v : Int).toNat = v2 := by rw [← eσ111, sv_up_a (sv_ne kv1 kv108 (by decide))]; exact t95
              have t116 : σ111 a 1 = (v10 : Int) + 1 := by rw [← eσ111, sv_up_a (sv_ne k_a kv108 (by decide))]; exact t96
              have t117 : σ111 v10 (v : Int).toNat = v11 := by rw [← eσ111, sv_up_a (sv_ne kv10 kv108 (by decide))]; exact t97
              have t118 : σ111 a 2 = (v21 : Int) + 1 := by rw [← eσ111, sv_up_a (sv_ne k_a kv108 (by decide))]; exact t98
              have t119 : σ111 v21 (v : Int).toNat = v22 := by rw [← eσ111, sv_up_a (sv_ne kv21 kv108 (by decide))]; exact t99
              have t120 : σ111 a 3 = (v34 : Int) + 1 := by rw [← eσ111, sv_up_a (sv_ne k_a kv108 (by decide))]; exact t100
              have t121 : σ111 v34 (v : Int).toNat = v35 := by rw [← eσ111, sv_up_a (sv_ne kv34 kv108 (by decide))]; exact t101
              have t122 : σ111 v1 (w : Int).toNat = v58 := by rw [← eσ111, sv_up_a (sv_ne kv1 kv108 (by decide))]; exact t102
              have t123 : σ111 a 5 = (v70 : Int) + 1 := by rw [← eσ111, sv_up_a (sv_ne k_a kv108 (by decide))]; exact t103
              have t124 : σ111 v70 (vu64 : Int).toNat = v71 := by rw [← eσ111, sv_up_a (sv_ne kv70 kv108 (by decide))]; exact t104
              have t125 : σ111 a 6 = (v88 : Int) + 1 := by rw [← eσ111, sv_up_a (sv_ne k_a kv108 (by decide))]; exact t105
              have t126 : σ111 v88 (vu64 : Int).toNat = v89 := by rw [← eσ111, sv_up_a (sv_ne kv88 kv108 (by decide))]; exact t107
              have t127 : σ111 a 7 = (v108 : Int) + 1 := by rw [← eσ111, sv_up_a (sv_ne k_a kv108 (by decide))]; exact ev108
              have t129 : σ111 v108 (vu64 : Int).toNat = v109 := by rw [← eσ111]; exact sv_up_s _ _ _ _
              refine sv_go C.1 C.2.1 [(.aload_n 0, 1)] (pc' := 153) (by decide +kernel) rfl (lv' := [(0, sv_r a), (1, sv_i v), (2, sv_i w), (3, sv_i Xg54_l3), (4, sv_i vu64), (5, sv_i vu69)]) (st' := [sv_r a]) rfl ?_
              obtain ⟨v130, ev130, kv130⟩ := hI112.ref (k := 8) k_a rfl
              refine sv_gf C (index := 72) (ci := 10) (k := 8) (r := (RX11, TX11, 47)) (v := sv_r v130) (by decide +kernel) (by rw [k_a]; rfl) rfl (by decide) fl_X11_72 (congrArg sv_a ev130) ?_
              refine sv_go C.1 C.2.1 [(.iload 4, 2), (.aload_n 0, 1)] (pc' := 159) (by decide +kernel) rfl (lv' := [(0, sv_r a), (1, sv_i v), (2, sv_i w), (3, sv_i Xg54_l3), (4, sv_i vu64), (5, sv_i vu69)]) (st' := [sv_r a, sv_i vu64, sv_r v130]) rfl ?_
              refine sv_gf C (index := 72) (ci := 10) (k := 8) (r := (RX11, TX11, 47)) (v := sv_r v130) (by decide +kernel) (by rw [k_a]; rfl) rfl (by decide) fl_X11_72 (congrArg sv_a ev130) ?_
              refine sv_go C.1 C.2.1 [(.iload 5, 2)] (pc' := 164) (by decide +kernel) rfl (lv' := [(0, sv_r a), (1, sv_i v), (2, sv_i w), (3, sv_i Xg54_l3), (4, sv_i vu64), (5, sv_i vu69)]) (st' := [sv_i vu69, sv_r v130, sv_i vu64, sv_r v130]) rfl ?_
              refine sv_ia C (n := 300) (by decide +kernel) (by rw [kv130]; rfl) (by decide) (by omega) (by omega) ?_
              obtain ⟨v131, ev131, hv131⟩ := sv_rdn hI112 (k := (vu69 : Int).toNat) kv130 rfl
              rw [ev131]
              refine sv_is C (n := 300) (by decide +kernel) (by rw [kv130]; rfl) (by decide) (by omega) (by omega) ⟨by omega, by omega⟩ (hTA _ (by rw [kv130]; decide)) hok110 (fun hok132 => ?_)
              have hI134 := hI112.up (a := v130) (k := (vu64 : Int).toNat) (z := v131) (by rw [kv130]; exact ⟨by omega, by omega⟩)
              have hF135 := hF113.up (a := v130) (k := (vu64 : Int).toNat) (z := v131) (Or.inl (by rw [kv130]; decide))
              generalize eσ133 : sv_up σ111 v130 (vu64 : Int).toNat v131 = σ133 at hok132 hI134 hF135 ⊢
              have t136 : σ133 a 0 = (v1 : Int) + 1 := by rw [← eσ133, sv_up_a (sv_ne k_a kv130 (by decide))]; exact t114
              have t137 : σ133 v1 (v : Int).toNat = v2 := by rw [← eσ133, sv_up_a (sv_ne kv1 kv130 (by decide))]; exact t115
              have t138 : σ133 a 1 = (v10 : Int) + 1 := by rw [← eσ133, sv_up_a (sv_ne k_a kv130 (by decide))]; exact t116
              have t139 : σ133 v10 (v : Int).toNat = v11 := by rw [← eσ133, sv_up_a (sv_ne kv10 kv130 (by decide))]; exact t117
              have t140 : σ133 a 2 = (v21 : Int) + 1 := by rw [← eσ133, sv_up_a (sv_ne k_a kv130 (by decide))]; exact t118
              have t141 : σ133 v21 (v : Int).toNat = v22 := by rw [← eσ133, sv_up_a (sv_ne kv21 kv130 (by decide))]; exact t119
              have t142 : σ133 a 3 = (v34 : Int) + 1 := by rw [← eσ133, sv_up_a (sv_ne k_a kv130 (by decide))]; exact t120
              have t143 : σ133 v34 (v : Int).toNat = v35 := by rw [← eσ133, sv_up_a (sv_ne kv34 kv130 (by decide))]; exact t121
              have t144 : σ133 v1 (w : Int).toNat = v58 := by rw [← eσ133, sv_up_a (sv_ne kv1 kv130 (by decide))]; exact t122
              have t145 : σ133 a 5 = (v70 : Int) + 1 := by rw [← eσ133, sv_up_a (sv_ne k_a kv130 (by decide))]; exact t123
              have t146 : σ133 v70 (vu64 : Int).toNat = v71 := by rw [← eσ133, sv_up_a (sv_ne kv70 kv130 (by decide))]; exact t124
              have t147 : σ133 a 6 = (v88 : Int) + 1 := by rw [← eσ133, sv_up_a (sv_ne k_a kv130 (by decide))]; exact t125
              have t148 : σ133 v88 (vu64 : Int).toNat = v89 := by rw [← eσ133, sv_up_a (sv_ne kv88 kv130 (by decide))]; exact t126
              have t149 : σ133 a 7 = (v108 : Int) + 1 := by rw [← eσ133, sv_up_a (sv_ne k_a kv130 (by decide))]; exact t127
              have t150 : σ133 v108 (vu64 : Int).toNat = v109 := by rw [← eσ133, sv_up_a (sv_ne kv108 kv130 (by decide))]; exact t129
              have t151 : σ133 a 8 = (v130 : Int) + 1 := by rw [← eσ133, sv_up_a (sv_ne k_a kv130 (by decide))]; exact ev130
              have t153 : σ133 v130 (vu64 : Int).toNat = v131 := by rw [← eσ133]; exact sv_up_s _ _ _ _
              refine sv_go C.1 C.2.1 [(.aload_n 0, 1)] (pc' := 167) (by decide +kernel) rfl (lv' := [(0, sv_r a), (1, sv_i v), (2, sv_i w), (3, sv_i Xg54_l3), (4, sv_i vu64), (5, sv_i vu69)]) (st' := [sv_r a]) rfl ?_
              obtain ⟨v154, ev154, kv154⟩ := hI134.ref (k := 9) k_a rfl
              refine sv_gf C (index := 75) (ci := 10) (k := 9) (r := (RX11, TX11, 47)) (v := sv_r v154) (by decide +kernel) (by rw [k_a]; rfl) rfl (by decide) fl_X11_75 (congrArg sv_a ev154) ?_
              refine sv_go C.1 C.2.1 [(.iload 4, 2), (.aload_n 0, 1)] (pc' := 173) (by decide +kernel) rfl (lv' := [(0, sv_r a), (1, sv_i v), (2, sv_i w), (3, sv_i Xg54_l3), (4, sv_i vu64), (5, sv_i vu69)]) (st' := [sv_r a, sv_i vu64, sv_r v154]) rfl ?_
              refine sv_gf C (index := 75) (ci := 10) (k := 9) (r := (RX11, TX11, 47)) (v := sv_r v154) (by decide +kernel) (by rw [k_a]; rfl) rfl (by decide) fl_X11_75 (congrArg sv_a ev154) ?_
              refine sv_go C.1 C.2.1 [(.iload 5, 2)] (pc' := 178) (by decide +kernel) rfl (lv' := [(0, sv_r a), (1, sv_i v), (2, sv_i w), (3, sv_i Xg54_l3), (4, sv_i vu64), (5, sv_i vu69)]) (st' := [sv_i vu69, sv_r v154, sv_i vu64, sv_r v154]) rfl ?_
              refine sv_ia C (n := 300) (by decide +kernel) (by rw [kv154]; rfl) (by decide) (by omega) (by omega) ?_
              obtain ⟨v155, ev155, hv155⟩ := sv_rde hok132 (a := v154) (k := (vu69 : Int).toNat) (n := 300) (by rw [kv154]; rfl) (by omega)
              rw [ev155]
              refine sv_is C (n := 300) (by decide +kernel) (by rw [kv154]; rfl) (by decide) (by omega) (by omega) ⟨by omega, by omega⟩ (hTA _ (by rw [kv154]; decide)) hok132 (fun hok156 => ?_)
              have hI158 := hI134.up (a := v154) (k := (vu64 : Int).toNat) (z := v155) (by rw [kv154]; exact trivial)
              have hF159 := hF135.up (a := v154) (k := (vu64 : Int).toNat) (z := v155) (Or.inl (by rw [kv154]; decide))
              generalize eσ157 : sv_up σ133 v154 (vu64 : Int).toNat v155 = σ157 at hok156 hI158 hF159 ⊢
              have t160 : σ157 a 0 = (v1 : Int) + 1 := by rw [← eσ157, sv_up_a (sv_ne k_a kv154 (by decide))]; exact t136
              have t161 : σ157 v1 (v : Int).toNat = v2 := by rw [← eσ157, sv_up_a (sv_ne kv1 kv154 (by decide))]; exact t137
              have t162 : σ157 a 1 = (v10 : Int) + 1 := by rw [← eσ157, sv_up_a (sv_ne k_a kv154 (by decide))]; exact t138
              have t163 : σ157 v10 (v : Int).toNat = v11 := by rw [← eσ157, sv_up_a (sv_ne kv10 kv154 (by decide))]; exact t139
              have t164 : σ157 a 2 = (v21 : Int) + 1 := by rw [← eσ157, sv_up_a (sv_ne k_a kv154 (by decide))]; exact t140
              have t165 : σ157 v21 (v : Int).toNat = v22 := by rw [← eσ157, sv_up_a (sv_ne kv21 kv154 (by decide))]; exact t141
              have t166 : σ157 a 3 = (v34 : Int) + 1 := by rw [← eσ157, sv_up_a (sv_ne k_a kv154 (by decide))]; exact t142
              have t167 : σ157 v34 (v : Int).toNat = v35 := by rw [← eσ157, sv_up_a (sv_ne kv34 kv154 (by decide))]; exact t143
              have t168 : σ157 v1 (w : Int).toNat = v58 := by rw [← eσ157, sv_up_a (sv_ne kv1 kv154 (by decide))]; exact t144
              have t169 : σ157 a 5 = (v70 : Int) + 1 := by rw [← eσ157, sv_up_a (sv_ne k_a kv154 (by decide))]; exact t145
              have t170 : σ157 v70 (vu64 : Int).toNat = v71 := by rw [← eσ157, sv_up_a (sv_ne kv70 kv154 (by decide))]; exact t146
              have t171 : σ157 a 6 = (v88 : Int) + 1 := by rw [← eσ157, sv_up_a (sv_ne k_a kv154 (by decide))]; exact t147
              have t172 : σ157 v88 (vu64 : Int).toNat = v89 := by rw [← eσ157, sv_up_a (sv_ne kv88 kv154 (by decide))]; exact t148
              have t173 : σ157 a 7 = (v108 : Int) + 1 := by rw [← eσ157, sv_up_a (sv_ne k_a kv154 (by decide))]; exact t149
              have t174 : σ157 v108 (vu64 : Int).toNat = v109 := by rw [← eσ157, sv_up_a (sv_ne kv108 kv154 (by decide))]; exact t150
              have t175 : σ157 a 8 = (v130 : Int) + 1 := by rw [← eσ157, sv_up_a (sv_ne k_a kv154 (by decide))]; exact t151
              have t176 : σ157 v130 (vu64 : Int).toNat = v131 := by rw [← eσ157, sv_up_a (sv_ne kv130 kv154 (by decide))]; exact t153
              have t177 : σ157 a 9 = (v154 : Int) + 1 := by rw [← eσ157, sv_up_a (sv_ne k_a kv154 (by decide))]; exact ev154
              have t179 : σ157 v154 (vu64 : Int).toNat = v155 := by rw [← eσ157]; exact sv_up_s _ _ _ _
              refine sv_go C.1 C.2.1 [(.aload_n 0, 1)] (pc' := 181) (by decide +kernel) rfl (lv' := [(0, sv_r a), (1, sv_i v), (2, sv_i w), (3, sv_i Xg54_l3), (4, sv_i vu64), (5, sv_i vu69)]) (st' := [sv_r a]) rfl ?_
              obtain ⟨v180, ev180, kv180⟩ := hI158.ref (k := 10) k_a rfl
              refine sv_gf C (index := 78) (ci := 10) (k := 10) (r := (RX11, TX11, 47)) (v := sv_r v180) (by decide +kernel) (by rw [k_a]; rfl) rfl (by decide) fl_X11_78 (congrArg sv_a ev180) ?_
              refine sv_go C.1 C.2.1 [(.iload 4, 2), (.aload_n 0, 1)] (pc' := 187) (by decide +kernel) rfl (lv' := [(0, sv_r a), (1, sv_i v), (2, sv_i w), (3, sv_i Xg54_l3), (4, sv_i vu64), (5, sv_i vu69)]) (st' := [sv_r a, sv_i vu64, sv_r v180]) rfl ?_
              refine sv_gf C (index := 78) (ci := 10) (k := 10) (r := (RX11, TX11, 47)) (v := sv_r v180) (by decide +kernel) (by rw [k_a]; rfl) rfl (by decide) fl_X11_78 (congrArg sv_a ev180) ?_
              refine sv_go C.1 C.2.1 [(.iload 5, 2)] (pc' := 192) (by decide +kernel) rfl (lv' := [(0, sv_r a), (1, sv_i v), (2, sv_i w), (3, sv_i Xg54_l3), (4, sv_i vu64), (5, sv_i vu69)]) (st' := [sv_i vu69, sv_r v180, sv_i vu64, sv_r v180]) rfl ?_
              refine sv_ia C (n := 300) (by decide +kernel) (by rw [kv180]; rfl) (by decide) (by omega) (by omega) ?_
              obtain ⟨v181, ev181, hv181⟩ := sv_rde hok156 (a := v180) (k := (vu69 : Int).toNat) (n := 300) (by rw [kv180]; rfl) (by omega)
              rw [ev181]
              refine sv_is C (n := 300) (by decide +kernel) (by rw [kv180]; rfl) (by decide) (by omega) (by omega) ⟨by omega, by omega⟩ (hTA _ (by rw [kv180]; decide)) hok156 (fun hok182 => ?_)
              have hI184 := hI158.up (a := v180) (k := (vu64 : Int).toNat) (z := v181) (by rw [kv180]; exact trivial)
              have hF185 := hF159.up (a := v180) (k := (vu64 : Int).toNat) (z := v181) (Or.inl (by rw [kv180]; decide))
              generalize eσ183 : sv_up σ157 v180 (vu64 : Int).toNat v181 = σ183 at hok182 hI184 hF185 ⊢
              have t186 : σ183 a 0 = (v1 : Int) + 1 := by rw [← eσ183, sv_up_a (sv_ne k_a kv180 (by decide))]; exact t160
              have t187 : σ183 v1 (v : Int).toNat = v2 := by rw [← eσ183, sv_up_a (sv_ne kv1 kv180 (by decide))]; exact t161
              have t188 : σ183 a 1 = (v10 : Int) + 1 := by rw [← eσ183, sv_up_a (sv_ne k_a kv180 (by decide))]; exact t162
              have t189 : σ183 v10 (v : Int).toNat = v11 := by rw [← eσ183, sv_up_a (sv_ne kv10 kv180 (by decide))]; exact t163
              have t190 : σ183 a 2 = (v21 : Int) + 1 := by rw [← eσ183, sv_up_a (sv_ne k_a kv180 (by decide))]; exact t164
              have t191 : σ183 v21 (v : Int).toNat = v22 := by rw [← eσ183, sv_up_a (sv_ne kv21 kv180 (by decide))]; exact t165
              have t192 : σ183 a 3 = (v34 : Int) + 1 := by rw [← eσ183, sv_up_a (sv_ne k_a kv180 (by decide))]; exact t166
              have t193 : σ183 v34 (v : Int).toNat = v35 := by rw [← eσ183, sv_up_a (sv_ne kv34 kv180 (by decide))]; exact t167
              have t194 : σ183 v1 (w : Int).toNat = v58 := by rw [← eσ183, sv_up_a (sv_ne kv1 kv180 (by decide))]; exact t168
              have t195 : σ183 a 5 = (v70 : Int) + 1 := by rw [← eσ183, sv_up_a (sv_ne k_a kv180 (by decide))]; exact t169
              have t196 : σ183 v70 (vu64 : Int).toNat = v71 := by rw [← eσ183, sv_up_a (sv_ne kv70 kv180 (by decide))]; exact t170
              have t197 : σ183 a 6 = (v88 : Int) + 1 := by rw [← eσ183, sv_up_a (sv_ne k_a kv180 (by decide))]; exact t171
              have t198 : σ183 v88 (vu64 : Int).toNat = v89 := by rw [← eσ183, sv_up_a (sv_ne kv88 kv180 (by decide))]; exact t172
              have t199 : σ183 a 7 = (v108 : Int) + 1 := by rw [← eσ183, sv_up_a (sv_ne k_a kv180 (by decide))]; exact t173
              have t200 : σ183 v108 (vu64 : Int).toNat = v109 := by rw [← eσ183, sv_up_a (sv_ne kv108 kv180 (by decide))]; exact t174
              have t201 : σ183 a 8 = (v130 : Int) + 1 := by rw [← eσ183, sv_up_a (sv_ne k_a kv180 (by decide))]; exact t175
              have t202 : σ183 v130 (vu64 : Int).toNat = v131 := by rw [← eσ183, sv_up_a (sv_ne kv130 kv180 (by decide))]; exact t176
              have t203 : σ183 a 9 = (v154 : Int) + 1 := by rw [← eσ183, sv_up_a (sv_ne k_a kv180 (by decide))]; exact t177
              have t204 : σ183 v154 (vu64 : Int).toNat = v155 := by rw [← eσ183, sv_up_a (sv_ne kv154 kv180 (by decide))]; exact t179
              have t205 : σ183 a 10 = (v180 : Int) + 1 := by rw [← eσ183, sv_up_a (sv_ne k_a kv180 (by decide))]; exact ev180
              have t207 : σ183 v180 (vu64 : Int).toNat = v181 := by rw [← eσ183]; exact sv_up_s _ _ _ _
              refine sv_go C.1 C.2.1 [(.aload_n 0, 1)] (pc' := 195) (by decide +kernel) rfl (lv' := [(0, sv_r a), (1, sv_i v), (2, sv_i w), (3, sv_i Xg54_l3), (4, sv_i vu64), (5, sv_i vu69)]) (st' := [sv_r a]) rfl ?_
              obtain ⟨v208, ev208, kv208⟩ := hI184.ref (k := 11) k_a rfl
              refine sv_gf C (index := 81) (ci := 10) (k := 11) (r := (RX11, TX11, 47)) (v := sv_r v208) (by decide +kernel) (by rw [k_a]; rfl) rfl (by decide) fl_X11_81 (congrArg sv_a ev208) ?_
              refine sv_go C.1 C.2.1 [(.iload 4, 2), (.aload_n 0, 1)] (pc' := 201) (by decide +kernel) rfl (lv' := [(0, sv_r a), (1, sv_i v), (2, sv_i w), (3, sv_i Xg54_l3), (4, sv_i vu64), (5, sv_i vu69)]) (st' := [sv_r a, sv_i vu64, sv_r v208]) rfl ?_
              refine sv_gf C (index := 81) (ci := 10) (k := 11) (r := (RX11, TX11, 47)) (v := sv_r v208) (by decide +kernel) (by rw [k_a]; rfl) rfl (by decide) fl_X11_81 (congrArg sv_a ev208) ?_
              refine sv_go C.1 C.2.1 [(.iload 5, 2)] (pc' := 206) (by decide +kernel) rfl (lv' := [(0, sv_r a), (1, sv_i v), (2, sv_i w), (3, sv_i Xg54_l3), (4, sv_i vu64), (5, sv_i vu69)]) (st' := [sv_i vu69, sv_r v208, sv_i vu64, sv_r v208]) rfl ?_
              refine sv_ia C (n := 300) (by decide +kernel) (by rw [kv208]; rfl) (by decide) (by omega) (by omega) ?_
              obtain ⟨v209, ev209, hv209⟩ := sv_rdn hI184 (k := (vu69 : Int).toNat) kv208 rfl
              rw [ev209]
              refine sv_is C (n := 300) (by decide +kernel) (by rw [kv208]; rfl) (by decide) (by omega) (by omega) ⟨by omega, by omega⟩ (hTA _ (by rw [kv208]; decide)) hok182 (fun hok210 => ?_)
              have hI212 := hI184.up (a := v208) (k := (vu64 : Int).toNat) (z := v209) (by rw [kv208]; exact ⟨by omega, by omega⟩)
              have hF213 := hF185.up (a := v208) (k := (vu64 : Int).toNat) (z := v209) (Or.inl (by rw [kv208]; decide))
              generalize eσ211 : sv_up σ183 v208 (vu64 : Int).toNat v209 = σ211 at hok210 hI212 hF213 ⊢
              have t214 : σ211 a 0 = (v1 : Int) + 1 := by rw [← eσ211, sv_up_a (sv_ne k_a kv208 (by decide))]; exact t186
              have t215 : σ211 v1 (v : Int).toNat = v2 := by rw [← eσ211, sv_up_a (sv_ne kv1 kv208 (by decide))]; exact t187
              have t216 : σ211 a 1 = (v10 : Int) + 1 := by rw [← eσ211, sv_up_a (sv_ne k_a kv208 (by decide))]; exact t188
              have t217 : σ211 v10 (v : Int).toNat = v11 := by rw [← eσ211, sv_up_a (sv_ne kv10 kv208 (by decide))]; exact t189
              have t218 : σ211 a 2 = (v21 : Int) + 1 := by rw [← eσ211, sv_up_a (sv_ne k_a kv208 (by decide))]; exact t190
              have t219 : σ211 v21 (v : Int).toNat = v22 := by rw [← eσ211, sv_up_a (sv_ne kv21 kv208 (by decide))]; exact t191
              have t220 : σ211 a 3 = (v34 : Int) + 1 := by rw [← eσ211, sv_up_a (sv_ne k_a kv208 (by decide))]; exact t192
              have t221 : σ211 v34 (v : Int).toNat = v35 := by rw [← eσ211, sv_up_a (sv_ne kv34 kv208 (by decide))]; exact t193
              have t222 : σ211 v1 (w : Int).toNat = v58 := by rw [← eσ211, sv_up_a (sv_ne kv1 kv208 (by decide))]; exact t194
              have t223 : σ211 a 5 = (v70 : Int) + 1 := by rw [← eσ211, sv_up_a (sv_ne k_a kv208 (by decide))]; exact t195
              have t224 : σ211 v70 (vu64 : Int).toNat = v71 := by rw [← eσ211, sv_up_a (sv_ne kv70 kv208 (by decide))]; exact t196
              have t225 : σ211 a 6 = (v88 : Int) + 1 := by rw [← eσ211, sv_up_a (sv_ne k_a kv208 (by decide))]; exact t197
              have t226 : σ211 v88 (vu64 : Int).toNat = v89 := by rw [← eσ211, sv_up_a (sv_ne kv88 kv208 (by decide))]; exact t198
              have t227 : σ211 a 7 = (v108 : Int) + 1 := by rw [← eσ211, sv_up_a (sv_ne k_a kv208 (by decide))]; exact t199
              have t228 : σ211 v108 (vu64 : Int).toNat = v109 := by rw [← eσ211, sv_up_a (sv_ne kv108 kv208 (by decide))]; exact t200
              have t229 : σ211 a 8 = (v130 : Int) + 1 := by rw [← eσ211, sv_up_a (sv_ne k_a kv208 (by decide))]; exact t201
              have t230 : σ211 v130 (vu64 : Int).toNat = v131 := by rw [← eσ211, sv_up_a (sv_ne kv130 kv208 (by decide))]; exact t202
              have t231 : σ211 a 9 = (v154 : Int) + 1 := by rw [← eσ211, sv_up_a (sv_ne k_a kv208 (by decide))]; exact t203
              have t232 : σ211 v154 (vu64 : Int).toNat = v155 := by rw [← eσ211, sv_up_a (sv_ne kv154 kv208 (by decide))]; exact t204
              have t233 : σ211 a 10 = (v180 : Int) + 1 := by rw [← eσ211, sv_up_a (sv_ne k_a kv208 (by decide))]; exact t205
              have t234 : σ211 v180 (vu64 : Int).toNat = v181 := by rw [← eσ211, sv_up_a (sv_ne kv180 kv208 (by decide))]; exact t207
              have t235 : σ211 a 11 = (v208 : Int) + 1 := by rw [← eσ211, sv_up_a (sv_ne k_a kv208 (by decide))]; exact ev208
              have t237 : σ211 v208 (vu64 : Int).toNat = v209 := by rw [← eσ211]; exact sv_up_s _ _ _ _
              refine sv_go C.1 C.2.1 [(.aload_n 0, 1)] (pc' := 209) (by decide +kernel) rfl (lv' := [(0, sv_r a), (1, sv_i v), (2, sv_i w), (3, sv_i Xg54_l3), (4, sv_i vu64), (5, sv_i vu69)]) (st' := [sv_r a]) rfl ?_
              obtain ⟨v238, ev238, kv238⟩ := hI212.ref (k := 12) k_a rfl
              refine sv_gf C (index := 84) (ci := 10) (k := 12) (r := (RX11, TX11, 47)) (v := sv_r v238) (by decide +kernel) (by rw [k_a]; rfl) rfl (by decide) fl_X11_84 (congrArg sv_a ev238) ?_
              refine sv_go C.1 C.2.1 [(.iload 4, 2), (.aload_n 0, 1)] (pc' := 215) (by decide +kernel) rfl (lv' := [(0, sv_r a), (1, sv_i v), (2, sv_i w), (3, sv_i Xg54_l3), (4, sv_i vu64), (5, sv_i vu69)]) (st' := [sv_r a, sv_i vu64, sv_r v238]) rfl ?_
              refine sv_gf C (index := 84) (ci := 10) (k := 12) (r := (RX11, TX11, 47)) (v := sv_r v238) (by decide +kernel) (by rw [k_a]; rfl) rfl (by decide) fl_X11_84 (congrArg sv_a ev238) ?_
              refine sv_go C.1 C.2.1 [(.iload 5, 2)] (pc' := 220) (by decide +kernel) rfl (lv' := [(0, sv_r a), (1, sv_i v), (2, sv_i w), (3, sv_i Xg54_l3), (4, sv_i vu64), (5, sv_i vu69)]) (st' := [sv_i vu69, sv_r v238, sv_i vu64, sv_r v238]) rfl ?_
              refine sv_za C (n := 300) (by decide +kernel) (by rw [kv238]; rfl) (by decide) (by omega) (by omega) ?_
              obtain ⟨v239, ev239, hv239⟩ := sv_rdez hok210 (a := v238) (k := (vu69 : Int).toNat) (n := 300) (by rw [kv238]; rfl) (by omega)
              rw [ev239]
              refine sv_zs C (n := 300) (by decide +kernel) (by rw [kv238]; rfl) (by decide) (by omega) (by omega) ⟨by omega, by omega⟩ (hTA _ (by rw [kv238]; decide)) hok210 (fun hok240 => ?_)
              have hI242 := hI212.up (a := v238) (k := (vu64 : Int).toNat) (z := v239) (by rw [kv238]; exact trivial)
              have hF243 := hF213.up (a := v238) (k := (vu64 : Int).toNat) (z := v239) (Or.inl (by rw [kv238]; decide))
              generalize eσ241 : sv_up σ211 v238 (vu64 : Int).toNat v239 = σ241 at hok240 hI242 hF243 ⊢
              have t244 : σ241 a 0 = (v1 : Int) + 1 := by rw [← eσ241, sv_up_a (sv_ne k_a kv238 (by decide))]; exact t214
              have t245 : σ241 v1 (v : Int).toNat = v2 := by rw [← eσ241, sv_up_a (sv_ne kv1 kv238 (by decide))]; exact t215
              have t246 : σ241 a 1 = (v10 : Int) + 1 := by rw [← eσ241, sv_up_a (sv_ne k_a kv238 (by decide))]; exact t216
              have t247 : σ241 v10 (v : Int).toNat = v11 := by rw [← eσ241, sv_up_a (sv_ne kv10 kv238 (by decide))]; exact t217
              have t248 : σ241 a 2 = (v21 : Int) + 1 := by rw [← eσ241, sv_up_a (sv_ne k_a kv238 (by decide))]; exact t218
              have t249 : σ241 v21 (v : Int).toNat = v22 := by rw [← eσ241, sv_up_a (sv_ne kv21 kv238 (by decide))]; exact t219
              have t250 : σ241 a 3 = (v34 : Int) + 1 := by rw [← eσ241, sv_up_a (sv_ne k_a kv238 (by decide))]; exact t220
              have t251 : σ241 v34 (v : Int).toNat = v35 := by rw [← eσ241, sv_up_a (sv_ne kv34 kv238 (by decide))]; exact t221
              have t252 : σ241 v1 (w : Int).toNat = v58 := by rw [← eσ241, sv_up_a (sv_ne kv1 kv238 (by decide))]; exact t222
              have t253 : σ241 a 5 = (v70 : Int) + 1 := by rw [← eσ241, sv_up_a (sv_ne k_a kv238 (by decide))]; exact t223
              have t254 : σ241 v70 (vu64 : Int).toNat = v71 := by rw [← eσ241, sv_up_a (sv_ne kv70 kv238 (by decide))]; exact t224
              have t255 : σ241 a 6 = (v88 : Int) + 1 := by rw [← eσ241, sv_up_a (sv_ne k_a kv238 (by decide))]; exact t225
              have t256 : σ241 v88 (vu64 : Int).toNat = v89 := by rw [← eσ241, sv_up_a (sv_ne kv88 kv238 (by decide))]; exact t226
              have t257 : σ241 a 7 = (v108 : Int) + 1 := by rw [← eσ241, sv_up_a (sv_ne k_a kv238 (by decide))]; exact t227
              have t258 : σ241 v108 (vu64 : Int).toNat = v109 := by rw [← eσ241, sv_up_a (sv_ne kv108 kv238 (by decide))]; exact t228
              have t259 : σ241 a 8 = (v130 : Int) + 1 := by rw [← eσ241, sv_up_a (sv_ne k_a kv238 (by decide))]; exact t229
              have t260 : σ241 v130 (vu64 : Int).toNat = v131 := by rw [← eσ241, sv_up_a (sv_ne kv130 kv238 (by decide))]; exact t230
              have t261 : σ241 a 9 = (v154 : Int) + 1 := by rw [← eσ241, sv_up_a (sv_ne k_a kv238 (by decide))]; exact t231
              have t262 : σ241 v154 (vu64 : Int).toNat = v155 := by rw [← eσ241, sv_up_a (sv_ne kv154 kv238 (by decide))]; exact t232
              have t263 : σ241 a 10 = (v180 : Int) + 1 := by rw [← eσ241, sv_up_a (sv_ne k_a kv238 (by decide))]; exact t233
              have t264 : σ241 v180 (vu64 : Int).toNat = v181 := by rw [← eσ241, sv_up_a (sv_ne kv180 kv238 (by decide))]; exact t234
              have t265 : σ241 a 11 = (v208 : Int) + 1 := by rw [← eσ241, sv_up_a (sv_ne k_a kv238 (by decide))]; exact t235
              have t266 : σ241 v208 (vu64 : Int).toNat = v209 := by rw [← eσ241, sv_up_a (sv_ne kv208 kv238 (by decide))]; exact t237
              have t267 : σ241 a 12 = (v238 : Int) + 1 := by rw [← eσ241, sv_up_a (sv_ne k_a kv238 (by decide))]; exact ev238
              have t269 : σ241 v238 (vu64 : Int).toNat = v239 := by rw [← eσ241]; exact sv_up_s _ _ _ _
              refine sv_go C.1 C.2.1 [(.aload_n 0, 1)] (pc' := 223) (by decide +kernel) rfl (lv' := [(0, sv_r a), (1, sv_i v), (2, sv_i w), (3, sv_i Xg54_l3), (4, sv_i vu64), (5, sv_i vu69)]) (st' := [sv_r a]) rfl ?_
              obtain ⟨v270, ev270, kv270⟩ := hI242.ref (k := 13) k_a rfl
              refine sv_gf C (index := 88) (ci := 10) (k := 13) (r := (RX11, TX11, 47)) (v := sv_r v270) (by decide +kernel) (by rw [k_a]; rfl) rfl (by decide) fl_X11_88 (congrArg sv_a ev270) ?_
              refine sv_go C.1 C.2.1 [(.iload 4, 2), (.aload_n 0, 1)] (pc' := 229) (by decide +kernel) rfl (lv' := [(0, sv_r a), (1, sv_i v), (2, sv_i w), (3, sv_i Xg54_l3), (4, sv_i vu64), (5, sv_i vu69)]) (st' := [sv_r a, sv_i vu64, sv_r v270]) rfl ?_
              refine sv_gf C (index := 88) (ci := 10) (k := 13) (r := (RX11, TX11, 47)) (v := sv_r v270) (by decide +kernel) (by rw [k_a]; rfl) rfl (by decide) fl_X11_88 (congrArg sv_a ev270) ?_
              refine sv_go C.1 C.2.1 [(.iload 5, 2)] (pc' := 234) (by decide +kernel) rfl (lv' := [(0, sv_r a), (1, sv_i v), (2, sv_i w), (3, sv_i Xg54_l3), (4, sv_i vu64), (5, sv_i vu69)]) (st' := [sv_i vu69, sv_r v270, sv_i vu64, sv_r v270]) rfl ?_
              refine sv_za C (n := 300) (by decide +kernel) (by rw [kv270]; rfl) (by decide) (by omega) (by omega) ?_
              obtain ⟨v271, ev271, hv271⟩ := sv_rdez hok240 (a := v270) (k := (vu69 : Int).toNat) (n := 300) (by rw [kv270]; rfl) (by omega)
              rw [ev271]
              refine sv_zs C (n := 300) (by decide +kernel) (by rw [kv270]; rfl) (by decide) (by omega) (by omega) ⟨by omega, by omega⟩ (hTA _ (by rw [kv270]; decide)) hok240 (fun hok272 => ?_)
              have hI274 := hI242.up (a := v270) (k := (vu64 : Int).toNat) (z := v271) (by rw [kv270]; exact trivial)
              have hF275 := hF243.up (a := v270) (k := (vu64 : Int).toNat) (z := v271) (Or.inl (by rw [kv270]; decide))
              generalize eσ273 : sv_up σ241 v270 (vu64 : Int).toNat v271 = σ273 at hok272 hI274 hF275 ⊢
              have t276 : σ273 a 0 = (v1 : Int) + 1 := by rw [← eσ273, sv_up_a (sv_ne k_a kv270 (by decide))]; exact t244
              have t277 : σ273 v1 (v : Int).toNat = v2 := by rw [← eσ273, sv_up_a (sv_ne kv1 kv270 (by decide))]; exact t245
              have t278 : σ273 a 1 = (v10 : Int) + 1 := by rw [← eσ273, sv_up_a (sv_ne k_a kv270 (by decide))]; exact t246
              have t279 : σ273 v10 (v : Int).toNat = v11 := by rw [← eσ273, sv_up_a (sv_ne kv10 kv270 (by decide))]; exact t247
              have t280 : σ273 a 2 = (v21 : Int) + 1 := by rw [← eσ273, sv_up_a (sv_ne k_a kv270 (by decide))]; exact t248
              have t281 : σ273 v21 (v : Int).toNat = v22 := by rw [← eσ273, sv_up_a (sv_ne kv21 kv270 (by decide))]; exact t249
              have t282 : σ273 a 3 = (v34 : Int) + 1 := by rw [← eσ273, sv_up_a (sv_ne k_a kv270 (by decide))]; exact t250
              have t283 : σ273 v34 (v : Int).toNat = v35 := by rw [← eσ273, sv_up_a (sv_ne kv34 kv270 (by decide))]; exact t251
              have t284 : σ273 v1 (w : Int).toNat = v58 := by rw [← eσ273, sv_up_a (sv_ne kv1 kv270 (by decide))]; exact t252
              have t285 : σ273 a 5 = (v70 : Int) + 1 := by rw [← eσ273, sv_up_a (sv_ne k_a kv270 (by decide))]; exact t253
              have t286 : σ273 v70 (vu64 : Int).toNat = v71 := by rw [← eσ273, sv_up_a (sv_ne kv70 kv270 (by decide))]; exact t254
              have t287 : σ273 a 6 = (v88 : Int) + 1 := by rw [← eσ273, sv_up_a (sv_ne k_a kv270 (by decide))]; exact t255
              have t288 : σ273 v88 (vu64 : Int).toNat = v89 := by rw [← eσ273, sv_up_a (sv_ne kv88 kv270 (by decide))]; exact t256
              have t289 : σ273 a 7 = (v108 : Int) + 1 := by rw [← eσ273, sv_up_a (sv_ne k_a kv270 (by decide))]; exact t257
              have t290 : σ273 v108 (vu64 : Int).toNat = v109 := by rw [← eσ273, sv_up_a (sv_ne kv108 kv270 (by decide))]; exact t258
              have t291 : σ273 a 8 = (v130 : Int) + 1 := by rw [← eσ273, sv_up_a (sv_ne k_a kv270 (by decide))]; exact t259
              have t292 : σ273 v130 (vu64 : Int).toNat = v131 := by rw [← eσ273, sv_up_a (sv_ne kv130 kv270 (by decide))]; exact t260
              have t293 : σ273 a 9 = (v154 : Int) + 1 := by rw [← eσ273, sv_up_a (sv_ne k_a kv270 (by decide))]; exact t261
              have t294 : σ273 v154 (vu64 : Int).toNat = v155 := by rw [← eσ273, sv_up_a (sv_ne kv154 kv270 (by decide))]; exact t262
              have t295 : σ273 a 10 = (v180 : Int) + 1 := by rw [← eσ273, sv_up_a (sv_ne k_a kv270 (by decide))]; exact t263
              have t296 : σ273 v180 (vu64 : Int).toNat = v181 := by rw [← eσ273, sv_up_a (sv_ne kv180 kv270 (by decide))]; exact t264
              have t297 : σ273 a 11 = (v208 : Int) + 1 := by rw [← eσ273, sv_up_a (sv_ne k_a kv270 (by decide))]; exact t265
              have t298 : σ273 v208 (vu64 : Int).toNat = v209 := by rw [← eσ273, sv_up_a (sv_ne kv208 kv270 (by decide))]; exact t266
              have t299 : σ273 a 12 = (v238 : Int) + 1 := by rw [← eσ273, sv_up_a (sv_ne k_a kv270 (by decide))]; exact t267
              have t300 : σ273 v238 (vu64 : Int).toNat = v239 := by rw [← eσ273, sv_up_a (sv_ne kv238 kv270 (by decide))]; exact t269
              have t301 : σ273 a 13 = (v270 : Int) + 1 := by rw [← eσ273, sv_up_a (sv_ne k_a kv270 (by decide))]; exact ev270
              have t303 : σ273 v270 (vu64 : Int).toNat = v271 := by rw [← eσ273]; exact sv_up_s _ _ _ _
              refine sv_go C.1 C.2.1 [(.iconst 0, 1), (.istore 6, 2)] (pc' := 239) (by decide +kernel) rfl (lv' := [(0, sv_r a), (1, sv_i v), (2, sv_i w), (3, sv_i Xg54_l3), (4, sv_i vu64), (5, sv_i vu69), (6, sv_i 0)]) (st' := []) rfl ?_
              have L306 : ∀ (n : Nat) (Xg304_l6 : Int) (σ305 : Nat → Nat → Int), (0 ≤ Xg304_l6 ∧ Xg304_l6 ≤ 12) → (sv_ok ty σ305) → (sv_inv sp_1 ty σ305) → (sv_ofx [] [60, 61, 62, 63, 64, 65, 66, 67, 68, 69, 70, 71, 72, 73, 74] ty σ σ305) → (σ305 a 0 = (v1 : Int) + 1) → (σ305 v1 (v : Int).toNat = v2) → (σ305 a 1 = (v10 : Int) + 1) → (σ305 v10 (v : Int).toNat = v11) → (σ305 a 2 = (v21 : Int) + 1) → (σ305 v21 (v : Int).toNat = v22) → (σ305 a 3 = (v34 : Int) + 1) → (σ305 v34 (v : Int).toNat = v35) → (σ305 v1 (w : Int).toNat = v58) → (σ305 a 5 = (v70 : Int) + 1) → (σ305 v70 (vu64 : Int).toNat = v71) → (σ305 a 6 = (v88 : Int) + 1) → (σ305 v88 (vu64 : Int).toNat = v89) → (σ305 a 7 = (v108 : Int) + 1) → (σ305 v108 (vu64 : Int).toNat = v109) → (σ305 a 8 = (v130 : Int) + 1) → (σ305 v130 (vu64 : Int).toNat = v131) → (σ305 a 9 = (v154 : Int) + 1) → (σ305 v154 (vu64 : Int).toNat = v155) → (σ305 a 10 = (v180 : Int) + 1) → (σ305 v180 (vu64 : Int).toNat = v181) → (σ305 a 11 = (v208 : Int) + 1) → (σ305 v208 (vu64 : Int).toNat = v209) → (σ305 a 12 = (v238 : Int) + 1) → (σ305 v238 (vu64 : Int).toNat = v239) → (σ305 a 13 = (v270 : Int) + 1) → (σ305 v270 (vu64 : Int).toNat = v271) → (12 - Xg304_l6) < (n : Int) → sv_E p l e { frames := 1, cells := 0, slots := 0, locals := 21 } s m args below meth c 7 g A ty (fun r σ' => (r = []) ∧ sv_inv sp_1 ty σ' ∧ sv_ofx [] [60, 61, 62, 63, 64, 65, 66, 67, 68, 69, 70, 71, 72, 73, 74] ty σ σ') σ305 239 [(0, sv_r a), (1, sv_i v), (2, sv_i w), (3, sv_i Xg54_l3), (4, sv_i vu64), (5, sv_i vu69), (6, sv_i Xg304_l6)] [] := by
                intro n
                induction n with
                | zero => intro Xg304_l6 σ305 hXg304_l6 okσ305 Iσ305 Fσ305 eσ305_0 eσ305_1 eσ305_2 eσ305_3 eσ305_4 eσ305_5 eσ305_6 eσ305_7 eσ305_8 eσ305_9 eσ305_10 eσ305_11 eσ305_12 eσ305_13 eσ305_14 eσ305_15 eσ305_16 eσ305_17 eσ305_18 eσ305_19 eσ305_20 eσ305_21 eσ305_22 eσ305_23 eσ305_24 eσ305_25 eσ305_26 hmu; exact absurd hmu (by omega)
                | succ n ih307 =>
                  intro Xg304_l6 σ305 hXg304_l6 okσ305 Iσ305 Fσ305 eσ305_0 eσ305_1 eσ305_2 eσ305_3 eσ305_4 eσ305_5 eσ305_6 eσ305_7 eσ305_8 eσ305_9 eσ305_10 eσ305_11 eσ305_12 eσ305_13 eσ305_14 eσ305_15 eσ305_16 eσ305_17 eσ305_18 eσ305_19 eσ305_20 eσ305_21 eσ305_22 eσ305_23 eσ305_24 eσ305_25 eσ305_26 hmu
                  refine sv_go C.1 C.2.1 [(.iload 6, 2), (.bipush 12, 2)] (pc' := 243) (by decide +kernel) rfl (lv' := [(0, sv_r a), (1, sv_i v), (2, sv_i w), (3, sv_i Xg54_l3), (4, sv_i vu64), (5, sv_i vu69), (6, sv_i Xg304_l6)]) (st' := [sv_i 12, sv_i Xg304_l6]) rfl ?_
                  refine sv_icmp C.1 C.2.1 (cnd := .ge) (off := 35) (tgt := 278) (by decide +kernel) (by decide) ⟨by omega, by omega⟩ ⟨by omega, by omega⟩ (fun (h308 : 12 ≤ Xg304_l6) => ?_) (fun (h308 : ¬ (12 ≤ Xg304_l6)) => ?_)
                  · refine sv_go C.1 C.2.1 [(.iinc 3 1, 3)] (pc' := 281) (by decide +kernel) rfl (lv' := [(0, sv_r a), (1, sv_i v), (2, sv_i w), (3, sv_i (Xg54_l3 + 1)), (4, sv_i vu64), (5, sv_i vu69), (6, sv_i Xg304_l6)]) (st' := []) rfl ?_
                    refine sv_goto C.1 C.2.1 (off := (-195)) (tgt := 86) (by decide +kernel) (by decide) ?_
                    refine sv_pick [0, 1, 2, 3] (lv2 := [(0, sv_r a), (1, sv_i v), (2, sv_i w), (3, sv_i (Xg54_l3 + 1))]) rfl ?_
                    exact ih57 (Xg54_l3 + 1) σ305 ⟨by omega, by omega⟩ okσ305 Iσ305 Fσ305 eσ305_0 eσ305_1 eσ305_2 eσ305_3 eσ305_4 eσ305_5 eσ305_6 eσ305_7 (by omega)
                  · refine sv_go C.1 C.2.1 [(.aload_n 0, 1)] (pc' := 247) (by decide +kernel) rfl (lv' := [(0, sv_r a), (1, sv_i v), (2, sv_i w), (3, sv_i Xg54_l3), (4, sv_i vu64), (5, sv_i vu69), (6, sv_i Xg304_l6)]) (st' := [sv_r a]) rfl ?_
                    obtain ⟨v309, ev309, kv309⟩ := Iσ305.ref (k := 14) k_a rfl
                    refine sv_gf C (index := 91) (ci := 10) (k := 14) (r := (RX11, TX11, 47)) (v := sv_r v309) (by decide +kernel) (by rw [k_a]; rfl) rfl (by decide) fl_X11_91 (congrArg sv_a ev309) ?_
                    refine sv_go C.1 C.2.1 [(.bipush 12, 2), (.iload 4, 2), (.imul, 1), (.iload 6, 2), (.iadd, 1), (.aload_n 0, 1)] (pc' := 259) (by decide +kernel) rfl (lv' := [(0, sv_r a), (1, sv_i v), (2, sv_i w), (3, sv_i Xg54_l3), (4, sv_i vu64), (5, sv_i vu69), (6, sv_i Xg304_l6)]) (st' := [sv_r a, sv_i ((12 * vu64) + Xg304_l6), sv_r v309]) rfl ?_
                    refine sv_gf C (index := 91) (ci := 10) (k := 14) (r := (RX11, TX11, 47)) (v := sv_r v309) (by decide +kernel) (by rw [k_a]; rfl) rfl (by decide) fl_X11_91 (congrArg sv_a ev309) ?_
                    refine sv_go C.1 C.2.1 [(.bipush 12, 2), (.iload 5, 2), (.imul, 1), (.iload 6, 2), (.iadd, 1)] (pc' := 270) (by decide +kernel) rfl (lv' := [(0, sv_r a), (1, sv_i v), (2, sv_i w), (3, sv_i Xg54_l3), (4, sv_i vu64), (5, sv_i vu69), (6, sv_i Xg304_l6)]) (st' := [sv_i ((12 * vu69) + Xg304_l6), sv_r v309, sv_i ((12 * vu64) + Xg304_l6), sv_r v309]) rfl ?_
                    refine sv_ba C (n := 3600) (by decide +kernel) (by rw [kv309]; rfl) (by decide) (by omega) (by omega) ?_
                    obtain ⟨v310, ev310, hv310⟩ := sv_rdeb okσ305 (a := v309) (k := ((12 * vu69) + Xg304_l6 : Int).toNat) (n := 3600) (by rw [kv309]; rfl) (by omega)
                    rw [ev310]
                    refine sv_bs C (n := 3600) (by decide +kernel) (by rw [kv309]; rfl) (by decide) (by omega) (by omega) ⟨by omega, by omega⟩ (hTA _ (by rw [kv309]; decide)) okσ305 (fun hok311 => ?_)
                    have hI313 := Iσ305.up (a := v309) (k := ((12 * vu64) + Xg304_l6 : Int).toNat) (z := v310) (by rw [kv309]; exact trivial)
                    have hF314 := Fσ305.up (a := v309) (k := ((12 * vu64) + Xg304_l6 : Int).toNat) (z := v310) (Or.inl (by rw [kv309]; decide))
                    generalize eσ312 : sv_up σ305 v309 ((12 * vu64) + Xg304_l6 : Int).toNat v310 = σ312 at hok311 hI313 hF314 ⊢
                    have t315 : σ312 a 0 = (v1 : Int) + 1 := by rw [← eσ312, sv_up_a (sv_ne k_a kv309 (by decide))]; exact eσ305_0
                    have t316 : σ312 v1 (v : Int).toNat = v2 := by rw [← eσ312, sv_up_a (sv_ne kv1 kv309 (by decide))]; exact eσ305_1
                    have t317 : σ312 a 1 = (v10 : Int) + 1 := by rw [← eσ312, sv_up_a (sv_ne k_a kv309 (by decide))]; exact eσ305_2
                    have t318 : σ312 v10 (v : Int).toNat = v11 := by rw [← eσ312, sv_up_a (sv_ne kv10 kv309 (by decide))]; exact eσ305_3
                    have t319 : σ312 a 2 = (v21 : Int) + 1 := by rw [← eσ312, sv_up_a (sv_ne k_a kv309 (by decide))]; exact eσ305_4
                    have t320 : σ312 v21 (v : Int).toNat = v22 := by rw [← eσ312, sv_up_a (sv_ne kv21 kv309 (by decide))]; exact eσ305_5
                    have t321 : σ312 a 3 = (v34 : Int) + 1 := by rw [← eσ312, sv_up_a (sv_ne k_a kv309 (by decide))]; exact eσ305_6
                    have t322 : σ312 v34 (v : Int).toNat = v35 := by rw [← eσ312, sv_up_a (sv_ne kv34 kv309 (by decide))]; exact eσ305_7
                    have t323 : σ312 v1 (w : Int).toNat = v58 := by rw [← eσ312, sv_up_a (sv_ne kv1 kv309 (by decide))]; exact eσ305_8
                    have t324 : σ312 a 5 = (v70 : Int) + 1 := by rw [← eσ312, sv_up_a (sv_ne k_a kv309 (by decide))]; exact eσ305_9
                    have t325 : σ312 v70 (vu64 : Int).toNat = v71 := by rw [← eσ312, sv_up_a (sv_ne kv70 kv309 (by decide))]; exact eσ305_10
                    have t326 : σ312 a 6 = (v88 : Int) + 1 := by rw [← eσ312, sv_up_a (sv_ne k_a kv309 (by decide))]; exact eσ305_11
                    have t327 : σ312 v88 (vu64 : Int).toNat = v89 := by rw [← eσ312, sv_up_a (sv_ne kv88 kv309 (by decide))]; exact eσ305_12
                    have t328 : σ312 a 7 = (v108 : Int) + 1 := by rw [← eσ312, sv_up_a (sv_ne k_a kv309 (by decide))]; exact eσ305_13
                    have t329 : σ312 v108 (vu64 : Int).toNat = v109 := by rw [← eσ312, sv_up_a (sv_ne kv108 kv309 (by decide))]; exact eσ305_14
                    have t330 : σ312 a 8 = (v130 : Int) + 1 := by rw [← eσ312, sv_up_a (sv_ne k_a kv309 (by decide))]; exact eσ305_15
                    have t331 : σ312 v130 (vu64 : Int).toNat = v131 := by rw [← eσ312, sv_up_a (sv_ne kv130 kv309 (by decide))]; exact eσ305_16
                    have t332 : σ312 a 9 = (v154 : Int) + 1 := by rw [← eσ312, sv_up_a (sv_ne k_a kv309 (by decide))]; exact eσ305_17
                    have t333 : σ312 v154 (vu64 : Int).toNat = v155 := by rw [← eσ312, sv_up_a (sv_ne kv154 kv309 (by decide))]; exact eσ305_18
                    have t334 : σ312 a 10 = (v180 : Int) + 1 := by rw [← eσ312, sv_up_a (sv_ne k_a kv309 (by decide))]; exact eσ305_19
                    have t335 : σ312 v180 (vu64 : Int).toNat = v181 := by rw [← eσ312, sv_up_a (sv_ne kv180 kv309 (by decide))]; exact eσ305_20
                    have t336 : σ312 a 11 = (v208 : Int) + 1 := by rw [← eσ312, sv_up_a (sv_ne k_a kv309 (by decide))]; exact eσ305_21
                    have t337 : σ312 v208 (vu64 : Int).toNat = v209 := by rw [← eσ312, sv_up_a (sv_ne kv208 kv309 (by decide))]; exact eσ305_22
                    have t338 : σ312 a 12 = (v238 : Int) + 1 := by rw [← eσ312, sv_up_a (sv_ne k_a kv309 (by decide))]; exact eσ305_23
                    have t339 : σ312 v238 (vu64 : Int).toNat = v239 := by rw [← eσ312, sv_up_a (sv_ne kv238 kv309 (by decide))]; exact eσ305_24
                    have t340 : σ312 a 13 = (v270 : Int) + 1 := by rw [← eσ312, sv_up_a (sv_ne k_a kv309 (by decide))]; exact eσ305_25
                    have t341 : σ312 v270 (vu64 : Int).toNat = v271 := by rw [← eσ312, sv_up_a (sv_ne kv270 kv309 (by decide))]; exact eσ305_26
                    have t342 : σ312 a 14 = (v309 : Int) + 1 := by rw [← eσ312, sv_up_a (sv_ne k_a kv309 (by decide))]; exact ev309
                    have t344 : σ312 v309 ((12 * vu64) + Xg304_l6 : Int).toNat = v310 := by rw [← eσ312]; exact sv_up_s _ _ _ _
                    refine sv_go C.1 C.2.1 [(.iinc 6 1, 3)] (pc' := 275) (by decide +kernel) rfl (lv' := [(0, sv_r a), (1, sv_i v), (2, sv_i w), (3, sv_i Xg54_l3), (4, sv_i vu64), (5, sv_i vu69), (6, sv_i (Xg304_l6 + 1))]) (st' := []) rfl ?_
                    refine sv_goto C.1 C.2.1 (off := (-36)) (tgt := 239) (by decide +kernel) (by decide) ?_
                    exact ih307 (Xg304_l6 + 1) σ312 ⟨by omega, by omega⟩ hok311 hI313 hF314 t315 t316 t317 t318 t319 t320 t321 t322 t323 t324 t325 t326 t327 t328 t329 t330 t331 t332 t333 t334 t335 t336 t337 t338 t339 t340 t341 (by omega)
              exact L306 (((12 - 0 : Int)).toNat + 1) 0 σ273 ⟨by omega, by omega⟩ hok272 hI274 hF275 t276 t277 t278 t279 t280 t281 t282 t283 t284 t285 t286 t287 t288 t289 t290 t291 t292 t293 t294 t295 t296 t297 t298 t299 t300 t301 t303 (by omega)
        exact L56 (((60 - 0 : Int)).toNat + 1) 0 σ50 ⟨by omega, by omega⟩ okσ50 Iσ50 Fσ50 eσ50_0 eσ50_1 eσ50_2 eσ50_3 eσ50_4 eσ50_5 eσ50_6 eσ50_7 (by omega)
      · refine sv_go C.1 C.2.1 [(.aload_n 0, 1)] (pc' := 57) (by decide +kernel) rfl (lv' := [(0, sv_r a), (1, sv_i v), (2, sv_i w), (3, sv_i Xg49_l3)]) (st' := [sv_r a]) rfl ?_
        obtain ⟨v345, ev345, kv345⟩ := Iσ50.ref (k := 4) k_a rfl
        refine sv_gf C (index := 60) (ci := 10) (k := 4) (r := (RX11, TX11, 47)) (v := sv_r v345) (by decide +kernel) (by rw [k_a]; rfl) rfl (by decide) fl_X11_60 (congrArg sv_a ev345) ?_
        refine sv_go C.1 C.2.1 [(.bipush 9, 2), (.iload_n 1, 1), (.imul, 1), (.iload_n 3, 1), (.iadd, 1), (.aload_n 0, 1)] (pc' := 67) (by decide +kernel) rfl (lv' := [(0, sv_r a), (1, sv_i v), (2, sv_i w), (3, sv_i Xg49_l3)]) (st' := [sv_r a, sv_i ((9 * v) + Xg49_l3), sv_r v345]) rfl ?_
        refine sv_gf C (index := 60) (ci := 10) (k := 4) (r := (RX11, TX11, 47)) (v := sv_r v345) (by decide +kernel) (by rw [k_a]; rfl) rfl (by decide) fl_X11_60 (congrArg sv_a ev345) ?_
        refine sv_go C.1 C.2.1 [(.bipush 9, 2), (.iload_n 2, 1), (.imul, 1), (.iload_n 3, 1), (.iadd, 1)] (pc' := 76) (by decide +kernel) rfl (lv' := [(0, sv_r a), (1, sv_i v), (2, sv_i w), (3, sv_i Xg49_l3)]) (st' := [sv_i ((9 * w) + Xg49_l3), sv_r v345, sv_i ((9 * v) + Xg49_l3), sv_r v345]) rfl ?_
        refine sv_ia C (n := 45) (by decide +kernel) (by rw [kv345]; rfl) (by decide) (by omega) (by omega) ?_
        obtain ⟨v346, ev346, hv346⟩ := sv_rde okσ50 (a := v345) (k := ((9 * w) + Xg49_l3 : Int).toNat) (n := 45) (by rw [kv345]; rfl) (by omega)
        rw [ev346]
        refine sv_is C (n := 45) (by decide +kernel) (by rw [kv345]; rfl) (by decide) (by omega) (by omega) ⟨by omega, by omega⟩ (hTA _ (by rw [kv345]; decide)) okσ50 (fun hok347 => ?_)
        have hI349 := Iσ50.up (a := v345) (k := ((9 * v) + Xg49_l3 : Int).toNat) (z := v346) (by rw [kv345]; exact trivial)
        have hF350 := Fσ50.up (a := v345) (k := ((9 * v) + Xg49_l3 : Int).toNat) (z := v346) (Or.inl (by rw [kv345]; decide))
        generalize eσ348 : sv_up σ50 v345 ((9 * v) + Xg49_l3 : Int).toNat v346 = σ348 at hok347 hI349 hF350 ⊢
        have t351 : σ348 a 0 = (v1 : Int) + 1 := by rw [← eσ348, sv_up_a (sv_ne k_a kv345 (by decide))]; exact eσ50_0
        have t352 : σ348 v1 (v : Int).toNat = v2 := by rw [← eσ348, sv_up_a (sv_ne kv1 kv345 (by decide))]; exact eσ50_1
        have t353 : σ348 a 1 = (v10 : Int) + 1 := by rw [← eσ348, sv_up_a (sv_ne k_a kv345 (by decide))]; exact eσ50_2
        have t354 : σ348 v10 (v : Int).toNat = v11 := by rw [← eσ348, sv_up_a (sv_ne kv10 kv345 (by decide))]; exact eσ50_3
        have t355 : σ348 a 2 = (v21 : Int) + 1 := by rw [← eσ348, sv_up_a (sv_ne k_a kv345 (by decide))]; exact eσ50_4
        have t356 : σ348 v21 (v : Int).toNat = v22 := by rw [← eσ348, sv_up_a (sv_ne kv21 kv345 (by decide))]; exact eσ50_5
        have t357 : σ348 a 3 = (v34 : Int) + 1 := by rw [← eσ348, sv_up_a (sv_ne k_a kv345 (by decide))]; exact eσ50_6
        have t358 : σ348 v34 (v : Int).toNat = v35 := by rw [← eσ348, sv_up_a (sv_ne kv34 kv345 (by decide))]; exact eσ50_7
        have t359 : σ348 a 4 = (v345 : Int) + 1 := by rw [← eσ348, sv_up_a (sv_ne k_a kv345 (by decide))]; exact ev345
        have t361 : σ348 v345 ((9 * v) + Xg49_l3 : Int).toNat = v346 := by rw [← eσ348]; exact sv_up_s _ _ _ _
        refine sv_go C.1 C.2.1 [(.iinc 3 1, 3)] (pc' := 81) (by decide +kernel) rfl (lv' := [(0, sv_r a), (1, sv_i v), (2, sv_i w), (3, sv_i (Xg49_l3 + 1))]) (st' := []) rfl ?_
        refine sv_goto C.1 C.2.1 (off := (-31)) (tgt := 50) (by decide +kernel) (by decide) ?_
        exact ih52 (Xg49_l3 + 1) σ348 ⟨by omega, by omega⟩ hok347 hI349 hF350 t351 t352 t353 t354 t355 t356 t357 t358 (by omega)
  exact L51 (((9 - 0 : Int)).toNat + 1) 0 σ37 ⟨by omega, by omega⟩ hok36 hI38 hF39 t40 t41 t42 t43 t44 t45 t46 t48 (by omega)

set_option maxHeartbeats 4000000 in
set_option maxRecDepth 100000 in
theorem sf_X11_isNamed (l : Launch) (g : sv_G) (A : Nat → Prop) (ty : Nat → Nat) (σ : Nat → Nat → Int) (hok : sv_ok ty σ) (hTA : ∀ q, ty q ≠ 0 → A q) (hI : sv_inv sp_1 ty σ) (a : Nat) (k_a : ty a = 10) (v : Int) (h_v : 0 ≤ v ∧ v ≤ 299) (w : Int) (h_w : 0 ≤ w ∧ w ≤ 299) : sv_M l yX11_isNamed cX11_isNamed 5 (some .boolean) { frames := 0, cells := 0, slots := 0, locals := 0 } g A ty σ [sv_r a, sv_i v, sv_i w] (fun r σ' => σ = σ' ∧ ∃ rv : Int, r = [sv_i rv] ∧ (0 ≤ rv ∧ rv ≤ 1)) := by
  refine sv_enter (by decide) (Nat.le_of_ble_eq_true rfl) ?_
  intro p e s m args below meth c C hr
  have C : sv_C g A RX11 cX11_isNamed 5 p s m args meth c := C
  have hr : meth.sig.returnType = (some .boolean) := hr
  have hF : sv_ofx [] [] ty σ σ := sv_ofx.rf
  refine sv_same (st2 := []) (lv2 := [(0, sv_r a), (1, sv_i v), (2, sv_i w)]) rfl rfl ?_
  refine sv_go C.1 C.2.1 [(.aload_n 0, 1)] (pc' := 1) (by decide +kernel) rfl (lv' := [(0, sv_r a), (1, sv_i v), (2, sv_i w)]) (st' := [sv_r a]) rfl ?_
  obtain ⟨v1, ev1, kv1⟩ := hI.ref (k := 11) k_a rfl
  refine sv_gf C (index := 81) (ci := 10) (k := 11) (r := (RX11, TX11, 47)) (v := sv_r v1) (by decide +kernel) (by rw [k_a]; rfl) rfl (by decide) fl_X11_81 (congrArg sv_a ev1) ?_
  refine sv_go C.1 C.2.1 [(.iload_n 1, 1)] (pc' := 5) (by decide +kernel) rfl (lv' := [(0, sv_r a), (1, sv_i v), (2, sv_i w)]) (st' := [sv_i v, sv_r v1]) rfl ?_
  refine sv_ia C (n := 300) (by decide +kernel) (by rw [kv1]; rfl) (by decide) (by omega) (by omega) ?_
  obtain ⟨v2, ev2, hv2⟩ := sv_rdn hI (k := (v : Int).toNat) kv1 rfl
  rw [ev2]
  refine sv_go C.1 C.2.1 [(.aload_n 0, 1)] (pc' := 7) (by decide +kernel) rfl (lv' := [(0, sv_r a), (1, sv_i v), (2, sv_i w)]) (st' := [sv_r a, sv_i v2]) rfl ?_
  refine sv_gf C (index := 81) (ci := 10) (k := 11) (r := (RX11, TX11, 47)) (v := sv_r v1) (by decide +kernel) (by rw [k_a]; rfl) rfl (by decide) fl_X11_81 (congrArg sv_a ev1) ?_
  refine sv_go C.1 C.2.1 [(.iload_n 2, 1)] (pc' := 11) (by decide +kernel) rfl (lv' := [(0, sv_r a), (1, sv_i v), (2, sv_i w)]) (st' := [sv_i w, sv_r v1, sv_i v2]) rfl ?_
  refine sv_ia C (n := 300) (by decide +kernel) (by rw [kv1]; rfl) (by decide) (by omega) (by omega) ?_
  obtain ⟨v3, ev3, hv3⟩ := sv_rdn hI (k := (w : Int).toNat) kv1 rfl
  rw [ev3]
  have J6 : ∀ (Jg5_s0 : Int), (0 ≤ Jg5_s0 ∧ Jg5_s0 ≤ 1) → sv_E p l e { frames := 0, cells := 0, slots := 0, locals := 0 } s m args below meth c 5 g A ty (fun r σ' => σ = σ' ∧ ∃ rv : Int, r = [sv_i rv] ∧ (0 ≤ rv ∧ rv ≤ 1)) σ 20 [(0, sv_r a), (1, sv_i v), (2, sv_i w)] [sv_i Jg5_s0] := by
    intro Jg5_s0 hJg5_s0
    refine sv_go C.1 C.2.1 [(.istore_n 3, 1), (.iconst 0, 1), (.istore 4, 2)] (pc' := 24) (by decide +kernel) rfl (lv' := [(0, sv_r a), (1, sv_i v), (2, sv_i w), (3, sv_i Jg5_s0), (4, sv_i 0)]) (st' := []) rfl ?_
    have L8 : ∀ (n : Nat) (Xg7_l3 : Int) (Xg7_l4 : Int), (0 ≤ Xg7_l3 ∧ Xg7_l3 ≤ 1) → (0 ≤ Xg7_l4 ∧ Xg7_l4 ≤ 12) → (12 - Xg7_l4) < (n : Int) → sv_E p l e { frames := 0, cells := 0, slots := 0, locals := 0 } s m args below meth c 5 g A ty (fun r σ' => σ = σ' ∧ ∃ rv : Int, r = [sv_i rv] ∧ (0 ≤ rv ∧ rv ≤ 1)) σ 24 [(0, sv_r a), (1, sv_i v), (2, sv_i w), (3, sv_i Xg7_l3), (4, sv_i Xg7_l4)] [] := by
      intro n
      induction n with
      | zero => intro Xg7_l3 Xg7_l4 hXg7_l3 hXg7_l4 hmu; exact absurd hmu (by omega)
      | succ n ih9 =>
        intro Xg7_l3 Xg7_l4 hXg7_l3 hXg7_l4 hmu
        refine sv_go C.1 C.2.1 [(.iload 4, 2), (.bipush 12, 2)] (pc' := 28) (by decide +kernel) rfl (lv' := [(0, sv_r a), (1, sv_i v), (2, sv_i w), (3, sv_i Xg7_l3), (4, sv_i Xg7_l4)]) (st' := [sv_i 12, sv_i Xg7_l4]) rfl ?_
        refine sv_icmp C.1 C.2.1 (cnd := .ge) (off := 46) (tgt := 74) (by decide +kernel) (by decide) ⟨by omega, by omega⟩ ⟨by omega, by omega⟩ (fun (h10 : 12 ≤ Xg7_l4) => ?_) (fun (h10 : ¬ (12 ≤ Xg7_l4)) => ?_)
        · refine sv_go C.1 C.2.1 [(.iload_n 3, 1)] (pc' := 75) (by decide +kernel) rfl (lv' := [(0, sv_r a), (1, sv_i v), (2, sv_i w), (3, sv_i Xg7_l3), (4, sv_i Xg7_l4)]) (st' := [sv_i Xg7_l3]) rfl ?_
          exact sv_zret C hr (by omega) (by decide +kernel) hok (⟨rfl, ⟨_, rfl, ⟨by omega, by omega⟩⟩⟩)
        · refine sv_go C.1 C.2.1 [(.iload_n 3, 1)] (pc' := 32) (by decide +kernel) rfl (lv' := [(0, sv_r a), (1, sv_i v), (2, sv_i w), (3, sv_i Xg7_l3), (4, sv_i Xg7_l4)]) (st' := [sv_i Xg7_l3]) rfl ?_
          refine sv_if C.1 C.2.1 (cnd := .eq) (off := 42) (tgt := 74) (by decide +kernel) (by decide) ⟨by omega, by omega⟩ (fun (h11 : Xg7_l3 = 0) => ?_) (fun (h11 : ¬ (Xg7_l3 = 0)) => ?_)
          · refine sv_go C.1 C.2.1 [(.iload_n 3, 1)] (pc' := 75) (by decide +kernel) rfl (lv' := [(0, sv_r a), (1, sv_i v), (2, sv_i w), (3, sv_i Xg7_l3), (4, sv_i Xg7_l4)]) (st' := [sv_i Xg7_l3]) rfl ?_
            exact sv_zret C hr (by omega) (by decide +kernel) hok (⟨rfl, ⟨_, rfl, ⟨by omega, by omega⟩⟩⟩)
          · refine sv_go C.1 C.2.1 [(.aload_n 0, 1)] (pc' := 36) (by decide +kernel) rfl (lv' := [(0, sv_r a), (1, sv_i v), (2, sv_i w), (3, sv_i Xg7_l3), (4, sv_i Xg7_l4)]) (st' := [sv_r a]) rfl ?_
            obtain ⟨v12, ev12, kv12⟩ := hI.ref (k := 14) k_a rfl
            refine sv_gf C (index := 91) (ci := 10) (k := 14) (r := (RX11, TX11, 47)) (v := sv_r v12) (by decide +kernel) (by rw [k_a]; rfl) rfl (by decide) fl_X11_91 (congrArg sv_a ev12) ?_
            refine sv_go C.1 C.2.1 [(.bipush 12, 2), (.iload_n 1, 1), (.imul, 1), (.iload 4, 2), (.iadd, 1)] (pc' := 46) (by decide +kernel) rfl (lv' := [(0, sv_r a), (1, sv_i v), (2, sv_i w), (3, sv_i Xg7_l3), (4, sv_i Xg7_l4)]) (st' := [sv_i ((12 * v) + Xg7_l4), sv_r v12]) rfl ?_
            refine sv_ba C (n := 3600) (by decide +kernel) (by rw [kv12]; rfl) (by decide) (by omega) (by omega) ?_
            obtain ⟨v13, ev13, hv13⟩ := sv_rdeb hok (a := v12) (k := ((12 * v) + Xg7_l4 : Int).toNat) (n := 3600) (by rw [kv12]; rfl) (by omega)
            rw [ev13]
            refine sv_go C.1 C.2.1 [(.aload_n 0, 1)] (pc' := 48) (by decide +kernel) rfl (lv' := [(0, sv_r a), (1, sv_i v), (2, sv_i w), (3, sv_i Xg7_l3), (4, sv_i Xg7_l4)]) (st' := [sv_r a, sv_i v13]) rfl ?_
            refine sv_gf C (index := 91) (ci := 10) (k := 14) (r := (RX11, TX11, 47)) (v := sv_r v12) (by decide +kernel) (by rw [k_a]; rfl) rfl (by decide) fl_X11_91 (congrArg sv_a ev12) ?_
            refine sv_go C.1 C.2.1 [(.bipush 12, 2), (.iload_n 2, 1), (.imul, 1), (.iload 4, 2), (.iadd, 1)] (pc' := 58) (by decide +kernel) rfl (lv' := [(0, sv_r a), (1, sv_i v), (2, sv_i w), (3, sv_i Xg7_l3), (4, sv_i Xg7_l4)]) (st' := [sv_i ((12 * w) + Xg7_l4), sv_r v12, sv_i v13]) rfl ?_
            refine sv_ba C (n := 3600) (by decide +kernel) (by rw [kv12]; rfl) (by decide) (by omega) (by omega) ?_
            obtain ⟨v14, ev14, hv14⟩ := sv_rdeb hok (a := v12) (k := ((12 * w) + Xg7_l4 : Int).toNat) (n := 3600) (by rw [kv12]; rfl) (by omega)
            rw [ev14]
            have J17 : ∀ (Jg16_s0 : Int), (0 ≤ Jg16_s0 ∧ Jg16_s0 ≤ 1) → sv_E p l e { frames := 0, cells := 0, slots := 0, locals := 0 } s m args below meth c 5 g A ty (fun r σ' => σ = σ' ∧ ∃ rv : Int, r = [sv_i rv] ∧ (0 ≤ rv ∧ rv ≤ 1)) σ 67 [(0, sv_r a), (1, sv_i v), (2, sv_i w), (4, sv_i Xg7_l4)] [sv_i Jg16_s0] := by
              intro Jg16_s0 hJg16_s0
              refine sv_go C.1 C.2.1 [(.istore_n 3, 1), (.iinc 4 1, 3)] (pc' := 71) (by decide +kernel) rfl (lv' := [(0, sv_r a), (1, sv_i v), (2, sv_i w), (3, sv_i Jg16_s0), (4, sv_i (Xg7_l4 + 1))]) (st' := []) rfl ?_
              refine sv_goto C.1 C.2.1 (off := (-47)) (tgt := 24) (by decide +kernel) (by decide) ?_
              exact ih9 Jg16_s0 (Xg7_l4 + 1) ⟨by omega, by omega⟩ ⟨by omega, by omega⟩ (by omega)
            refine sv_icmp C.1 C.2.1 (cnd := .ne) (off := 7) (tgt := 66) (by decide +kernel) (by decide) ⟨by omega, by omega⟩ ⟨by omega, by omega⟩ (fun (h15 : v13 ≠ v14) => ?_) (fun (h15 : ¬ (v13 ≠ v14)) => ?_)
            · refine sv_go C.1 C.2.1 [(.iconst 0, 1)] (pc' := 67) (by decide +kernel) rfl (lv' := [(0, sv_r a), (1, sv_i v), (2, sv_i w), (3, sv_i Xg7_l3), (4, sv_i Xg7_l4)]) (st' := [sv_i 0]) rfl ?_
              refine sv_pick [0, 1, 2, 4] (lv2 := [(0, sv_r a), (1, sv_i v), (2, sv_i w), (4, sv_i Xg7_l4)]) rfl ?_
              exact J17 0 ⟨by omega, by omega⟩
            · refine sv_go C.1 C.2.1 [(.iconst 1, 1)] (pc' := 63) (by decide +kernel) rfl (lv' := [(0, sv_r a), (1, sv_i v), (2, sv_i w), (3, sv_i Xg7_l3), (4, sv_i Xg7_l4)]) (st' := [sv_i 1]) rfl ?_
              refine sv_goto C.1 C.2.1 (off := 4) (tgt := 67) (by decide +kernel) (by decide) ?_
              refine sv_pick [0, 1, 2, 4] (lv2 := [(0, sv_r a), (1, sv_i v), (2, sv_i w), (4, sv_i Xg7_l4)]) rfl ?_
              exact J17 1 ⟨by omega, by omega⟩
    exact L8 (((12 - 0 : Int)).toNat + 1) Jg5_s0 0 ⟨by omega, by omega⟩ ⟨by omega, by omega⟩ (by omega)
  refine sv_icmp C.1 C.2.1 (cnd := .ne) (off := 7) (tgt := 19) (by decide +kernel) (by decide) ⟨by omega, by omega⟩ ⟨by omega, by omega⟩ (fun (h4 : v2 ≠ v3) => ?_) (fun (h4 : ¬ (v2 ≠ v3)) => ?_)
  · refine sv_go C.1 C.2.1 [(.iconst 0, 1)] (pc' := 20) (by decide +kernel) rfl (lv' := [(0, sv_r a), (1, sv_i v), (2, sv_i w)]) (st' := [sv_i 0]) rfl ?_
    exact J6 0 ⟨by omega, by omega⟩
  · refine sv_go C.1 C.2.1 [(.iconst 1, 1)] (pc' := 16) (by decide +kernel) rfl (lv' := [(0, sv_r a), (1, sv_i v), (2, sv_i w)]) (st' := [sv_i 1]) rfl ?_
    refine sv_goto C.1 C.2.1 (off := 4) (tgt := 20) (by decide +kernel) (by decide) ?_
    exact J6 1 ⟨by omega, by omega⟩

theorem fl_X11_102 : Cond.fieldLink RX11 102 "SaintsRoadModel" "tape" "[B" ∈ lw_good := sv_mem 1120 (by decide +kernel) rfl
theorem fl_X11_269 : Cond.fieldLink RX11 269 "SaintsRoadModel" "taped" "I" ∈ lw_good := sv_mem 1121 (by decide +kernel) rfl
set_option maxHeartbeats 4000000 in
set_option maxRecDepth 100000 in
theorem sf_X11_lay (l : Launch) (g : sv_G) (A : Nat → Prop) (ty : Nat → Nat) (σ : Nat → Nat → Int) (hok : sv_ok ty σ) (hTA : ∀ q, ty q ≠ 0 → A q) (hI : sv_inv sp_1 ty σ) (a : Nat) (k_a : ty a = 10) (v : Int) (h_v : (-2147483648) ≤ v ∧ v ≤ 2147483647) (n7 : Int) (h_n7 : 0 ≤ n7 ∧ n7 ≤ 3996) (hn7 : σ a 17 = n7) : sv_M l yX11_lay cX11_lay 3 none { frames := 0, cells := 0, slots := 0, locals := 0 } g A ty σ [sv_r a, sv_i v] (fun r σ' => (r = []) ∧ sv_inv sp_1 ty σ' ∧ sv_ofx [(10, 17)] [76] ty σ σ' ∧ σ' a 17 = n7 + 4) := by
  refine sv_enter (by decide) (Nat.le_of_ble_eq_true rfl) ?_
  intro p e s m args below meth c C hr
  have C : sv_C g A RX11 cX11_lay 3 p s m args meth c := C
  have hr : meth.sig.returnType = none := hr
  have hF : sv_ofx [(10, 17)] [76] ty σ σ := sv_ofx.rf
  refine sv_same (st2 := []) (lv2 := [(0, sv_r a), (1, sv_i v)]) rfl rfl ?_
  refine sv_go C.1 C.2.1 [(.bipush 24, 2), (.istore_n 2, 1)] (pc' := 3) (by decide +kernel) rfl (lv' := [(0, sv_r a), (1, sv_i v), (2, sv_i 24)]) (st' := []) rfl ?_
  have L3 : ∀ (n : Nat) (Xg1_l2 : Int) (Xg1_fa_17 : Int) (σ2 : Nat → Nat → Int), ((-8) ≤ Xg1_l2 ∧ Xg1_l2 ≤ 24) → (0 ≤ Xg1_fa_17 ∧ Xg1_fa_17 ≤ 4000) → (sv_ok ty σ2) → (sv_inv sp_1 ty σ2) → (sv_ofx [(10, 17)] [76] ty σ σ2) → (σ2 a 17 = Xg1_fa_17) → (Xg1_fa_17 * 8 + Xg1_l2 = n7 * 8 + 24) → (Xg1_l2 - (-8)) < (n : Int) → sv_E p l e { frames := 0, cells := 0, slots := 0, locals := 0 } s m args below meth c 3 g A ty (fun r σ' => (r = []) ∧ sv_inv sp_1 ty σ' ∧ sv_ofx [(10, 17)] [76] ty σ σ' ∧ σ' a 17 = n7 + 4) σ2 3 [(0, sv_r a), (1, sv_i v), (2, sv_i Xg1_l2)] [] := by
    intro n
    induction n with
    | zero => intro Xg1_l2 Xg1_fa_17 σ2 hXg1_l2 hXg1_fa_17 okσ2 Iσ2 Fσ2 eσ2_0 hx7 hmu; exact absurd hmu (by omega)
    | succ n ih4 =>
      intro Xg1_l2 Xg1_fa_17 σ2 hXg1_l2 hXg1_fa_17 okσ2 Iσ2 Fσ2 eσ2_0 hx7 hmu
      refine sv_go C.1 C.2.1 [(.iload_n 2, 1)] (pc' := 4) (by decide +kernel) rfl (lv' := [(0, sv_r a), (1, sv_i v), (2, sv_i Xg1_l2)]) (st' := [sv_i Xg1_l2]) rfl ?_
      refine sv_if C.1 C.2.1 (cnd := .lt) (off := 32) (tgt := 36) (by decide +kernel) (by decide) ⟨by omega, by omega⟩ (fun (h5 : Xg1_l2 < 0) => ?_) (fun (h5 : ¬ (Xg1_l2 < 0)) => ?_)
      · exact sv_vret C hr (by decide +kernel) okσ2 (⟨rfl, Iσ2, Fσ2, by rw [eσ2_0]; omega⟩)
      · refine sv_go C.1 C.2.1 [(.aload_n 0, 1)] (pc' := 8) (by decide +kernel) rfl (lv' := [(0, sv_r a), (1, sv_i v), (2, sv_i Xg1_l2)]) (st' := [sv_r a]) rfl ?_
        obtain ⟨v6, ev6, kv6⟩ := Iσ2.ref (k := 16) k_a rfl
        refine sv_gf C (index := 102) (ci := 10) (k := 16) (r := (RX11, TX11, 47)) (v := sv_r v6) (by decide +kernel) (by rw [k_a]; rfl) rfl (by decide) fl_X11_102 (congrArg sv_a ev6) ?_
        refine sv_go C.1 C.2.1 [(.aload_n 0, 1)] (pc' := 12) (by decide +kernel) rfl (lv' := [(0, sv_r a), (1, sv_i v), (2, sv_i Xg1_l2)]) (st' := [sv_r a, sv_r v6]) rfl ?_
        refine sv_gf C (index := 269) (ci := 10) (k := 17) (r := (RX11, TX11, 47)) (v := sv_i Xg1_fa_17) (by decide +kernel) (by rw [k_a]; rfl) rfl (by decide) fl_X11_269 (congrArg sv_i eσ2_0) ?_
        refine sv_go C.1 C.2.1 [(.iload_n 1, 1), (.iload_n 2, 1), (.ishr, 1), (.i2b, 1)] (pc' := 19) (by decide +kernel) rfl (lv' := [(0, sv_r a), (1, sv_i v), (2, sv_i Xg1_l2)]) (st' := [sv_i ((Int32.ofInt ((Int32.ofInt v >>> (Int32.ofInt Xg1_l2 &&& 31)).toInt)).toInt8.toInt32.toInt), sv_i Xg1_fa_17, sv_r v6]) rfl ?_
        have hb7 : (-2147483648) ≤ (Int32.ofInt v >>> (Int32.ofInt Xg1_l2 &&& 31)).toInt ∧ (Int32.ofInt v >>> (Int32.ofInt Xg1_l2 &&& 31)).toInt ≤ 2147483647 := sv_ioin2 (Int32.ofInt v >>> (Int32.ofInt Xg1_l2 &&& 31))
        have hb8 : (-128) ≤ (Int32.ofInt ((Int32.ofInt v >>> (Int32.ofInt Xg1_l2 &&& 31)).toInt)).toInt8.toInt32.toInt ∧ (Int32.ofInt ((Int32.ofInt v >>> (Int32.ofInt Xg1_l2 &&& 31)).toInt)).toInt8.toInt32.toInt ≤ 127 := sv_by (Int32.ofInt ((Int32.ofInt v >>> (Int32.ofInt Xg1_l2 &&& 31)).toInt))
        refine sv_bs C (n := 4000) (by decide +kernel) (by rw [kv6]; rfl) (by decide) (by omega) (by omega) ⟨by omega, by omega⟩ (hTA _ (by rw [kv6]; decide)) okσ2 (fun hok9 => ?_)
        have hI11 := Iσ2.up (a := v6) (k := (Xg1_fa_17 : Int).toNat) (z := (Int32.ofInt ((Int32.ofInt v >>> (Int32.ofInt Xg1_l2 &&& 31)).toInt)).toInt8.toInt32.toInt) (by rw [kv6]; exact trivial)
        have hF12 := Fσ2.up (a := v6) (k := (Xg1_fa_17 : Int).toNat) (z := (Int32.ofInt ((Int32.ofInt v >>> (Int32.ofInt Xg1_l2 &&& 31)).toInt)).toInt8.toInt32.toInt) (Or.inl (by rw [kv6]; decide))
        generalize eσ10 : sv_up σ2 v6 (Xg1_fa_17 : Int).toNat ((Int32.ofInt ((Int32.ofInt v >>> (Int32.ofInt Xg1_l2 &&& 31)).toInt)).toInt8.toInt32.toInt) = σ10 at hok9 hI11 hF12 ⊢
        have t13 : σ10 a 17 = Xg1_fa_17 := by rw [← eσ10, sv_up_a (sv_ne k_a kv6 (by decide))]; exact eσ2_0
        have t14 : σ10 a 16 = (v6 : Int) + 1 := by rw [← eσ10, sv_up_a (sv_ne k_a kv6 (by decide))]; exact ev6
        have t15 : σ10 v6 (Xg1_fa_17 : Int).toNat = (Int32.ofInt ((Int32.ofInt v >>> (Int32.ofInt Xg1_l2 &&& 31)).toInt)).toInt8.toInt32.toInt := by rw [← eσ10]; exact sv_up_s _ _ _ _
        refine sv_go C.1 C.2.1 [(.aload_n 0, 1), (.dup, 1)] (pc' := 22) (by decide +kernel) rfl (lv' := [(0, sv_r a), (1, sv_i v), (2, sv_i Xg1_l2)]) (st' := [sv_r a, sv_r a]) rfl ?_
        refine sv_gf C (index := 269) (ci := 10) (k := 17) (r := (RX11, TX11, 47)) (v := sv_i Xg1_fa_17) (by decide +kernel) (by rw [k_a]; rfl) rfl (by decide) fl_X11_269 (congrArg sv_i t13) ?_
        refine sv_go C.1 C.2.1 [(.iconst 1, 1), (.iadd, 1)] (pc' := 27) (by decide +kernel) rfl (lv' := [(0, sv_r a), (1, sv_i v), (2, sv_i Xg1_l2)]) (st' := [sv_i (Xg1_fa_17 + 1), sv_r a]) rfl ?_
        refine sv_pf C (index := 269) (ci := 10) (k := 17) (r := (RX11, TX11, 47)) (z := Xg1_fa_17 + 1) (by decide +kernel) (by rw [k_a]; rfl) rfl (by decide) rfl fl_X11_269 rfl (Or.inl rfl) ⟨by omega, by omega⟩ (hTA _ (by rw [k_a]; decide)) hok9 (fun hok16 => ?_)
        have hI18 := hI11.up (a := a) (k := 17) (z := Xg1_fa_17 + 1) (by rw [k_a]; exact ⟨by omega, by omega⟩)
        have hF19 := hF12.up (a := a) (k := 17) (z := Xg1_fa_17 + 1) (Or.inr (by rw [k_a]; decide))
        generalize eσ17 : sv_up σ10 a 17 (Xg1_fa_17 + 1) = σ17 at hok16 hI18 hF19 ⊢
        have t20 : σ17 a 16 = (v6 : Int) + 1 := by rw [← eσ17, sv_up_k (by decide)]; exact t14
        have t21 : σ17 v6 (Xg1_fa_17 : Int).toNat = (Int32.ofInt ((Int32.ofInt v >>> (Int32.ofInt Xg1_l2 &&& 31)).toInt)).toInt8.toInt32.toInt := by rw [← eσ17, sv_up_a (sv_ne kv6 k_a (by decide))]; exact t15
        have t22 : σ17 a 17 = Xg1_fa_17 + 1 := by rw [← eσ17]; exact sv_up_s _ _ _ _
        refine sv_go C.1 C.2.1 [(.iinc 2 (-8), 3)] (pc' := 33) (by decide +kernel) rfl (lv' := [(0, sv_r a), (1, sv_i v), (2, sv_i (Xg1_l2 + (-8)))]) (st' := []) rfl ?_
        refine sv_goto C.1 C.2.1 (off := (-30)) (tgt := 3) (by decide +kernel) (by decide) ?_
        exact ih4 (Xg1_l2 + (-8)) (Xg1_fa_17 + 1) σ17 ⟨by omega, by omega⟩ ⟨by omega, by omega⟩ hok16 hI18 hF19 t22 (by omega) (by omega)
  exact L3 (((24 - (-8) : Int)).toNat + 1) 24 n7 σ ⟨by omega, by omega⟩ ⟨by omega, by omega⟩ hok hI hF hn7 (by omega) (by omega)

theorem ml_X11_272 : Cond.methodLink RX11 272 yX11_lay ∈ lw_good := sv_mem 1250 (by decide +kernel) rfl
theorem co_X11_lay : Cond.code yX11_lay cX11_lay 3 none ∈ lw_good := sv_mem 1253 (by decide +kernel) rfl
theorem im_X11_lay : Cond.instanceMethod yX11_lay ∈ lw_good := sv_mem 1252 (by decide +kernel) rfl
theorem se_X11_lay : Cond.selects RX11 yX11_lay yX11_lay ∈ lw_good := sv_mem 43 (by decide +kernel) rfl
set_option maxHeartbeats 4000000 in
set_option maxRecDepth 100000 in
theorem sf_X11_feed (l : Launch) (g : sv_G) (A : Nat → Prop) (ty : Nat → Nat) (σ : Nat → Nat → Int) (hok : sv_ok ty σ) (hTA : ∀ q, ty q ≠ 0 → A q) (hI : sv_inv sp_1 ty σ) (a : Nat) (k_a : ty a = 10) (ar1 : Int) (h_ar1 : (-2147483648) ≤ ar1 ∧ ar1 ≤ 2147483647) (ar2 : Int) (h_ar2 : (-2147483648) ≤ ar2 ∧ ar2 ≤ 2147483647) (ar3 : Int) (h_ar3 : (-2147483648) ≤ ar3 ∧ ar3 ≤ 2147483647) (ar4 : Int) (h_ar4 : (-2147483648) ≤ ar4 ∧ ar4 ≤ 2147483647) (ar5 : Int) (h_ar5 : (-2147483648) ≤ ar5 ∧ ar5 ≤ 2147483647) : sv_M l yX11_feed cX11_feed 6 (some .int) { frames := 1, cells := 0, slots := 0, locals := 22 } g A ty σ [sv_r a, sv_i ar1, sv_i ar2, sv_i ar3, sv_i ar4, sv_i ar5] (fun r σ' => (∃ rv : Int, r = [sv_i rv] ∧ ((-3) ≤ rv ∧ rv ≤ 4000)) ∧ sv_inv sp_1 ty σ' ∧ sv_ofx [(10, 17)] [76] ty σ σ') := by
  refine sv_enter (by decide) (Nat.le_of_ble_eq_true rfl) ?_
  intro p e s m args below meth c C hr
  have C : sv_C g A RX11 cX11_feed 6 p s m args meth c := C
  have hr : meth.sig.returnType = (some .int) := hr
  have hF : sv_ofx [(10, 17)] [76] ty σ σ := sv_ofx.rf
  refine sv_same (st2 := []) (lv2 := [(0, sv_r a), (1, sv_i ar1), (2, sv_i ar2), (3, sv_i ar3), (4, sv_i ar4), (5, sv_i ar5)]) rfl rfl ?_
  refine sv_go C.1 C.2.1 [(.aload_n 0, 1)] (pc' := 1) (by decide +kernel) rfl (lv' := [(0, sv_r a), (1, sv_i ar1), (2, sv_i ar2), (3, sv_i ar3), (4, sv_i ar4), (5, sv_i ar5)]) (st' := [sv_r a]) rfl ?_
  obtain ⟨v1, ev1, hv1⟩ := sv_rdn hI (k := 17) k_a rfl
  refine sv_gf C (index := 269) (ci := 10) (k := 17) (r := (RX11, TX11, 47)) (v := sv_i v1) (by decide +kernel) (by rw [k_a]; rfl) rfl (by decide) fl_X11_269 (congrArg sv_i ev1) ?_
  refine sv_go C.1 C.2.1 [(.bipush 20, 2), (.iadd, 1), (.sipush 4000, 3)] (pc' := 10) (by decide +kernel) rfl (lv' := [(0, sv_r a), (1, sv_i ar1), (2, sv_i ar2), (3, sv_i ar3), (4, sv_i ar4), (5, sv_i ar5)]) (st' := [sv_i 4000, sv_i (v1 + 20)]) rfl ?_
  refine sv_icmp C.1 C.2.1 (cnd := .le) (off := 6) (tgt := 16) (by decide +kernel) (by decide) ⟨by omega, by omega⟩ ⟨by omega, by omega⟩ (fun (h2 : (v1 + 20) ≤ 4000) => ?_) (fun (h2 : ¬ ((v1 + 20) ≤ 4000)) => ?_)
  · refine sv_go C.1 C.2.1 [(.aload_n 0, 1), (.iload_n 1, 1)] (pc' := 18) (by decide +kernel) rfl (lv' := [(0, sv_r a), (1, sv_i ar1), (2, sv_i ar2), (3, sv_i ar3), (4, sv_i ar4), (5, sv_i ar5)]) (st' := [sv_i ar1, sv_r a]) rfl ?_
    refine sv_cv C (index := 272) (k := 1) (rest := []) (ci := 10) (r := (RX11, TX11, 47)) (by decide +kernel) (sf_X11_lay l g A ty σ hok hTA hI a k_a (ar1) ⟨by omega, by omega⟩ (v1) ⟨by omega, by omega⟩ ev1) ⟨co_X11_lay, in_X11, ⟨by decide, by decide, by decide +kernel⟩, Nat.le_of_ble_eq_true rfl, Nat.le_of_ble_eq_true rfl⟩ ml_X11_272 im_X11_lay se_X11_lay (by rw [k_a]; rfl) rfl rfl rfl (Nat.le_of_ble_eq_true rfl) ⟨Nat.zero_le _, Nat.zero_le _⟩ (fun r4 σ5 hpo3 hok6 => ?_)
    obtain ⟨rfl, hIu7, hFu7, xu7⟩ := hpo3
    have hGu7 := hF.tr hFu7 (by decide) (by decide)
    obtain ⟨wu7, ewu7, hwu7⟩ := sv_rdn hIu7 (k := 17) k_a rfl
    refine sv_same (st2 := []) (lv2 := [(0, sv_r a), (1, sv_i ar1), (2, sv_i ar2), (3, sv_i ar3), (4, sv_i ar4), (5, sv_i ar5)]) rfl rfl ?_
    refine sv_go C.1 C.2.1 [(.aload_n 0, 1), (.iload_n 2, 1)] (pc' := 23) (by decide +kernel) rfl (lv' := [(0, sv_r a), (1, sv_i ar1), (2, sv_i ar2), (3, sv_i ar3), (4, sv_i ar4), (5, sv_i ar5)]) (st' := [sv_i ar2, sv_r a]) rfl ?_
    refine sv_cv C (index := 272) (k := 1) (rest := []) (ci := 10) (r := (RX11, TX11, 47)) (by decide +kernel) (sf_X11_lay l g A ty σ5 hok6 hTA hIu7 a k_a (ar2) ⟨by omega, by omega⟩ (wu7) ⟨by omega, by omega⟩ ewu7) ⟨co_X11_lay, in_X11, ⟨by decide, by decide, by decide +kernel⟩, Nat.le_of_ble_eq_true rfl, Nat.le_of_ble_eq_true rfl⟩ ml_X11_272 im_X11_lay se_X11_lay (by rw [k_a]; rfl) rfl rfl rfl (Nat.le_of_ble_eq_true rfl) ⟨Nat.zero_le _, Nat.zero_le _⟩ (fun r9 σ10 hpo8 hok11 => ?_)
    obtain ⟨rfl, hIu12, hFu12, xu12⟩ := hpo8
    have hGu12 := hGu7.tr hFu12 (by decide) (by decide)
    obtain ⟨wu12, ewu12, hwu12⟩ := sv_rdn hIu12 (k := 17) k_a rfl
    refine sv_same (st2 := []) (lv2 := [(0, sv_r a), (1, sv_i ar1), (2, sv_i ar2), (3, sv_i ar3), (4, sv_i ar4), (5, sv_i ar5)]) rfl rfl ?_
    refine sv_go C.1 C.2.1 [(.aload_n 0, 1), (.iload_n 3, 1)] (pc' := 28) (by decide +kernel) rfl (lv' := [(0, sv_r a), (1, sv_i ar1), (2, sv_i ar2), (3, sv_i ar3), (4, sv_i ar4), (5, sv_i ar5)]) (st' := [sv_i ar3, sv_r a]) rfl ?_
    refine sv_cv C (index := 272) (k := 1) (rest := []) (ci := 10) (r := (RX11, TX11, 47)) (by decide +kernel) (sf_X11_lay l g A ty σ10 hok11 hTA hIu12 a k_a (ar3) ⟨by omega, by omega⟩ (wu12) ⟨by omega, by omega⟩ ewu12) ⟨co_X11_lay, in_X11, ⟨by decide, by decide, by decide +kernel⟩, Nat.le_of_ble_eq_true rfl, Nat.le_of_ble_eq_true rfl⟩ ml_X11_272 im_X11_lay se_X11_lay (by rw [k_a]; rfl) rfl rfl rfl (Nat.le_of_ble_eq_true rfl) ⟨Nat.zero_le _, Nat.zero_le _⟩ (fun r14 σ15 hpo13 hok16 => ?_)
    obtain ⟨rfl, hIu17, hFu17, xu17⟩ := hpo13
    have hGu17 := hGu12.tr hFu17 (by decide) (by decide)
    obtain ⟨wu17, ewu17, hwu17⟩ := sv_rdn hIu17 (k := 17) k_a rfl
    refine sv_same (st2 := []) (lv2 := [(0, sv_r a), (1, sv_i ar1), (2, sv_i ar2), (3, sv_i ar3), (4, sv_i ar4), (5, sv_i ar5)]) rfl rfl ?_
    refine sv_go C.1 C.2.1 [(.aload_n 0, 1), (.iload 4, 2)] (pc' := 34) (by decide +kernel) rfl (lv' := [(0, sv_r a), (1, sv_i ar1), (2, sv_i ar2), (3, sv_i ar3), (4, sv_i ar4), (5, sv_i ar5)]) (st' := [sv_i ar4, sv_r a]) rfl ?_
    refine sv_cv C (index := 272) (k := 1) (rest := []) (ci := 10) (r := (RX11, TX11, 47)) (by decide +kernel) (sf_X11_lay l g A ty σ15 hok16 hTA hIu17 a k_a (ar4) ⟨by omega, by omega⟩ (wu17) ⟨by omega, by omega⟩ ewu17) ⟨co_X11_lay, in_X11, ⟨by decide, by decide, by decide +kernel⟩, Nat.le_of_ble_eq_true rfl, Nat.le_of_ble_eq_true rfl⟩ ml_X11_272 im_X11_lay se_X11_lay (by rw [k_a]; rfl) rfl rfl rfl (Nat.le_of_ble_eq_true rfl) ⟨Nat.zero_le _, Nat.zero_le _⟩ (fun r19 σ20 hpo18 hok21 => ?_)
    obtain ⟨rfl, hIu22, hFu22, xu22⟩ := hpo18
    have hGu22 := hGu17.tr hFu22 (by decide) (by decide)
    obtain ⟨wu22, ewu22, hwu22⟩ := sv_rdn hIu22 (k := 17) k_a rfl
    refine sv_same (st2 := []) (lv2 := [(0, sv_r a), (1, sv_i ar1), (2, sv_i ar2), (3, sv_i ar3), (4, sv_i ar4), (5, sv_i ar5)]) rfl rfl ?_
    refine sv_go C.1 C.2.1 [(.aload_n 0, 1), (.iload 5, 2)] (pc' := 40) (by decide +kernel) rfl (lv' := [(0, sv_r a), (1, sv_i ar1), (2, sv_i ar2), (3, sv_i ar3), (4, sv_i ar4), (5, sv_i ar5)]) (st' := [sv_i ar5, sv_r a]) rfl ?_
    refine sv_cv C (index := 272) (k := 1) (rest := []) (ci := 10) (r := (RX11, TX11, 47)) (by decide +kernel) (sf_X11_lay l g A ty σ20 hok21 hTA hIu22 a k_a (ar5) ⟨by omega, by omega⟩ (wu22) ⟨by omega, by omega⟩ ewu22) ⟨co_X11_lay, in_X11, ⟨by decide, by decide, by decide +kernel⟩, Nat.le_of_ble_eq_true rfl, Nat.le_of_ble_eq_true rfl⟩ ml_X11_272 im_X11_lay se_X11_lay (by rw [k_a]; rfl) rfl rfl rfl (Nat.le_of_ble_eq_true rfl) ⟨Nat.zero_le _, Nat.zero_le _⟩ (fun r24 σ25 hpo23 hok26 => ?_)
    obtain ⟨rfl, hIu27, hFu27, xu27⟩ := hpo23
    have hGu27 := hGu22.tr hFu27 (by decide) (by decide)
    obtain ⟨wu27, ewu27, hwu27⟩ := sv_rdn hIu27 (k := 17) k_a rfl
    refine sv_same (st2 := []) (lv2 := [(0, sv_r a), (1, sv_i ar1), (2, sv_i ar2), (3, sv_i ar3), (4, sv_i ar4), (5, sv_i ar5)]) rfl rfl ?_
    refine sv_go C.1 C.2.1 [(.aload_n 0, 1)] (pc' := 44) (by decide +kernel) rfl (lv' := [(0, sv_r a), (1, sv_i ar1), (2, sv_i ar2), (3, sv_i ar3), (4, sv_i ar4), (5, sv_i ar5)]) (st' := [sv_r a]) rfl ?_
    refine sv_gf C (index := 269) (ci := 10) (k := 17) (r := (RX11, TX11, 47)) (v := sv_i wu27) (by decide +kernel) (by rw [k_a]; rfl) rfl (by decide) fl_X11_269 (congrArg sv_i ewu27) ?_
    exact sv_iret C hr (by decide +kernel) hok26 (⟨⟨_, rfl, ⟨by omega, by omega⟩⟩, hIu27, hGu27⟩)
  · refine sv_go C.1 C.2.1 [(.bipush (-3), 2)] (pc' := 15) (by decide +kernel) rfl (lv' := [(0, sv_r a), (1, sv_i ar1), (2, sv_i ar2), (3, sv_i ar3), (4, sv_i ar4), (5, sv_i ar5)]) (st' := [sv_i ((-3))]) rfl ?_
    exact sv_iret C hr (by decide +kernel) hok (⟨⟨_, rfl, ⟨by omega, by omega⟩⟩, hI, hF⟩)

set_option maxHeartbeats 4000000 in
set_option maxRecDepth 100000 in
theorem sf_X11_end (l : Launch) (g : sv_G) (A : Nat → Prop) (ty : Nat → Nat) (σ : Nat → Nat → Int) (hok : sv_ok ty σ) (hTA : ∀ q, ty q ≠ 0 → A q) (hI : sv_inv sp_1 ty σ) (a : Nat) (k_a : ty a = 10) (ar1 : Int) (h_ar1 : (-2147483648) ≤ ar1 ∧ ar1 ≤ 2147483647) : sv_M l yX11_end cX11_end 2 (some .int) { frames := 1, cells := 0, slots := 0, locals := 25 } g A ty σ [sv_r a, sv_i ar1] (fun r σ' => (∃ rv : Int, r = [sv_i rv] ∧ ((-1) ≤ rv ∧ rv ≤ 4000)) ∧ sv_inv sp_1 ty σ' ∧ sv_ofx [(10, 17)] [] ty σ σ') := by
  refine sv_enter (by decide) (Nat.le_of_ble_eq_true rfl) ?_
  intro p e s m args below meth c C hr
  have C : sv_C g A RX11 cX11_end 2 p s m args meth c := C
  have hr : meth.sig.returnType = (some .int) := hr
  have hF : sv_ofx [(10, 17)] [] ty σ σ := sv_ofx.rf
  refine sv_same (st2 := []) (lv2 := [(0, sv_r a), (1, sv_i ar1)]) rfl rfl ?_
  refine sv_go C.1 C.2.1 [(.iload_n 1, 1)] (pc' := 1) (by decide +kernel) rfl (lv' := [(0, sv_r a), (1, sv_i ar1)]) (st' := [sv_i ar1]) rfl ?_
  refine sv_i2l C.1 C.2.1 (by decide +kernel) ⟨by omega, by omega⟩ ?_
  refine sv_go C.1 C.2.1 [(.lconst 0, 1), (.aload_n 0, 1)] (pc' := 4) (by decide +kernel) rfl (lv' := [(0, sv_r a), (1, sv_i ar1)]) (st' := [sv_r a, sv_l 0, sv_l ar1]) rfl ?_
  obtain ⟨v1, ev1, hv1⟩ := sv_rdn hI (k := 17) k_a rfl
  refine sv_gf C (index := 269) (ci := 10) (k := 17) (r := (RX11, TX11, 47)) (v := sv_i v1) (by decide +kernel) (by rw [k_a]; rfl) rfl (by decide) fl_X11_269 (congrArg sv_i ev1) ?_
  refine sv_i2l C.1 C.2.1 (by decide +kernel) ⟨by omega, by omega⟩ ?_
  refine sv_cs C (index := 9) (k := 3) (rest := []) (by decide +kernel) (ct_X11_in l g A ty σ hok (ar1) ⟨by omega, by omega⟩ (0) ⟨by omega, by omega⟩ (v1) ⟨by omega, by omega⟩) ⟨co_X11_in, in_X11, ⟨by decide, by decide, by decide +kernel⟩, Nat.le_of_ble_eq_true rfl, Nat.le_of_ble_eq_true rfl⟩ ml_X11_9 st_X11_in rfl rfl (Nat.le_of_ble_eq_true rfl) ⟨Nat.zero_le _, Nat.zero_le _⟩ (fun r3 σ4 hpo2 hok5 => ?_)
  obtain ⟨rfl, ⟨h6, rfl⟩ | ⟨h6, rfl⟩⟩ := hpo2
  · refine sv_same (st2 := [sv_i 1]) (lv2 := [(0, sv_r a), (1, sv_i ar1)]) rfl rfl ?_
    refine sv_if_t C.1 C.2.1 (cnd := .ne) (off := 5) (tgt := 16) (by decide +kernel) (by decide) ⟨by omega, by omega⟩ (show 1 ≠ 0 by omega) ?_
    refine sv_go C.1 C.2.1 [(.aload_n 0, 1), (.iload_n 1, 1)] (pc' := 18) (by decide +kernel) rfl (lv' := [(0, sv_r a), (1, sv_i ar1)]) (st' := [sv_i ar1, sv_r a]) rfl ?_
    refine sv_pf C (index := 269) (ci := 10) (k := 17) (r := (RX11, TX11, 47)) (z := ar1) (by decide +kernel) (by rw [k_a]; rfl) rfl (by decide) rfl fl_X11_269 rfl (Or.inl rfl) ⟨by omega, by omega⟩ (hTA _ (by rw [k_a]; decide)) hok5 (fun hok7 => ?_)
    have hI9 := hI.up (a := a) (k := 17) (z := ar1) (by rw [k_a]; exact ⟨by omega, by omega⟩)
    have hF10 := hF.up (a := a) (k := 17) (z := ar1) (Or.inr (by rw [k_a]; decide))
    generalize eσ8 : sv_up σ a 17 ar1 = σ8 at hok7 hI9 hF10 ⊢
    have t11 : σ8 a 17 = ar1 := by rw [← eσ8]; exact sv_up_s _ _ _ _
    refine sv_go C.1 C.2.1 [(.iload_n 1, 1)] (pc' := 22) (by decide +kernel) rfl (lv' := [(0, sv_r a), (1, sv_i ar1)]) (st' := [sv_i ar1]) rfl ?_
    exact sv_iret C hr (by decide +kernel) hok7 (⟨⟨_, rfl, ⟨by omega, by omega⟩⟩, hI9, hF10⟩)
  · refine sv_same (st2 := [sv_i 0]) (lv2 := [(0, sv_r a), (1, sv_i ar1)]) rfl rfl ?_
    refine sv_if_f C.1 C.2.1 (cnd := .ne) (off := 5) (tgt := 16) (by decide +kernel) (by decide) ⟨by omega, by omega⟩ (show ¬ (0 ≠ 0) by omega) ?_
    refine sv_go C.1 C.2.1 [(.iconst (-1), 1)] (pc' := 15) (by decide +kernel) rfl (lv' := [(0, sv_r a), (1, sv_i ar1)]) (st' := [sv_i ((-1))]) rfl ?_
    exact sv_iret C hr (by decide +kernel) hok5 (⟨⟨_, rfl, ⟨by omega, by omega⟩⟩, hI, hF⟩)

theorem fl_X11_105 : Cond.fieldLink RX11 105 "SaintsRoadModel" "faultAt" "I" ∈ lw_good := sv_mem 1128 (by decide +kernel) rfl
theorem fl_X11_169 : Cond.fieldLink RX11 169 "SaintsRoadModel" "fault" "I" ∈ lw_good := sv_mem 1127 (by decide +kernel) rfl
set_option maxHeartbeats 4000000 in
set_option maxRecDepth 100000 in
theorem sf_X11_fault (l : Launch) (g : sv_G) (A : Nat → Prop) (ty : Nat → Nat) (σ : Nat → Nat → Int) (hok : sv_ok ty σ) (hTA : ∀ q, ty q ≠ 0 → A q) (hI : sv_inv sp_1 ty σ) (a : Nat) (k_a : ty a = 10) (ar1 : Int) (h_ar1 : (-2147483648) ≤ ar1 ∧ ar1 ≤ 2147483647) : sv_M l yX11_fault cX11_fault 2 (some .int) { frames := 0, cells := 0, slots := 0, locals := 0 } g A ty σ [sv_r a, sv_i ar1] (fun r σ' => σ = σ' ∧ ∃ rv : Int, r = [sv_i rv] ∧ ((-2147483648) ≤ rv ∧ rv ≤ 2147483647)) := by
  refine sv_enter (by decide) (Nat.le_of_ble_eq_true rfl) ?_
  intro p e s m args below meth c C hr
  have C : sv_C g A RX11 cX11_fault 2 p s m args meth c := C
  have hr : meth.sig.returnType = (some .int) := hr
  have hF : sv_ofx [] [] ty σ σ := sv_ofx.rf
  refine sv_same (st2 := []) (lv2 := [(0, sv_r a), (1, sv_i ar1)]) rfl rfl ?_
  refine sv_go C.1 C.2.1 [(.iload_n 1, 1)] (pc' := 1) (by decide +kernel) rfl (lv' := [(0, sv_r a), (1, sv_i ar1)]) (st' := [sv_i ar1]) rfl ?_
  refine sv_if C.1 C.2.1 (cnd := .ne) (off := 10) (tgt := 11) (by decide +kernel) (by decide) ⟨by omega, by omega⟩ (fun (h1 : ar1 ≠ 0) => ?_) (fun (h1 : ¬ (ar1 ≠ 0)) => ?_)
  · refine sv_go C.1 C.2.1 [(.iload_n 1, 1), (.iconst 1, 1)] (pc' := 13) (by decide +kernel) rfl (lv' := [(0, sv_r a), (1, sv_i ar1)]) (st' := [sv_i 1, sv_i ar1]) rfl ?_
    refine sv_icmp C.1 C.2.1 (cnd := .ne) (off := 10) (tgt := 23) (by decide +kernel) (by decide) ⟨by omega, by omega⟩ ⟨by omega, by omega⟩ (fun (h2 : ar1 ≠ 1) => ?_) (fun (h2 : ¬ (ar1 ≠ 1)) => ?_)
    · refine sv_go C.1 C.2.1 [(.iconst (-1), 1)] (pc' := 24) (by decide +kernel) rfl (lv' := [(0, sv_r a), (1, sv_i ar1)]) (st' := [sv_i ((-1))]) rfl ?_
      exact sv_iret C hr (by decide +kernel) hok (⟨rfl, ⟨_, rfl, ⟨by omega, by omega⟩⟩⟩)
    · refine sv_go C.1 C.2.1 [(.aload_n 0, 1)] (pc' := 17) (by decide +kernel) rfl (lv' := [(0, sv_r a), (1, sv_i ar1)]) (st' := [sv_r a]) rfl ?_
      obtain ⟨v3, ev3, hv3⟩ := sv_rdk hok (a := a) (k := 24) (ci := 10) (r := (RX11, TX11, 47)) (by rw [k_a]; rfl) rfl (by decide) rfl
      refine sv_gf C (index := 105) (ci := 10) (k := 24) (r := (RX11, TX11, 47)) (v := sv_i v3) (by decide +kernel) (by rw [k_a]; rfl) rfl (by decide) fl_X11_105 (congrArg sv_i ev3) ?_
      refine sv_goto C.1 C.2.1 (off := 4) (tgt := 24) (by decide +kernel) (by decide) ?_
      exact sv_iret C hr (by decide +kernel) hok (⟨rfl, ⟨_, rfl, ⟨by omega, by omega⟩⟩⟩)
  · refine sv_go C.1 C.2.1 [(.aload_n 0, 1)] (pc' := 5) (by decide +kernel) rfl (lv' := [(0, sv_r a), (1, sv_i ar1)]) (st' := [sv_r a]) rfl ?_
    obtain ⟨v4, ev4, hv4⟩ := sv_rdk hok (a := a) (k := 23) (ci := 10) (r := (RX11, TX11, 47)) (by rw [k_a]; rfl) rfl (by decide) rfl
    refine sv_gf C (index := 169) (ci := 10) (k := 23) (r := (RX11, TX11, 47)) (v := sv_i v4) (by decide +kernel) (by rw [k_a]; rfl) rfl (by decide) fl_X11_169 (congrArg sv_i ev4) ?_
    refine sv_goto C.1 C.2.1 (off := 16) (tgt := 24) (by decide +kernel) (by decide) ?_
    exact sv_iret C hr (by decide +kernel) hok (⟨rfl, ⟨_, rfl, ⟨by omega, by omega⟩⟩⟩)

theorem ml_X11_277 : Cond.methodLink RX11 277 yX11_isPlace ∈ lw_good := sv_mem 1262 (by decide +kernel) rfl
theorem co_X11_isPlace : Cond.code yX11_isPlace cX11_isPlace 1 (some .boolean) ∈ lw_good := sv_mem 1264 (by decide +kernel) rfl
theorem st_X11_isPlace : Cond.static yX11_isPlace ∈ lw_good := sv_mem 1263 (by decide +kernel) rfl
set_option maxHeartbeats 4000000 in
set_option maxRecDepth 100000 in
theorem sf_X11_isFeast (l : Launch) (g : sv_G) (A : Nat → Prop) (ty : Nat → Nat) (σ : Nat → Nat → Int) (hok : sv_ok ty σ) (hTA : ∀ q, ty q ≠ 0 → A q) (hI : sv_inv sp_1 ty σ) (a : Nat) (k_a : ty a = 10) (p1 : Int) (h_p1 : (-2147483648) ≤ p1 ∧ p1 ≤ 2147483647) (f : Int) (h_f : (-2147483648) ≤ f ∧ f ≤ 2147483647) : sv_M l yX11_isFeast cX11_isFeast 3 (some .boolean) { frames := 2, cells := 0, slots := 0, locals := 45 } g A ty σ [sv_r a, sv_i p1, sv_i f] (fun r σ' => σ = σ' ∧ ∃ rv : Int, r = [sv_i rv] ∧ (0 ≤ rv ∧ rv ≤ 1) ∧ (1 ≤ rv → rv ≤ 1 → (0 ≤ p1 ∧ p1 ≤ 3) ∧ 0 ≤ f ∧ f ≤ 59)) := by
  refine sv_enter (by decide) (Nat.le_of_ble_eq_true rfl) ?_
  intro p e s m args below meth c C hr
  have C : sv_C g A RX11 cX11_isFeast 3 p s m args meth c := C
  have hr : meth.sig.returnType = (some .boolean) := hr
  have hF : sv_ofx [] [] ty σ σ := sv_ofx.rf
  refine sv_same (st2 := []) (lv2 := [(0, sv_r a), (1, sv_i p1), (2, sv_i f)]) rfl rfl ?_
  refine sv_go C.1 C.2.1 [(.iload_n 1, 1)] (pc' := 1) (by decide +kernel) rfl (lv' := [(0, sv_r a), (1, sv_i p1), (2, sv_i f)]) (st' := [sv_i p1]) rfl ?_
  refine sv_cs C (index := 277) (k := 1) (rest := []) (by decide +kernel) (sf_X11_isPlace l g A ty σ hok hTA hI (p1) ⟨by omega, by omega⟩) ⟨co_X11_isPlace, in_X11, ⟨by decide, by decide, by decide +kernel⟩, Nat.le_of_ble_eq_true rfl, Nat.le_of_ble_eq_true rfl⟩ ml_X11_277 st_X11_isPlace rfl rfl (Nat.le_of_ble_eq_true rfl) ⟨Nat.zero_le _, Nat.zero_le _⟩ (fun r2 σ3 hpo1 hok4 => ?_)
  obtain ⟨rfl, ⟨vu5, rfl, hvu5, ivu5_0⟩⟩ := hpo1
  refine sv_same (st2 := [sv_i vu5]) (lv2 := [(0, sv_r a), (1, sv_i p1), (2, sv_i f)]) rfl rfl ?_
  refine sv_if C.1 C.2.1 (cnd := .eq) (off := 25) (tgt := 29) (by decide +kernel) (by decide) ⟨by omega, by omega⟩ (fun (h6 : vu5 = 0) => ?_) (fun (h6 : ¬ (vu5 = 0)) => ?_)
  · refine sv_go C.1 C.2.1 [(.iconst 0, 1)] (pc' := 30) (by decide +kernel) rfl (lv' := [(0, sv_r a), (1, sv_i p1), (2, sv_i f)]) (st' := [sv_i 0]) rfl ?_
    exact sv_zret C hr (by omega) (by decide +kernel) hok4 (⟨rfl, ⟨_, rfl, ⟨by omega, by omega⟩, fun _ _ => (by omega)⟩⟩)
  · have hp7 := ivu5_0 (by omega) (by omega)
    refine sv_go C.1 C.2.1 [(.iload_n 2, 1)] (pc' := 8) (by decide +kernel) rfl (lv' := [(0, sv_r a), (1, sv_i p1), (2, sv_i f)]) (st' := [sv_i f]) rfl ?_
    refine sv_i2l C.1 C.2.1 (by decide +kernel) ⟨by omega, by omega⟩ ?_
    refine sv_go C.1 C.2.1 [(.lconst 0, 1), (.aload_n 0, 1)] (pc' := 11) (by decide +kernel) rfl (lv' := [(0, sv_r a), (1, sv_i p1), (2, sv_i f)]) (st' := [sv_r a, sv_l 0, sv_l f]) rfl ?_
    obtain ⟨v8, ev8, kv8⟩ := hI.ref (k := 0) k_a rfl
    refine sv_gf C (index := 47) (ci := 10) (k := 0) (r := (RX11, TX11, 47)) (v := sv_r v8) (by decide +kernel) (by rw [k_a]; rfl) rfl (by decide) fl_X11_47 (congrArg sv_a ev8) ?_
    refine sv_go C.1 C.2.1 [(.iload_n 1, 1)] (pc' := 15) (by decide +kernel) rfl (lv' := [(0, sv_r a), (1, sv_i p1), (2, sv_i f)]) (st' := [sv_i p1, sv_r v8, sv_l 0, sv_l f]) rfl ?_
    refine sv_ia C (n := 5) (by decide +kernel) (by rw [kv8]; rfl) (by decide) (by omega) (by omega) ?_
    obtain ⟨v9, ev9, hv9⟩ := sv_rdn hI (k := (p1 : Int).toNat) kv8 rfl
    rw [ev9]
    refine sv_i2l C.1 C.2.1 (by decide +kernel) ⟨by omega, by omega⟩ ?_
    refine sv_go C.1 C.2.1 [(.lconst 1, 1), (.lsub, 1)] (pc' := 19) (by decide +kernel) rfl (lv' := [(0, sv_r a), (1, sv_i p1), (2, sv_i f)]) (st' := [sv_l (v9 - 1), sv_l 0, sv_l f]) rfl ?_
    refine sv_cs C (index := 9) (k := 3) (rest := []) (by decide +kernel) (ct_X11_in l g A ty σ hok4 (f) ⟨by omega, by omega⟩ (0) ⟨by omega, by omega⟩ (v9 - 1) ⟨by omega, by omega⟩) ⟨co_X11_in, in_X11, ⟨by decide, by decide, by decide +kernel⟩, Nat.le_of_ble_eq_true rfl, Nat.le_of_ble_eq_true rfl⟩ ml_X11_9 st_X11_in rfl rfl (Nat.le_of_ble_eq_true rfl) ⟨Nat.zero_le _, Nat.zero_le _⟩ (fun r11 σ12 hpo10 hok13 => ?_)
    obtain ⟨rfl, ⟨h14, rfl⟩ | ⟨h14, rfl⟩⟩ := hpo10
    · refine sv_same (st2 := [sv_i 1]) (lv2 := [(0, sv_r a), (1, sv_i p1), (2, sv_i f)]) rfl rfl ?_
      refine sv_if_f C.1 C.2.1 (cnd := .eq) (off := 7) (tgt := 29) (by decide +kernel) (by decide) ⟨by omega, by omega⟩ (show ¬ (1 = 0) by omega) ?_
      refine sv_go C.1 C.2.1 [(.iconst 1, 1)] (pc' := 26) (by decide +kernel) rfl (lv' := [(0, sv_r a), (1, sv_i p1), (2, sv_i f)]) (st' := [sv_i 1]) rfl ?_
      refine sv_goto C.1 C.2.1 (off := 4) (tgt := 30) (by decide +kernel) (by decide) ?_
      exact sv_zret C hr (by omega) (by decide +kernel) hok13 (⟨rfl, ⟨_, rfl, ⟨by omega, by omega⟩, fun _ _ => (by omega)⟩⟩)
    · refine sv_same (st2 := [sv_i 0]) (lv2 := [(0, sv_r a), (1, sv_i p1), (2, sv_i f)]) rfl rfl ?_
      refine sv_if_t C.1 C.2.1 (cnd := .eq) (off := 7) (tgt := 29) (by decide +kernel) (by decide) ⟨by omega, by omega⟩ (show 0 = 0 by omega) ?_
      refine sv_go C.1 C.2.1 [(.iconst 0, 1)] (pc' := 30) (by decide +kernel) rfl (lv' := [(0, sv_r a), (1, sv_i p1), (2, sv_i f)]) (st' := [sv_i 0]) rfl ?_
      exact sv_zret C hr (by omega) (by decide +kernel) hok13 (⟨rfl, ⟨_, rfl, ⟨by omega, by omega⟩, fun _ _ => (by omega)⟩⟩)

theorem ml_X11_287 : Cond.methodLink RX11 287 yX11_isFeast ∈ lw_good := sv_mem 1356 (by decide +kernel) rfl
theorem co_X11_isFeast : Cond.code yX11_isFeast cX11_isFeast 3 (some .boolean) ∈ lw_good := sv_mem 1359 (by decide +kernel) rfl
theorem im_X11_isFeast : Cond.instanceMethod yX11_isFeast ∈ lw_good := sv_mem 1358 (by decide +kernel) rfl
theorem se_X11_isFeast : Cond.selects RX11 yX11_isFeast yX11_isFeast ∈ lw_good := sv_mem 59 (by decide +kernel) rfl
theorem cl_X11_290 : Cond.constantLong RX11 290 (10) ∈ lw_good := sv_mem 1360 (by decide +kernel) rfl
set_option maxHeartbeats 4000000 in
set_option maxRecDepth 100000 in
theorem sf_X11_feast (l : Launch) (g : sv_G) (A : Nat → Prop) (ty : Nat → Nat) (σ : Nat → Nat → Int) (hok : sv_ok ty σ) (hTA : ∀ q, ty q ≠ 0 → A q) (hI : sv_inv sp_1 ty σ) (a : Nat) (k_a : ty a = 10) (ar1 : Int) (h_ar1 : (-2147483648) ≤ ar1 ∧ ar1 ≤ 2147483647) (ar2 : Int) (h_ar2 : (-2147483648) ≤ ar2 ∧ ar2 ≤ 2147483647) (ar3 : Int) (h_ar3 : (-2147483648) ≤ ar3 ∧ ar3 ≤ 2147483647) : sv_M l yX11_feast cX11_feast 5 (some .int) { frames := 3, cells := 0, slots := 0, locals := 67 } g A ty σ [sv_r a, sv_i ar1, sv_i ar2, sv_i ar3] (fun r σ' => σ = σ' ∧ ∃ rv : Int, r = [sv_i rv] ∧ ((-2147483648) ≤ rv ∧ rv ≤ 2147483647)) := by
  refine sv_enter (by decide) (Nat.le_of_ble_eq_true rfl) ?_
  intro p e s m args below meth c C hr
  have C : sv_C g A RX11 cX11_feast 5 p s m args meth c := C
  have hr : meth.sig.returnType = (some .int) := hr
  have hF : sv_ofx [] [] ty σ σ := sv_ofx.rf
  refine sv_same (st2 := []) (lv2 := [(0, sv_r a), (1, sv_i ar1), (2, sv_i ar2), (3, sv_i ar3)]) rfl rfl ?_
  refine sv_go C.1 C.2.1 [(.aload_n 0, 1), (.iload_n 1, 1), (.iload_n 2, 1)] (pc' := 3) (by decide +kernel) rfl (lv' := [(0, sv_r a), (1, sv_i ar1), (2, sv_i ar2), (3, sv_i ar3)]) (st' := [sv_i ar2, sv_i ar1, sv_r a]) rfl ?_
  refine sv_cv C (index := 287) (k := 2) (rest := []) (ci := 10) (r := (RX11, TX11, 47)) (by decide +kernel) (sf_X11_isFeast l g A ty σ hok hTA hI a k_a (ar1) ⟨by omega, by omega⟩ (ar2) ⟨by omega, by omega⟩) ⟨co_X11_isFeast, in_X11, ⟨by decide, by decide, by decide +kernel⟩, Nat.le_of_ble_eq_true rfl, Nat.le_of_ble_eq_true rfl⟩ ml_X11_287 im_X11_isFeast se_X11_isFeast (by rw [k_a]; rfl) rfl rfl rfl (Nat.le_of_ble_eq_true rfl) ⟨Nat.zero_le _, Nat.zero_le _⟩ (fun r2 σ3 hpo1 hok4 => ?_)
  obtain ⟨rfl, ⟨vu5, rfl, hvu5, ivu5_0⟩⟩ := hpo1
  refine sv_same (st2 := [sv_i vu5]) (lv2 := [(0, sv_r a), (1, sv_i ar1), (2, sv_i ar2), (3, sv_i ar3)]) rfl rfl ?_
  refine sv_if C.1 C.2.1 (cnd := .ne) (off := 5) (tgt := 11) (by decide +kernel) (by decide) ⟨by omega, by omega⟩ (fun (h6 : vu5 ≠ 0) => ?_) (fun (h6 : ¬ (vu5 ≠ 0)) => ?_)
  · have hp7 := ivu5_0 (by omega) (by omega)
    refine sv_go C.1 C.2.1 [(.iload_n 1, 1), (.iload_n 2, 1)] (pc' := 13) (by decide +kernel) rfl (lv' := [(0, sv_r a), (1, sv_i ar1), (2, sv_i ar2), (3, sv_i ar3)]) (st' := [sv_i ar2, sv_i ar1]) rfl ?_
    refine sv_cs C (index := 166) (k := 2) (rest := []) (by decide +kernel) (sf_X11_at l g A ty σ hok4 hTA hI (ar1) ⟨by omega, by omega⟩ (ar2) ⟨by omega, by omega⟩) ⟨co_X11_at, in_X11, ⟨by decide, by decide, by decide +kernel⟩, Nat.le_of_ble_eq_true rfl, Nat.le_of_ble_eq_true rfl⟩ ml_X11_166 st_X11_at rfl rfl (Nat.le_of_ble_eq_true rfl) ⟨Nat.zero_le _, Nat.zero_le _⟩ (fun r9 σ10 hpo8 hok11 => ?_)
    obtain ⟨rfl, ⟨vu12, rfl, hvu12⟩⟩ := hpo8
    refine sv_same (st2 := [sv_i vu12]) (lv2 := [(0, sv_r a), (1, sv_i ar1), (2, sv_i ar2), (3, sv_i ar3)]) rfl rfl ?_
    refine sv_go C.1 C.2.1 [(.istore 4, 2), (.iload_n 3, 1)] (pc' := 19) (by decide +kernel) rfl (lv' := [(0, sv_r a), (1, sv_i ar1), (2, sv_i ar2), (3, sv_i ar3), (4, sv_i vu12)]) (st' := [sv_i ar3]) rfl ?_
    refine sv_i2l C.1 C.2.1 (by decide +kernel) ⟨by omega, by omega⟩ ?_
    refine sv_ldc2 C (index := 290) (z := 10) (by decide +kernel) cl_X11_290 (by decide) ?_
    refine sv_ldc2 C (index := 292) (z := 9) (by decide +kernel) cl_X11_292 (by decide) ?_
    refine sv_go C.1 C.2.1 [(.aload_n 0, 1)] (pc' := 27) (by decide +kernel) rfl (lv' := [(0, sv_r a), (1, sv_i ar1), (2, sv_i ar2), (3, sv_i ar3), (4, sv_i vu12)]) (st' := [sv_r a, sv_l 9, sv_l 10, sv_l ar3]) rfl ?_
    obtain ⟨v13, ev13, kv13⟩ := hI.ref (k := 11) k_a rfl
    refine sv_gf C (index := 81) (ci := 10) (k := 11) (r := (RX11, TX11, 47)) (v := sv_r v13) (by decide +kernel) (by rw [k_a]; rfl) rfl (by decide) fl_X11_81 (congrArg sv_a ev13) ?_
    refine sv_go C.1 C.2.1 [(.iload 4, 2)] (pc' := 32) (by decide +kernel) rfl (lv' := [(0, sv_r a), (1, sv_i ar1), (2, sv_i ar2), (3, sv_i ar3), (4, sv_i vu12)]) (st' := [sv_i vu12, sv_r v13, sv_l 9, sv_l 10, sv_l ar3]) rfl ?_
    refine sv_ia C (n := 300) (by decide +kernel) (by rw [kv13]; rfl) (by decide) (by omega) (by omega) ?_
    obtain ⟨v14, ev14, hv14⟩ := sv_rdn hI (k := (vu12 : Int).toNat) kv13 rfl
    rw [ev14]
    refine sv_i2l C.1 C.2.1 (by decide +kernel) ⟨by omega, by omega⟩ ?_
    refine sv_go C.1 C.2.1 [(.ladd, 1)] (pc' := 35) (by decide +kernel) rfl (lv' := [(0, sv_r a), (1, sv_i ar1), (2, sv_i ar2), (3, sv_i ar3), (4, sv_i vu12)]) (st' := [sv_l (9 + v14), sv_l 10, sv_l ar3]) rfl ?_
    refine sv_cs C (index := 9) (k := 3) (rest := []) (by decide +kernel) (ct_X11_in l g A ty σ hok11 (ar3) ⟨by omega, by omega⟩ (10) ⟨by omega, by omega⟩ (9 + v14) ⟨by omega, by omega⟩) ⟨co_X11_in, in_X11, ⟨by decide, by decide, by decide +kernel⟩, Nat.le_of_ble_eq_true rfl, Nat.le_of_ble_eq_true rfl⟩ ml_X11_9 st_X11_in rfl rfl (Nat.le_of_ble_eq_true rfl) ⟨Nat.zero_le _, Nat.zero_le _⟩ (fun r16 σ17 hpo15 hok18 => ?_)
    obtain ⟨rfl, ⟨h19, rfl⟩ | ⟨h19, rfl⟩⟩ := hpo15
    · refine sv_same (st2 := [sv_i 1]) (lv2 := [(0, sv_r a), (1, sv_i ar1), (2, sv_i ar2), (3, sv_i ar3), (4, sv_i vu12)]) rfl rfl ?_
      refine sv_if_f C.1 C.2.1 (cnd := .eq) (off := 19) (tgt := 57) (by decide +kernel) (by decide) ⟨by omega, by omega⟩ (show ¬ (1 = 0) by omega) ?_
      refine sv_go C.1 C.2.1 [(.aload_n 0, 1)] (pc' := 42) (by decide +kernel) rfl (lv' := [(0, sv_r a), (1, sv_i ar1), (2, sv_i ar2), (3, sv_i ar3), (4, sv_i vu12)]) (st' := [sv_r a]) rfl ?_
      obtain ⟨v20, ev20, kv20⟩ := hI.ref (k := 14) k_a rfl
      refine sv_gf C (index := 91) (ci := 10) (k := 14) (r := (RX11, TX11, 47)) (v := sv_r v20) (by decide +kernel) (by rw [k_a]; rfl) rfl (by decide) fl_X11_91 (congrArg sv_a ev20) ?_
      refine sv_go C.1 C.2.1 [(.bipush 12, 2), (.iload 4, 2), (.imul, 1), (.iload_n 3, 1), (.iadd, 1), (.bipush 10, 2), (.isub, 1)] (pc' := 55) (by decide +kernel) rfl (lv' := [(0, sv_r a), (1, sv_i ar1), (2, sv_i ar2), (3, sv_i ar3), (4, sv_i vu12)]) (st' := [sv_i (((12 * vu12) + ar3) - 10), sv_r v20]) rfl ?_
      refine sv_ba C (n := 3600) (by decide +kernel) (by rw [kv20]; rfl) (by decide) (by omega) (by omega) ?_
      obtain ⟨v21, ev21, hv21⟩ := sv_rdeb hok18 (a := v20) (k := (((12 * vu12) + ar3) - 10 : Int).toNat) (n := 3600) (by rw [kv20]; rfl) (by omega)
      rw [ev21]
      exact sv_iret C hr (by decide +kernel) hok18 (⟨rfl, ⟨_, rfl, ⟨by omega, by omega⟩⟩⟩)
    · refine sv_same (st2 := [sv_i 0]) (lv2 := [(0, sv_r a), (1, sv_i ar1), (2, sv_i ar2), (3, sv_i ar3), (4, sv_i vu12)]) rfl rfl ?_
      refine sv_if_t C.1 C.2.1 (cnd := .eq) (off := 19) (tgt := 57) (by decide +kernel) (by decide) ⟨by omega, by omega⟩ (show 0 = 0 by omega) ?_
      refine sv_go C.1 C.2.1 [(.iload_n 3, 1)] (pc' := 58) (by decide +kernel) rfl (lv' := [(0, sv_r a), (1, sv_i ar1), (2, sv_i ar2), (3, sv_i ar3), (4, sv_i vu12)]) (st' := [sv_i ar3]) rfl ?_
      rcases (show ar3 = 0 ∨ ar3 = 1 ∨ ar3 = 2 ∨ ar3 = 3 ∨ ar3 = 4 ∨ ar3 = 5 ∨ ar3 = 6 ∨ (ar3 ≠ 0 ∧ ar3 ≠ 1 ∧ ar3 ≠ 2 ∧ ar3 ≠ 3 ∧ ar3 ≠ 4 ∧ ar3 ≠ 5 ∧ ar3 ≠ 6) by omega) with h22 | h22 | h22 | h22 | h22 | h22 | h22 | h22
      · refine sv_tsI C.1 C.2.1 (dflt := 114) (lo := 0) (hi := 6) (offs := #[42, 50, 58, 74, 90, 98, 106]) (len := 42) (off := 42) (tgt := 100) (by decide +kernel) 0 h22 (by decide) rfl (by decide) ?_
        refine sv_go C.1 C.2.1 [(.aload_n 0, 1)] (pc' := 101) (by decide +kernel) rfl (lv' := [(0, sv_r a), (1, sv_i ar1), (2, sv_i ar2), (3, sv_i ar3), (4, sv_i vu12)]) (st' := [sv_r a]) rfl ?_
        obtain ⟨v23, ev23, kv23⟩ := hI.ref (k := 5) k_a rfl
        refine sv_gf C (index := 63) (ci := 10) (k := 5) (r := (RX11, TX11, 47)) (v := sv_r v23) (by decide +kernel) (by rw [k_a]; rfl) rfl (by decide) fl_X11_63 (congrArg sv_a ev23) ?_
        refine sv_go C.1 C.2.1 [(.iload 4, 2)] (pc' := 106) (by decide +kernel) rfl (lv' := [(0, sv_r a), (1, sv_i ar1), (2, sv_i ar2), (3, sv_i ar3), (4, sv_i vu12)]) (st' := [sv_i vu12, sv_r v23]) rfl ?_
        refine sv_ia C (n := 300) (by decide +kernel) (by rw [kv23]; rfl) (by decide) (by omega) (by omega) ?_
        obtain ⟨v24, ev24, hv24⟩ := sv_rde hok18 (a := v23) (k := (vu12 : Int).toNat) (n := 300) (by rw [kv23]; rfl) (by omega)
        rw [ev24]
        exact sv_iret C hr (by decide +kernel) hok18 (⟨rfl, ⟨_, rfl, ⟨by omega, by omega⟩⟩⟩)
      · refine sv_tsI C.1 C.2.1 (dflt := 114) (lo := 0) (hi := 6) (offs := #[42, 50, 58, 74, 90, 98, 106]) (len := 42) (off := 50) (tgt := 108) (by decide +kernel) 1 h22 (by decide) rfl (by decide) ?_
        refine sv_go C.1 C.2.1 [(.aload_n 0, 1)] (pc' := 109) (by decide +kernel) rfl (lv' := [(0, sv_r a), (1, sv_i ar1), (2, sv_i ar2), (3, sv_i ar3), (4, sv_i vu12)]) (st' := [sv_r a]) rfl ?_
        obtain ⟨v25, ev25, kv25⟩ := hI.ref (k := 8) k_a rfl
        refine sv_gf C (index := 72) (ci := 10) (k := 8) (r := (RX11, TX11, 47)) (v := sv_r v25) (by decide +kernel) (by rw [k_a]; rfl) rfl (by decide) fl_X11_72 (congrArg sv_a ev25) ?_
        refine sv_go C.1 C.2.1 [(.iload 4, 2)] (pc' := 114) (by decide +kernel) rfl (lv' := [(0, sv_r a), (1, sv_i ar1), (2, sv_i ar2), (3, sv_i ar3), (4, sv_i vu12)]) (st' := [sv_i vu12, sv_r v25]) rfl ?_
        refine sv_ia C (n := 300) (by decide +kernel) (by rw [kv25]; rfl) (by decide) (by omega) (by omega) ?_
        obtain ⟨v26, ev26, hv26⟩ := sv_rdn hI (k := (vu12 : Int).toNat) kv25 rfl
        rw [ev26]
        exact sv_iret C hr (by decide +kernel) hok18 (⟨rfl, ⟨_, rfl, ⟨by omega, by omega⟩⟩⟩)
      · refine sv_tsI C.1 C.2.1 (dflt := 114) (lo := 0) (hi := 6) (offs := #[42, 50, 58, 74, 90, 98, 106]) (len := 42) (off := 58) (tgt := 116) (by decide +kernel) 2 h22 (by decide) rfl (by decide) ?_
        refine sv_go C.1 C.2.1 [(.aload_n 0, 1)] (pc' := 117) (by decide +kernel) rfl (lv' := [(0, sv_r a), (1, sv_i ar1), (2, sv_i ar2), (3, sv_i ar3), (4, sv_i vu12)]) (st' := [sv_r a]) rfl ?_
        obtain ⟨v27, ev27, kv27⟩ := hI.ref (k := 12) k_a rfl
        refine sv_gf C (index := 84) (ci := 10) (k := 12) (r := (RX11, TX11, 47)) (v := sv_r v27) (by decide +kernel) (by rw [k_a]; rfl) rfl (by decide) fl_X11_84 (congrArg sv_a ev27) ?_
        refine sv_go C.1 C.2.1 [(.iload 4, 2)] (pc' := 122) (by decide +kernel) rfl (lv' := [(0, sv_r a), (1, sv_i ar1), (2, sv_i ar2), (3, sv_i ar3), (4, sv_i vu12)]) (st' := [sv_i vu12, sv_r v27]) rfl ?_
        refine sv_za C (n := 300) (by decide +kernel) (by rw [kv27]; rfl) (by decide) (by omega) (by omega) ?_
        obtain ⟨v28, ev28, hv28⟩ := sv_rdez hok18 (a := v27) (k := (vu12 : Int).toNat) (n := 300) (by rw [kv27]; rfl) (by omega)
        rw [ev28]
        refine sv_if C.1 C.2.1 (cnd := .eq) (off := 7) (tgt := 130) (by decide +kernel) (by decide) ⟨by omega, by omega⟩ (fun (h29 : v28 = 0) => ?_) (fun (h29 : ¬ (v28 = 0)) => ?_)
        · refine sv_go C.1 C.2.1 [(.iconst 0, 1)] (pc' := 131) (by decide +kernel) rfl (lv' := [(0, sv_r a), (1, sv_i ar1), (2, sv_i ar2), (3, sv_i ar3), (4, sv_i vu12)]) (st' := [sv_i 0]) rfl ?_
          exact sv_iret C hr (by decide +kernel) hok18 (⟨rfl, ⟨_, rfl, ⟨by omega, by omega⟩⟩⟩)
        · refine sv_go C.1 C.2.1 [(.iconst 1, 1)] (pc' := 127) (by decide +kernel) rfl (lv' := [(0, sv_r a), (1, sv_i ar1), (2, sv_i ar2), (3, sv_i ar3), (4, sv_i vu12)]) (st' := [sv_i 1]) rfl ?_
          refine sv_goto C.1 C.2.1 (off := 4) (tgt := 131) (by decide +kernel) (by decide) ?_
          exact sv_iret C hr (by decide +kernel) hok18 (⟨rfl, ⟨_, rfl, ⟨by omega, by omega⟩⟩⟩)
      · refine sv_tsI C.1 C.2.1 (dflt := 114) (lo := 0) (hi := 6) (offs := #[42, 50, 58, 74, 90, 98, 106]) (len := 42) (off := 74) (tgt := 132) (by decide +kernel) 3 h22 (by decide) rfl (by decide) ?_
        refine sv_go C.1 C.2.1 [(.aload_n 0, 1)] (pc' := 133) (by decide +kernel) rfl (lv' := [(0, sv_r a), (1, sv_i ar1), (2, sv_i ar2), (3, sv_i ar3), (4, sv_i vu12)]) (st' := [sv_r a]) rfl ?_
        obtain ⟨v30, ev30, kv30⟩ := hI.ref (k := 13) k_a rfl
        refine sv_gf C (index := 88) (ci := 10) (k := 13) (r := (RX11, TX11, 47)) (v := sv_r v30) (by decide +kernel) (by rw [k_a]; rfl) rfl (by decide) fl_X11_88 (congrArg sv_a ev30) ?_
        refine sv_go C.1 C.2.1 [(.iload 4, 2)] (pc' := 138) (by decide +kernel) rfl (lv' := [(0, sv_r a), (1, sv_i ar1), (2, sv_i ar2), (3, sv_i ar3), (4, sv_i vu12)]) (st' := [sv_i vu12, sv_r v30]) rfl ?_
        refine sv_za C (n := 300) (by decide +kernel) (by rw [kv30]; rfl) (by decide) (by omega) (by omega) ?_
        obtain ⟨v31, ev31, hv31⟩ := sv_rdez hok18 (a := v30) (k := (vu12 : Int).toNat) (n := 300) (by rw [kv30]; rfl) (by omega)
        rw [ev31]
        refine sv_if C.1 C.2.1 (cnd := .eq) (off := 7) (tgt := 146) (by decide +kernel) (by decide) ⟨by omega, by omega⟩ (fun (h32 : v31 = 0) => ?_) (fun (h32 : ¬ (v31 = 0)) => ?_)
        · refine sv_go C.1 C.2.1 [(.iconst 0, 1)] (pc' := 147) (by decide +kernel) rfl (lv' := [(0, sv_r a), (1, sv_i ar1), (2, sv_i ar2), (3, sv_i ar3), (4, sv_i vu12)]) (st' := [sv_i 0]) rfl ?_
          exact sv_iret C hr (by decide +kernel) hok18 (⟨rfl, ⟨_, rfl, ⟨by omega, by omega⟩⟩⟩)
        · refine sv_go C.1 C.2.1 [(.iconst 1, 1)] (pc' := 143) (by decide +kernel) rfl (lv' := [(0, sv_r a), (1, sv_i ar1), (2, sv_i ar2), (3, sv_i ar3), (4, sv_i vu12)]) (st' := [sv_i 1]) rfl ?_
          refine sv_goto C.1 C.2.1 (off := 4) (tgt := 147) (by decide +kernel) (by decide) ?_
          exact sv_iret C hr (by decide +kernel) hok18 (⟨rfl, ⟨_, rfl, ⟨by omega, by omega⟩⟩⟩)
      · refine sv_tsI C.1 C.2.1 (dflt := 114) (lo := 0) (hi := 6) (offs := #[42, 50, 58, 74, 90, 98, 106]) (len := 42) (off := 90) (tgt := 148) (by decide +kernel) 4 h22 (by decide) rfl (by decide) ?_
        refine sv_go C.1 C.2.1 [(.aload_n 0, 1)] (pc' := 149) (by decide +kernel) rfl (lv' := [(0, sv_r a), (1, sv_i ar1), (2, sv_i ar2), (3, sv_i ar3), (4, sv_i vu12)]) (st' := [sv_r a]) rfl ?_
        obtain ⟨v33, ev33, kv33⟩ := hI.ref (k := 9) k_a rfl
        refine sv_gf C (index := 75) (ci := 10) (k := 9) (r := (RX11, TX11, 47)) (v := sv_r v33) (by decide +kernel) (by rw [k_a]; rfl) rfl (by decide) fl_X11_75 (congrArg sv_a ev33) ?_
        refine sv_go C.1 C.2.1 [(.iload 4, 2)] (pc' := 154) (by decide +kernel) rfl (lv' := [(0, sv_r a), (1, sv_i ar1), (2, sv_i ar2), (3, sv_i ar3), (4, sv_i vu12)]) (st' := [sv_i vu12, sv_r v33]) rfl ?_
        refine sv_ia C (n := 300) (by decide +kernel) (by rw [kv33]; rfl) (by decide) (by omega) (by omega) ?_
        obtain ⟨v34, ev34, hv34⟩ := sv_rde hok18 (a := v33) (k := (vu12 : Int).toNat) (n := 300) (by rw [kv33]; rfl) (by omega)
        rw [ev34]
        exact sv_iret C hr (by decide +kernel) hok18 (⟨rfl, ⟨_, rfl, ⟨by omega, by omega⟩⟩⟩)
      · refine sv_tsI C.1 C.2.1 (dflt := 114) (lo := 0) (hi := 6) (offs := #[42, 50, 58, 74, 90, 98, 106]) (len := 42) (off := 98) (tgt := 156) (by decide +kernel) 5 h22 (by decide) rfl (by decide) ?_
        refine sv_go C.1 C.2.1 [(.aload_n 0, 1)] (pc' := 157) (by decide +kernel) rfl (lv' := [(0, sv_r a), (1, sv_i ar1), (2, sv_i ar2), (3, sv_i ar3), (4, sv_i vu12)]) (st' := [sv_r a]) rfl ?_
        obtain ⟨v35, ev35, kv35⟩ := hI.ref (k := 10) k_a rfl
        refine sv_gf C (index := 78) (ci := 10) (k := 10) (r := (RX11, TX11, 47)) (v := sv_r v35) (by decide +kernel) (by rw [k_a]; rfl) rfl (by decide) fl_X11_78 (congrArg sv_a ev35) ?_
        refine sv_go C.1 C.2.1 [(.iload 4, 2)] (pc' := 162) (by decide +kernel) rfl (lv' := [(0, sv_r a), (1, sv_i ar1), (2, sv_i ar2), (3, sv_i ar3), (4, sv_i vu12)]) (st' := [sv_i vu12, sv_r v35]) rfl ?_
        refine sv_ia C (n := 300) (by decide +kernel) (by rw [kv35]; rfl) (by decide) (by omega) (by omega) ?_
        obtain ⟨v36, ev36, hv36⟩ := sv_rde hok18 (a := v35) (k := (vu12 : Int).toNat) (n := 300) (by rw [kv35]; rfl) (by omega)
        rw [ev36]
        exact sv_iret C hr (by decide +kernel) hok18 (⟨rfl, ⟨_, rfl, ⟨by omega, by omega⟩⟩⟩)
      · refine sv_tsI C.1 C.2.1 (dflt := 114) (lo := 0) (hi := 6) (offs := #[42, 50, 58, 74, 90, 98, 106]) (len := 42) (off := 106) (tgt := 164) (by decide +kernel) 6 h22 (by decide) rfl (by decide) ?_
        refine sv_go C.1 C.2.1 [(.aload_n 0, 1)] (pc' := 165) (by decide +kernel) rfl (lv' := [(0, sv_r a), (1, sv_i ar1), (2, sv_i ar2), (3, sv_i ar3), (4, sv_i vu12)]) (st' := [sv_r a]) rfl ?_
        refine sv_gf C (index := 81) (ci := 10) (k := 11) (r := (RX11, TX11, 47)) (v := sv_r v13) (by decide +kernel) (by rw [k_a]; rfl) rfl (by decide) fl_X11_81 (congrArg sv_a ev13) ?_
        refine sv_go C.1 C.2.1 [(.iload 4, 2)] (pc' := 170) (by decide +kernel) rfl (lv' := [(0, sv_r a), (1, sv_i ar1), (2, sv_i ar2), (3, sv_i ar3), (4, sv_i vu12)]) (st' := [sv_i vu12, sv_r v13]) rfl ?_
        refine sv_ia C (n := 300) (by decide +kernel) (by rw [kv13]; rfl) (by decide) (by omega) (by omega) ?_
        rw [ev14]
        exact sv_iret C hr (by decide +kernel) hok18 (⟨rfl, ⟨_, rfl, ⟨by omega, by omega⟩⟩⟩)
      · refine sv_tsO C.1 C.2.1 (dflt := 114) (lo := 0) (hi := 6) (offs := #[42, 50, 58, 74, 90, 98, 106]) (len := 42) (tgt := 172) (by decide +kernel) ⟨by omega, by omega⟩ (by omega) (by decide) ?_
        refine sv_go C.1 C.2.1 [(.iconst (-1), 1)] (pc' := 173) (by decide +kernel) rfl (lv' := [(0, sv_r a), (1, sv_i ar1), (2, sv_i ar2), (3, sv_i ar3), (4, sv_i vu12)]) (st' := [sv_i ((-1))]) rfl ?_
        exact sv_iret C hr (by decide +kernel) hok18 (⟨rfl, ⟨_, rfl, ⟨by omega, by omega⟩⟩⟩)
  · refine sv_go C.1 C.2.1 [(.iconst (-1), 1)] (pc' := 10) (by decide +kernel) rfl (lv' := [(0, sv_r a), (1, sv_i ar1), (2, sv_i ar2), (3, sv_i ar3)]) (st' := [sv_i ((-1))]) rfl ?_
    exact sv_iret C hr (by decide +kernel) hok4 (⟨rfl, ⟨_, rfl, ⟨by omega, by omega⟩⟩⟩)

set_option maxHeartbeats 4000000 in
set_option maxRecDepth 100000 in
theorem sf_X11_isPlaced (l : Launch) (g : sv_G) (A : Nat → Prop) (ty : Nat → Nat) (σ : Nat → Nat → Int) (hok : sv_ok ty σ) (hTA : ∀ q, ty q ≠ 0 → A q) (hI : sv_inv sp_1 ty σ) (a : Nat) (k_a : ty a = 10) (p1 : Int) (h_p1 : (-2147483648) ≤ p1 ∧ p1 ≤ 2147483647) (y : Int) (h_y : (-2147483648) ≤ y ∧ y ≤ 2147483647) (d : Int) (h_d : (-2147483648) ≤ d ∧ d ≤ 2147483647) : sv_M l yX11_isPlaced cX11_isPlaced 4 (some .boolean) { frames := 3, cells := 0, slots := 0, locals := 66 } g A ty σ [sv_r a, sv_i p1, sv_i y, sv_i d] (fun r σ' => σ = σ' ∧ ∃ rv : Int, r = [sv_i rv] ∧ (0 ≤ rv ∧ rv ≤ 1) ∧ (1 ≤ rv → rv ≤ 1 → (0 ≤ p1 ∧ p1 ≤ 3) ∧ (1 ≤ y ∧ y ≤ 2000) ∧ 0 ≤ d ∧ d ≤ 365)) := by
  refine sv_enter (by decide) (Nat.le_of_ble_eq_true rfl) ?_
  intro p e s m args below meth c C hr
  have C : sv_C g A RX11 cX11_isPlaced 4 p s m args meth c := C
  have hr : meth.sig.returnType = (some .boolean) := hr
  have hF : sv_ofx [] [] ty σ σ := sv_ofx.rf
  refine sv_same (st2 := []) (lv2 := [(0, sv_r a), (1, sv_i p1), (2, sv_i y), (3, sv_i d)]) rfl rfl ?_
  refine sv_go C.1 C.2.1 [(.iload_n 1, 1)] (pc' := 1) (by decide +kernel) rfl (lv' := [(0, sv_r a), (1, sv_i p1), (2, sv_i y), (3, sv_i d)]) (st' := [sv_i p1]) rfl ?_
  refine sv_cs C (index := 277) (k := 1) (rest := []) (by decide +kernel) (sf_X11_isPlace l g A ty σ hok hTA hI (p1) ⟨by omega, by omega⟩) ⟨co_X11_isPlace, in_X11, ⟨by decide, by decide, by decide +kernel⟩, Nat.le_of_ble_eq_true rfl, Nat.le_of_ble_eq_true rfl⟩ ml_X11_277 st_X11_isPlace rfl rfl (Nat.le_of_ble_eq_true rfl) ⟨Nat.zero_le _, Nat.zero_le _⟩ (fun r2 σ3 hpo1 hok4 => ?_)
  obtain ⟨rfl, ⟨vu5, rfl, hvu5, ivu5_0⟩⟩ := hpo1
  refine sv_same (st2 := [sv_i vu5]) (lv2 := [(0, sv_r a), (1, sv_i p1), (2, sv_i y), (3, sv_i d)]) rfl rfl ?_
  refine sv_if C.1 C.2.1 (cnd := .eq) (off := 15) (tgt := 19) (by decide +kernel) (by decide) ⟨by omega, by omega⟩ (fun (h6 : vu5 = 0) => ?_) (fun (h6 : ¬ (vu5 = 0)) => ?_)
  · refine sv_go C.1 C.2.1 [(.iconst 0, 1)] (pc' := 20) (by decide +kernel) rfl (lv' := [(0, sv_r a), (1, sv_i p1), (2, sv_i y), (3, sv_i d)]) (st' := [sv_i 0]) rfl ?_
    exact sv_zret C hr (by omega) (by decide +kernel) hok4 (⟨rfl, ⟨_, rfl, ⟨by omega, by omega⟩, fun _ _ => (by omega)⟩⟩)
  · have hp7 := ivu5_0 (by omega) (by omega)
    refine sv_go C.1 C.2.1 [(.iload_n 2, 1), (.iload_n 3, 1)] (pc' := 9) (by decide +kernel) rfl (lv' := [(0, sv_r a), (1, sv_i p1), (2, sv_i y), (3, sv_i d)]) (st' := [sv_i d, sv_i y]) rfl ?_
    refine sv_cs C (index := 37) (k := 2) (rest := []) (by decide +kernel) (ct_X11_isDay l g A ty σ hok4 (y) ⟨by omega, by omega⟩ (d) ⟨by omega, by omega⟩) ⟨co_X11_isDay, in_X11, ⟨by decide, by decide, by decide +kernel⟩, Nat.le_of_ble_eq_true rfl, Nat.le_of_ble_eq_true rfl⟩ ml_X11_37 st_X11_isDay rfl rfl (Nat.le_of_ble_eq_true rfl) ⟨Nat.zero_le _, Nat.zero_le _⟩ (fun r9 σ10 hpo8 hok11 => ?_)
    obtain ⟨rfl, ⟨h12, rfl⟩ | ⟨h12, rfl⟩⟩ := hpo8
    · have hn13 := dy_lp_in y
      refine sv_same (st2 := [sv_i 1]) (lv2 := [(0, sv_r a), (1, sv_i p1), (2, sv_i y), (3, sv_i d)]) rfl rfl ?_
      refine sv_if_f C.1 C.2.1 (cnd := .eq) (off := 7) (tgt := 19) (by decide +kernel) (by decide) ⟨by omega, by omega⟩ (show ¬ (1 = 0) by omega) ?_
      refine sv_go C.1 C.2.1 [(.iconst 1, 1)] (pc' := 16) (by decide +kernel) rfl (lv' := [(0, sv_r a), (1, sv_i p1), (2, sv_i y), (3, sv_i d)]) (st' := [sv_i 1]) rfl ?_
      refine sv_goto C.1 C.2.1 (off := 4) (tgt := 20) (by decide +kernel) (by decide) ?_
      exact sv_zret C hr (by omega) (by decide +kernel) hok11 (⟨rfl, ⟨_, rfl, ⟨by omega, by omega⟩, fun _ _ => (by omega)⟩⟩)
    · have hn13 := dy_lp_in y
      refine sv_same (st2 := [sv_i 0]) (lv2 := [(0, sv_r a), (1, sv_i p1), (2, sv_i y), (3, sv_i d)]) rfl rfl ?_
      refine sv_if_t C.1 C.2.1 (cnd := .eq) (off := 7) (tgt := 19) (by decide +kernel) (by decide) ⟨by omega, by omega⟩ (show 0 = 0 by omega) ?_
      refine sv_go C.1 C.2.1 [(.iconst 0, 1)] (pc' := 20) (by decide +kernel) rfl (lv' := [(0, sv_r a), (1, sv_i p1), (2, sv_i y), (3, sv_i d)]) (st' := [sv_i 0]) rfl ?_
      exact sv_zret C hr (by omega) (by decide +kernel) hok11 (⟨rfl, ⟨_, rfl, ⟨by omega, by omega⟩, fun _ _ => (by omega)⟩⟩)

theorem ml_X11_316 : Cond.methodLink RX11 316 yX11_isBrotherhood ∈ lw_good := sv_mem 1419 (by decide +kernel) rfl
theorem co_X11_isBrotherhood : Cond.code yX11_isBrotherhood cX11_isBrotherhood 1 (some .boolean) ∈ lw_good := sv_mem 1421 (by decide +kernel) rfl
theorem st_X11_isBrotherhood : Cond.static yX11_isBrotherhood ∈ lw_good := sv_mem 1420 (by decide +kernel) rfl
theorem fl_X11_127 : Cond.fieldLink RX11 127 "SaintsRoadModel" "quarrels" "[Z" ∈ lw_good := sv_mem 1137 (by decide +kernel) rfl
set_option maxHeartbeats 4000000 in
set_option maxRecDepth 100000 in
theorem sf_X11_quarrel (l : Launch) (g : sv_G) (A : Nat → Prop) (ty : Nat → Nat) (σ : Nat → Nat → Int) (hok : sv_ok ty σ) (hTA : ∀ q, ty q ≠ 0 → A q) (hI : sv_inv sp_1 ty σ) (a : Nat) (k_a : ty a = 10) (ar1 : Int) (h_ar1 : (-2147483648) ≤ ar1 ∧ ar1 ≤ 2147483647) (ar2 : Int) (h_ar2 : (-2147483648) ≤ ar2 ∧ ar2 ≤ 2147483647) (on : Int) (h_on : 0 ≤ on ∧ on ≤ 1) : sv_M l yX11_quarrel cX11_quarrel 5 (some .int) { frames := 2, cells := 0, slots := 0, locals := 45 } g A ty σ [sv_r a, sv_i ar1, sv_i ar2, sv_i on] (fun r σ' => (∃ rv : Int, r = [sv_i rv] ∧ ((-2) ≤ rv ∧ rv ≤ 1)) ∧ sv_inv sp_1 ty σ' ∧ sv_ofx [] [93] ty σ σ') := by
  refine sv_enter (by decide) (Nat.le_of_ble_eq_true rfl) ?_
  intro p e s m args below meth c C hr
  have C : sv_C g A RX11 cX11_quarrel 5 p s m args meth c := C
  have hr : meth.sig.returnType = (some .int) := hr
  have hF : sv_ofx [] [93] ty σ σ := sv_ofx.rf
  refine sv_same (st2 := []) (lv2 := [(0, sv_r a), (1, sv_i ar1), (2, sv_i ar2), (3, sv_i on)]) rfl rfl ?_
  refine sv_go C.1 C.2.1 [(.iload_n 1, 1)] (pc' := 1) (by decide +kernel) rfl (lv' := [(0, sv_r a), (1, sv_i ar1), (2, sv_i ar2), (3, sv_i on)]) (st' := [sv_i ar1]) rfl ?_
  refine sv_cs C (index := 316) (k := 1) (rest := []) (by decide +kernel) (sf_X11_isBrotherhood l g A ty σ hok hTA hI (ar1) ⟨by omega, by omega⟩) ⟨co_X11_isBrotherhood, in_X11, ⟨by decide, by decide, by decide +kernel⟩, Nat.le_of_ble_eq_true rfl, Nat.le_of_ble_eq_true rfl⟩ ml_X11_316 st_X11_isBrotherhood rfl rfl (Nat.le_of_ble_eq_true rfl) ⟨Nat.zero_le _, Nat.zero_le _⟩ (fun r2 σ3 hpo1 hok4 => ?_)
  obtain ⟨rfl, ⟨vu5, rfl, hvu5, ivu5_0⟩⟩ := hpo1
  refine sv_same (st2 := [sv_i vu5]) (lv2 := [(0, sv_r a), (1, sv_i ar1), (2, sv_i ar2), (3, sv_i on)]) rfl rfl ?_
  refine sv_if C.1 C.2.1 (cnd := .eq) (off := 15) (tgt := 19) (by decide +kernel) (by decide) ⟨by omega, by omega⟩ (fun (h6 : vu5 = 0) => ?_) (fun (h6 : ¬ (vu5 = 0)) => ?_)
  · refine sv_go C.1 C.2.1 [(.bipush (-2), 2)] (pc' := 21) (by decide +kernel) rfl (lv' := [(0, sv_r a), (1, sv_i ar1), (2, sv_i ar2), (3, sv_i on)]) (st' := [sv_i ((-2))]) rfl ?_
    exact sv_iret C hr (by decide +kernel) hok4 (⟨⟨_, rfl, ⟨by omega, by omega⟩⟩, hI, hF⟩)
  · have hp7 := ivu5_0 (by omega) (by omega)
    refine sv_go C.1 C.2.1 [(.iload_n 2, 1)] (pc' := 8) (by decide +kernel) rfl (lv' := [(0, sv_r a), (1, sv_i ar1), (2, sv_i ar2), (3, sv_i on)]) (st' := [sv_i ar2]) rfl ?_
    refine sv_cs C (index := 316) (k := 1) (rest := []) (by decide +kernel) (sf_X11_isBrotherhood l g A ty σ hok4 hTA hI (ar2) ⟨by omega, by omega⟩) ⟨co_X11_isBrotherhood, in_X11, ⟨by decide, by decide, by decide +kernel⟩, Nat.le_of_ble_eq_true rfl, Nat.le_of_ble_eq_true rfl⟩ ml_X11_316 st_X11_isBrotherhood rfl rfl (Nat.le_of_ble_eq_true rfl) ⟨Nat.zero_le _, Nat.zero_le _⟩ (fun r9 σ10 hpo8 hok11 => ?_)
    obtain ⟨rfl, ⟨vu12, rfl, hvu12, ivu12_0⟩⟩ := hpo8
    refine sv_same (st2 := [sv_i vu12]) (lv2 := [(0, sv_r a), (1, sv_i ar1), (2, sv_i ar2), (3, sv_i on)]) rfl rfl ?_
    refine sv_if C.1 C.2.1 (cnd := .eq) (off := 8) (tgt := 19) (by decide +kernel) (by decide) ⟨by omega, by omega⟩ (fun (h13 : vu12 = 0) => ?_) (fun (h13 : ¬ (vu12 = 0)) => ?_)
    · refine sv_go C.1 C.2.1 [(.bipush (-2), 2)] (pc' := 21) (by decide +kernel) rfl (lv' := [(0, sv_r a), (1, sv_i ar1), (2, sv_i ar2), (3, sv_i on)]) (st' := [sv_i ((-2))]) rfl ?_
      exact sv_iret C hr (by decide +kernel) hok11 (⟨⟨_, rfl, ⟨by omega, by omega⟩⟩, hI, hF⟩)
    · have hp14 := ivu12_0 (by omega) (by omega)
      refine sv_go C.1 C.2.1 [(.iload_n 1, 1), (.iload_n 2, 1)] (pc' := 16) (by decide +kernel) rfl (lv' := [(0, sv_r a), (1, sv_i ar1), (2, sv_i ar2), (3, sv_i on)]) (st' := [sv_i ar2, sv_i ar1]) rfl ?_
      refine sv_icmp C.1 C.2.1 (cnd := .ne) (off := 6) (tgt := 22) (by decide +kernel) (by decide) ⟨by omega, by omega⟩ ⟨by omega, by omega⟩ (fun (h15 : ar1 ≠ ar2) => ?_) (fun (h15 : ¬ (ar1 ≠ ar2)) => ?_)
      · refine sv_go C.1 C.2.1 [(.aload_n 0, 1)] (pc' := 23) (by decide +kernel) rfl (lv' := [(0, sv_r a), (1, sv_i ar1), (2, sv_i ar2), (3, sv_i on)]) (st' := [sv_r a]) rfl ?_
        obtain ⟨v16, ev16, kv16⟩ := hI.ref (k := 33) k_a rfl
        refine sv_gf C (index := 127) (ci := 10) (k := 33) (r := (RX11, TX11, 47)) (v := sv_r v16) (by decide +kernel) (by rw [k_a]; rfl) rfl (by decide) fl_X11_127 (congrArg sv_a ev16) ?_
        refine sv_go C.1 C.2.1 [(.bipush 10, 2), (.iload_n 1, 1), (.imul, 1), (.iload_n 2, 1), (.iadd, 1)] (pc' := 32) (by decide +kernel) rfl (lv' := [(0, sv_r a), (1, sv_i ar1), (2, sv_i ar2), (3, sv_i on)]) (st' := [sv_i ((10 * ar1) + ar2), sv_r v16]) rfl ?_
        refine sv_za C (n := 100) (by decide +kernel) (by rw [kv16]; rfl) (by decide) (by omega) (by omega) ?_
        obtain ⟨v17, ev17, hv17⟩ := sv_rdez hok11 (a := v16) (k := ((10 * ar1) + ar2 : Int).toNat) (n := 100) (by rw [kv16]; rfl) (by omega)
        rw [ev17]
        refine sv_go C.1 C.2.1 [(.istore 4, 2), (.aload_n 0, 1)] (pc' := 36) (by decide +kernel) rfl (lv' := [(0, sv_r a), (1, sv_i ar1), (2, sv_i ar2), (3, sv_i on), (4, sv_i v17)]) (st' := [sv_r a]) rfl ?_
        refine sv_gf C (index := 127) (ci := 10) (k := 33) (r := (RX11, TX11, 47)) (v := sv_r v16) (by decide +kernel) (by rw [k_a]; rfl) rfl (by decide) fl_X11_127 (congrArg sv_a ev16) ?_
        refine sv_go C.1 C.2.1 [(.bipush 10, 2), (.iload_n 1, 1), (.imul, 1), (.iload_n 2, 1), (.iadd, 1), (.iload_n 3, 1)] (pc' := 46) (by decide +kernel) rfl (lv' := [(0, sv_r a), (1, sv_i ar1), (2, sv_i ar2), (3, sv_i on), (4, sv_i v17)]) (st' := [sv_i on, sv_i ((10 * ar1) + ar2), sv_r v16]) rfl ?_
        refine sv_zs C (n := 100) (by decide +kernel) (by rw [kv16]; rfl) (by decide) (by omega) (by omega) ⟨by omega, by omega⟩ (hTA _ (by rw [kv16]; decide)) hok11 (fun hok18 => ?_)
        have hI20 := hI.up (a := v16) (k := ((10 * ar1) + ar2 : Int).toNat) (z := on) (by rw [kv16]; exact trivial)
        have hF21 := hF.up (a := v16) (k := ((10 * ar1) + ar2 : Int).toNat) (z := on) (Or.inl (by rw [kv16]; decide))
        generalize eσ19 : sv_up σ v16 ((10 * ar1) + ar2 : Int).toNat on = σ19 at hok18 hI20 hF21 ⊢
        have t22 : σ19 a 33 = (v16 : Int) + 1 := by rw [← eσ19, sv_up_a (sv_ne k_a kv16 (by decide))]; exact ev16
        have t24 : σ19 v16 ((10 * ar1) + ar2 : Int).toNat = on := by rw [← eσ19]; exact sv_up_s _ _ _ _
        refine sv_go C.1 C.2.1 [(.aload_n 0, 1)] (pc' := 48) (by decide +kernel) rfl (lv' := [(0, sv_r a), (1, sv_i ar1), (2, sv_i ar2), (3, sv_i on), (4, sv_i v17)]) (st' := [sv_r a]) rfl ?_
        refine sv_gf C (index := 127) (ci := 10) (k := 33) (r := (RX11, TX11, 47)) (v := sv_r v16) (by decide +kernel) (by rw [k_a]; rfl) rfl (by decide) fl_X11_127 (congrArg sv_a t22) ?_
        refine sv_go C.1 C.2.1 [(.bipush 10, 2), (.iload_n 2, 1), (.imul, 1), (.iload_n 1, 1), (.iadd, 1), (.iload_n 3, 1)] (pc' := 58) (by decide +kernel) rfl (lv' := [(0, sv_r a), (1, sv_i ar1), (2, sv_i ar2), (3, sv_i on), (4, sv_i v17)]) (st' := [sv_i on, sv_i ((10 * ar2) + ar1), sv_r v16]) rfl ?_
        refine sv_zs C (n := 100) (by decide +kernel) (by rw [kv16]; rfl) (by decide) (by omega) (by omega) ⟨by omega, by omega⟩ (hTA _ (by rw [kv16]; decide)) hok18 (fun hok25 => ?_)
        have hI27 := hI20.up (a := v16) (k := ((10 * ar2) + ar1 : Int).toNat) (z := on) (by rw [kv16]; exact trivial)
        have hF28 := hF21.up (a := v16) (k := ((10 * ar2) + ar1 : Int).toNat) (z := on) (Or.inl (by rw [kv16]; decide))
        generalize eσ26 : sv_up σ19 v16 ((10 * ar2) + ar1 : Int).toNat on = σ26 at hok25 hI27 hF28 ⊢
        have t29 : σ26 a 33 = (v16 : Int) + 1 := by rw [← eσ26, sv_up_a (sv_ne k_a kv16 (by decide))]; exact t22
        have t31 : σ26 v16 ((10 * ar2) + ar1 : Int).toNat = on := by rw [← eσ26]; exact sv_up_s _ _ _ _
        refine sv_go C.1 C.2.1 [(.iload 4, 2), (.iload_n 3, 1)] (pc' := 62) (by decide +kernel) rfl (lv' := [(0, sv_r a), (1, sv_i ar1), (2, sv_i ar2), (3, sv_i on), (4, sv_i v17)]) (st' := [sv_i on, sv_i v17]) rfl ?_
        refine sv_icmp C.1 C.2.1 (cnd := .ne) (off := 7) (tgt := 69) (by decide +kernel) (by decide) ⟨by omega, by omega⟩ ⟨by omega, by omega⟩ (fun (h32 : v17 ≠ on) => ?_) (fun (h32 : ¬ (v17 ≠ on)) => ?_)
        · refine sv_go C.1 C.2.1 [(.iconst 1, 1)] (pc' := 70) (by decide +kernel) rfl (lv' := [(0, sv_r a), (1, sv_i ar1), (2, sv_i ar2), (3, sv_i on), (4, sv_i v17)]) (st' := [sv_i 1]) rfl ?_
          exact sv_iret C hr (by decide +kernel) hok25 (⟨⟨_, rfl, ⟨by omega, by omega⟩⟩, hI27, hF28⟩)
        · refine sv_go C.1 C.2.1 [(.iconst 0, 1)] (pc' := 66) (by decide +kernel) rfl (lv' := [(0, sv_r a), (1, sv_i ar1), (2, sv_i ar2), (3, sv_i on), (4, sv_i v17)]) (st' := [sv_i 0]) rfl ?_
          refine sv_goto C.1 C.2.1 (off := 4) (tgt := 70) (by decide +kernel) (by decide) ?_
          exact sv_iret C hr (by decide +kernel) hok25 (⟨⟨_, rfl, ⟨by omega, by omega⟩⟩, hI27, hF28⟩)
      · refine sv_go C.1 C.2.1 [(.bipush (-2), 2)] (pc' := 21) (by decide +kernel) rfl (lv' := [(0, sv_r a), (1, sv_i ar1), (2, sv_i ar2), (3, sv_i on)]) (st' := [sv_i ((-2))]) rfl ?_
        exact sv_iret C hr (by decide +kernel) hok11 (⟨⟨_, rfl, ⟨by omega, by omega⟩⟩, hI, hF⟩)

set_option maxHeartbeats 4000000 in
set_option maxRecDepth 100000 in
theorem sf_X11_parts (l : Launch) (g : sv_G) (A : Nat → Prop) (ty : Nat → Nat) (σ : Nat → Nat → Int) (hok : sv_ok ty σ) (hTA : ∀ q, ty q ≠ 0 → A q) (hI : sv_inv sp_1 ty σ) (a : Nat) (k_a : ty a = 10) (v : Int) (h_v : 0 ≤ v ∧ v ≤ 9) (w : Int) (h_w : (-1) ≤ w ∧ w ≤ 9) : sv_M l yX11_parts cX11_parts 3 (some .boolean) { frames := 0, cells := 0, slots := 0, locals := 0 } g A ty σ [sv_r a, sv_i v, sv_i w] (fun r σ' => σ = σ' ∧ ∃ rv : Int, r = [sv_i rv] ∧ (0 ≤ rv ∧ rv ≤ 1)) := by
  refine sv_enter (by decide) (Nat.le_of_ble_eq_true rfl) ?_
  intro p e s m args below meth c C hr
  have C : sv_C g A RX11 cX11_parts 3 p s m args meth c := C
  have hr : meth.sig.returnType = (some .boolean) := hr
  have hF : sv_ofx [] [] ty σ σ := sv_ofx.rf
  refine sv_same (st2 := []) (lv2 := [(0, sv_r a), (1, sv_i v), (2, sv_i w)]) rfl rfl ?_
  refine sv_go C.1 C.2.1 [(.iload_n 2, 1), (.iconst (-1), 1)] (pc' := 2) (by decide +kernel) rfl (lv' := [(0, sv_r a), (1, sv_i v), (2, sv_i w)]) (st' := [sv_i ((-1)), sv_i w]) rfl ?_
  refine sv_icmp C.1 C.2.1 (cnd := .eq) (off := 21) (tgt := 23) (by decide +kernel) (by decide) ⟨by omega, by omega⟩ ⟨by omega, by omega⟩ (fun (h1 : w = ((-1))) => ?_) (fun (h1 : ¬ (w = ((-1)))) => ?_)
  · refine sv_go C.1 C.2.1 [(.iconst 0, 1)] (pc' := 24) (by decide +kernel) rfl (lv' := [(0, sv_r a), (1, sv_i v), (2, sv_i w)]) (st' := [sv_i 0]) rfl ?_
    exact sv_zret C hr (by omega) (by decide +kernel) hok (⟨rfl, ⟨_, rfl, ⟨by omega, by omega⟩⟩⟩)
  · refine sv_go C.1 C.2.1 [(.aload_n 0, 1)] (pc' := 6) (by decide +kernel) rfl (lv' := [(0, sv_r a), (1, sv_i v), (2, sv_i w)]) (st' := [sv_r a]) rfl ?_
    obtain ⟨v2, ev2, kv2⟩ := hI.ref (k := 33) k_a rfl
    refine sv_gf C (index := 127) (ci := 10) (k := 33) (r := (RX11, TX11, 47)) (v := sv_r v2) (by decide +kernel) (by rw [k_a]; rfl) rfl (by decide) fl_X11_127 (congrArg sv_a ev2) ?_
    refine sv_go C.1 C.2.1 [(.bipush 10, 2), (.iload_n 1, 1), (.imul, 1), (.iload_n 2, 1), (.iadd, 1)] (pc' := 15) (by decide +kernel) rfl (lv' := [(0, sv_r a), (1, sv_i v), (2, sv_i w)]) (st' := [sv_i ((10 * v) + w), sv_r v2]) rfl ?_
    refine sv_za C (n := 100) (by decide +kernel) (by rw [kv2]; rfl) (by decide) (by omega) (by omega) ?_
    obtain ⟨v3, ev3, hv3⟩ := sv_rdez hok (a := v2) (k := ((10 * v) + w : Int).toNat) (n := 100) (by rw [kv2]; rfl) (by omega)
    rw [ev3]
    refine sv_if C.1 C.2.1 (cnd := .eq) (off := 7) (tgt := 23) (by decide +kernel) (by decide) ⟨by omega, by omega⟩ (fun (h4 : v3 = 0) => ?_) (fun (h4 : ¬ (v3 = 0)) => ?_)
    · refine sv_go C.1 C.2.1 [(.iconst 0, 1)] (pc' := 24) (by decide +kernel) rfl (lv' := [(0, sv_r a), (1, sv_i v), (2, sv_i w)]) (st' := [sv_i 0]) rfl ?_
      exact sv_zret C hr (by omega) (by decide +kernel) hok (⟨rfl, ⟨_, rfl, ⟨by omega, by omega⟩⟩⟩)
    · refine sv_go C.1 C.2.1 [(.iconst 1, 1)] (pc' := 20) (by decide +kernel) rfl (lv' := [(0, sv_r a), (1, sv_i v), (2, sv_i w)]) (st' := [sv_i 1]) rfl ?_
      refine sv_goto C.1 C.2.1 (off := 4) (tgt := 24) (by decide +kernel) (by decide) ?_
      exact sv_zret C hr (by omega) (by decide +kernel) hok (⟨rfl, ⟨_, rfl, ⟨by omega, by omega⟩⟩⟩)

theorem fl_X11_321 : Cond.fieldLink RX11 321 "SaintsRoadModel" "turnsAll" "I" ∈ lw_good := sv_mem 1144 (by decide +kernel) rfl
theorem ml_X11_331 : Cond.methodLink RX11 331 yJ9_min_7cf53 ∈ lw_good := sv_mem 1440 (by decide +kernel) rfl
theorem fl_X11_130 : Cond.fieldLink RX11 130 "SaintsRoadModel" "turnYear" "[I" ∈ lw_good := sv_mem 1138 (by decide +kernel) rfl
theorem fl_X11_133 : Cond.fieldLink RX11 133 "SaintsRoadModel" "turnDay" "[I" ∈ lw_good := sv_mem 1139 (by decide +kernel) rfl
theorem fl_X11_136 : Cond.fieldLink RX11 136 "SaintsRoadModel" "turnFeast" "[I" ∈ lw_good := sv_mem 1140 (by decide +kernel) rfl
theorem fl_X11_139 : Cond.fieldLink RX11 139 "SaintsRoadModel" "turnBy" "[I" ∈ lw_good := sv_mem 1141 (by decide +kernel) rfl
set_option maxHeartbeats 4000000 in
set_option maxRecDepth 100000 in
theorem sf_X11_turn (l : Launch) (g : sv_G) (A : Nat → Prop) (ty : Nat → Nat) (σ : Nat → Nat → Int) (hok : sv_ok ty σ) (hTA : ∀ q, ty q ≠ 0 → A q) (hI : sv_inv sp_1 ty σ) (a : Nat) (k_a : ty a = 10) (ar1 : Int) (h_ar1 : (-2147483648) ≤ ar1 ∧ ar1 ≤ 2147483647) (ar2 : Int) (h_ar2 : (-2147483648) ≤ ar2 ∧ ar2 ≤ 2147483647) : sv_M l yX11_turn cX11_turn 3 (some .int) { frames := 1, cells := 0, slots := 0, locals := 25 } g A ty σ [sv_r a, sv_i ar1, sv_i ar2] (fun r σ' => σ = σ' ∧ ∃ rv : Int, r = [sv_i rv] ∧ ((-2147483648) ≤ rv ∧ rv ≤ 2147483647)) := by
  refine sv_enter (by decide) (Nat.le_of_ble_eq_true rfl) ?_
  intro p e s m args below meth c C hr
  have C : sv_C g A RX11 cX11_turn 3 p s m args meth c := C
  have hr : meth.sig.returnType = (some .int) := hr
  have hF : sv_ofx [] [] ty σ σ := sv_ofx.rf
  refine sv_same (st2 := []) (lv2 := [(0, sv_r a), (1, sv_i ar1), (2, sv_i ar2)]) rfl rfl ?_
  refine sv_go C.1 C.2.1 [(.iload_n 1, 1)] (pc' := 1) (by decide +kernel) rfl (lv' := [(0, sv_r a), (1, sv_i ar1), (2, sv_i ar2)]) (st' := [sv_i ar1]) rfl ?_
  refine sv_i2l C.1 C.2.1 (by decide +kernel) ⟨by omega, by omega⟩ ?_
  refine sv_go C.1 C.2.1 [(.lconst 0, 1), (.aload_n 0, 1)] (pc' := 4) (by decide +kernel) rfl (lv' := [(0, sv_r a), (1, sv_i ar1), (2, sv_i ar2)]) (st' := [sv_r a, sv_l 0, sv_l ar1]) rfl ?_
  obtain ⟨v1, ev1, hv1⟩ := sv_rdn hI (k := 40) k_a rfl
  refine sv_gf C (index := 321) (ci := 10) (k := 40) (r := (RX11, TX11, 47)) (v := sv_i v1) (by decide +kernel) (by rw [k_a]; rfl) rfl (by decide) fl_X11_321 (congrArg sv_i ev1) ?_
  refine sv_go C.1 C.2.1 [(.sipush 600, 3)] (pc' := 10) (by decide +kernel) rfl (lv' := [(0, sv_r a), (1, sv_i ar1), (2, sv_i ar2)]) (st' := [sv_i 600, sv_i v1, sv_l 0, sv_l ar1]) rfl ?_
  refine sv_min C (index := 331) (by decide +kernel) ml_X11_331 ⟨by omega, by omega⟩ ⟨by omega, by omega⟩ (Nat.le_of_ble_eq_true rfl) (Nat.le_of_ble_eq_true rfl) ⟨Nat.zero_le _, Nat.zero_le _⟩ ?_
  obtain ⟨mm2, hmm2⟩ : ∃ q : Int, q = (if (600 : Int) < v1 then 600 else v1) := ⟨_, rfl⟩
  refine sv_same (st2 := [sv_i mm2, sv_l 0, sv_l ar1]) (lv2 := [(0, sv_r a), (1, sv_i ar1), (2, sv_i ar2)]) (by rw [hmm2]) rfl ?_
  refine sv_i2l C.1 C.2.1 (by decide +kernel) ⟨by omega, by omega⟩ ?_
  refine sv_go C.1 C.2.1 [(.lconst 1, 1), (.lsub, 1)] (pc' := 16) (by decide +kernel) rfl (lv' := [(0, sv_r a), (1, sv_i ar1), (2, sv_i ar2)]) (st' := [sv_l (mm2 - 1), sv_l 0, sv_l ar1]) rfl ?_
  refine sv_cs C (index := 9) (k := 3) (rest := []) (by decide +kernel) (ct_X11_in l g A ty σ hok (ar1) ⟨by omega, by omega⟩ (0) ⟨by omega, by omega⟩ (mm2 - 1) ⟨by omega, by omega⟩) ⟨co_X11_in, in_X11, ⟨by decide, by decide, by decide +kernel⟩, Nat.le_of_ble_eq_true rfl, Nat.le_of_ble_eq_true rfl⟩ ml_X11_9 st_X11_in rfl rfl (Nat.le_of_ble_eq_true rfl) ⟨Nat.zero_le _, Nat.zero_le _⟩ (fun r4 σ5 hpo3 hok6 => ?_)
  obtain ⟨rfl, ⟨h7, rfl⟩ | ⟨h7, rfl⟩⟩ := hpo3
  · refine sv_same (st2 := [sv_i 1]) (lv2 := [(0, sv_r a), (1, sv_i ar1), (2, sv_i ar2)]) rfl rfl ?_
    refine sv_if_t C.1 C.2.1 (cnd := .ne) (off := 5) (tgt := 24) (by decide +kernel) (by decide) ⟨by omega, by omega⟩ (show 1 ≠ 0 by omega) ?_
    refine sv_go C.1 C.2.1 [(.iload_n 2, 1)] (pc' := 25) (by decide +kernel) rfl (lv' := [(0, sv_r a), (1, sv_i ar1), (2, sv_i ar2)]) (st' := [sv_i ar2]) rfl ?_
    rcases (show ar2 = 0 ∨ ar2 = 1 ∨ ar2 = 2 ∨ ar2 = 3 ∨ (ar2 ≠ 0 ∧ ar2 ≠ 1 ∧ ar2 ≠ 2 ∧ ar2 ≠ 3) by omega) with h8 | h8 | h8 | h8 | h8
    · refine sv_tsI C.1 C.2.1 (dflt := 59) (lo := 0) (hi := 3) (offs := #[31, 38, 45, 52]) (len := 31) (off := 31) (tgt := 56) (by decide +kernel) 0 h8 (by decide) rfl (by decide) ?_
      refine sv_go C.1 C.2.1 [(.aload_n 0, 1)] (pc' := 57) (by decide +kernel) rfl (lv' := [(0, sv_r a), (1, sv_i ar1), (2, sv_i ar2)]) (st' := [sv_r a]) rfl ?_
      obtain ⟨v9, ev9, kv9⟩ := hI.ref (k := 34) k_a rfl
      refine sv_gf C (index := 130) (ci := 10) (k := 34) (r := (RX11, TX11, 47)) (v := sv_r v9) (by decide +kernel) (by rw [k_a]; rfl) rfl (by decide) fl_X11_130 (congrArg sv_a ev9) ?_
      refine sv_go C.1 C.2.1 [(.iload_n 1, 1)] (pc' := 61) (by decide +kernel) rfl (lv' := [(0, sv_r a), (1, sv_i ar1), (2, sv_i ar2)]) (st' := [sv_i ar1, sv_r v9]) rfl ?_
      refine sv_ia C (n := 600) (by decide +kernel) (by rw [kv9]; rfl) (by decide) (by omega) (by omega) ?_
      obtain ⟨v10, ev10, hv10⟩ := sv_rde hok6 (a := v9) (k := (ar1 : Int).toNat) (n := 600) (by rw [kv9]; rfl) (by omega)
      rw [ev10]
      exact sv_iret C hr (by decide +kernel) hok6 (⟨rfl, ⟨_, rfl, ⟨by omega, by omega⟩⟩⟩)
    · refine sv_tsI C.1 C.2.1 (dflt := 59) (lo := 0) (hi := 3) (offs := #[31, 38, 45, 52]) (len := 31) (off := 38) (tgt := 63) (by decide +kernel) 1 h8 (by decide) rfl (by decide) ?_
      refine sv_go C.1 C.2.1 [(.aload_n 0, 1)] (pc' := 64) (by decide +kernel) rfl (lv' := [(0, sv_r a), (1, sv_i ar1), (2, sv_i ar2)]) (st' := [sv_r a]) rfl ?_
      obtain ⟨v11, ev11, kv11⟩ := hI.ref (k := 35) k_a rfl
      refine sv_gf C (index := 133) (ci := 10) (k := 35) (r := (RX11, TX11, 47)) (v := sv_r v11) (by decide +kernel) (by rw [k_a]; rfl) rfl (by decide) fl_X11_133 (congrArg sv_a ev11) ?_
      refine sv_go C.1 C.2.1 [(.iload_n 1, 1)] (pc' := 68) (by decide +kernel) rfl (lv' := [(0, sv_r a), (1, sv_i ar1), (2, sv_i ar2)]) (st' := [sv_i ar1, sv_r v11]) rfl ?_
      refine sv_ia C (n := 600) (by decide +kernel) (by rw [kv11]; rfl) (by decide) (by omega) (by omega) ?_
      obtain ⟨v12, ev12, hv12⟩ := sv_rde hok6 (a := v11) (k := (ar1 : Int).toNat) (n := 600) (by rw [kv11]; rfl) (by omega)
      rw [ev12]
      exact sv_iret C hr (by decide +kernel) hok6 (⟨rfl, ⟨_, rfl, ⟨by omega, by omega⟩⟩⟩)
    · refine sv_tsI C.1 C.2.1 (dflt := 59) (lo := 0) (hi := 3) (offs := #[31, 38, 45, 52]) (len := 31) (off := 45) (tgt := 70) (by decide +kernel) 2 h8 (by decide) rfl (by decide) ?_
      refine sv_go C.1 C.2.1 [(.aload_n 0, 1)] (pc' := 71) (by decide +kernel) rfl (lv' := [(0, sv_r a), (1, sv_i ar1), (2, sv_i ar2)]) (st' := [sv_r a]) rfl ?_
      obtain ⟨v13, ev13, kv13⟩ := hI.ref (k := 36) k_a rfl
      refine sv_gf C (index := 136) (ci := 10) (k := 36) (r := (RX11, TX11, 47)) (v := sv_r v13) (by decide +kernel) (by rw [k_a]; rfl) rfl (by decide) fl_X11_136 (congrArg sv_a ev13) ?_
      refine sv_go C.1 C.2.1 [(.iload_n 1, 1)] (pc' := 75) (by decide +kernel) rfl (lv' := [(0, sv_r a), (1, sv_i ar1), (2, sv_i ar2)]) (st' := [sv_i ar1, sv_r v13]) rfl ?_
      refine sv_ia C (n := 600) (by decide +kernel) (by rw [kv13]; rfl) (by decide) (by omega) (by omega) ?_
      obtain ⟨v14, ev14, hv14⟩ := sv_rde hok6 (a := v13) (k := (ar1 : Int).toNat) (n := 600) (by rw [kv13]; rfl) (by omega)
      rw [ev14]
      exact sv_iret C hr (by decide +kernel) hok6 (⟨rfl, ⟨_, rfl, ⟨by omega, by omega⟩⟩⟩)
    · refine sv_tsI C.1 C.2.1 (dflt := 59) (lo := 0) (hi := 3) (offs := #[31, 38, 45, 52]) (len := 31) (off := 52) (tgt := 77) (by decide +kernel) 3 h8 (by decide) rfl (by decide) ?_
      refine sv_go C.1 C.2.1 [(.aload_n 0, 1)] (pc' := 78) (by decide +kernel) rfl (lv' := [(0, sv_r a), (1, sv_i ar1), (2, sv_i ar2)]) (st' := [sv_r a]) rfl ?_
      obtain ⟨v15, ev15, kv15⟩ := hI.ref (k := 37) k_a rfl
      refine sv_gf C (index := 139) (ci := 10) (k := 37) (r := (RX11, TX11, 47)) (v := sv_r v15) (by decide +kernel) (by rw [k_a]; rfl) rfl (by decide) fl_X11_139 (congrArg sv_a ev15) ?_
      refine sv_go C.1 C.2.1 [(.iload_n 1, 1)] (pc' := 82) (by decide +kernel) rfl (lv' := [(0, sv_r a), (1, sv_i ar1), (2, sv_i ar2)]) (st' := [sv_i ar1, sv_r v15]) rfl ?_
      refine sv_ia C (n := 600) (by decide +kernel) (by rw [kv15]; rfl) (by decide) (by omega) (by omega) ?_
      obtain ⟨v16, ev16, hv16⟩ := sv_rde hok6 (a := v15) (k := (ar1 : Int).toNat) (n := 600) (by rw [kv15]; rfl) (by omega)
      rw [ev16]
      exact sv_iret C hr (by decide +kernel) hok6 (⟨rfl, ⟨_, rfl, ⟨by omega, by omega⟩⟩⟩)
    · refine sv_tsO C.1 C.2.1 (dflt := 59) (lo := 0) (hi := 3) (offs := #[31, 38, 45, 52]) (len := 31) (tgt := 84) (by decide +kernel) ⟨by omega, by omega⟩ (by omega) (by decide) ?_
      refine sv_go C.1 C.2.1 [(.iconst (-1), 1)] (pc' := 85) (by decide +kernel) rfl (lv' := [(0, sv_r a), (1, sv_i ar1), (2, sv_i ar2)]) (st' := [sv_i ((-1))]) rfl ?_
      exact sv_iret C hr (by decide +kernel) hok6 (⟨rfl, ⟨_, rfl, ⟨by omega, by omega⟩⟩⟩)
  · refine sv_same (st2 := [sv_i 0]) (lv2 := [(0, sv_r a), (1, sv_i ar1), (2, sv_i ar2)]) rfl rfl ?_
    refine sv_if_f C.1 C.2.1 (cnd := .ne) (off := 5) (tgt := 24) (by decide +kernel) (by decide) ⟨by omega, by omega⟩ (show ¬ (0 ≠ 0) by omega) ?_
    refine sv_go C.1 C.2.1 [(.iconst (-1), 1)] (pc' := 23) (by decide +kernel) rfl (lv' := [(0, sv_r a), (1, sv_i ar1), (2, sv_i ar2)]) (st' := [sv_i ((-1))]) rfl ?_
    exact sv_iret C hr (by decide +kernel) hok6 (⟨rfl, ⟨_, rfl, ⟨by omega, by omega⟩⟩⟩)

theorem fl_X11_142 : Cond.fieldLink RX11 142 "SaintsRoadModel" "carriedBy" "[I" ∈ lw_good := sv_mem 1142 (by decide +kernel) rfl
set_option maxHeartbeats 4000000 in
set_option maxRecDepth 100000 in
theorem sf_X11_carried (l : Launch) (g : sv_G) (A : Nat → Prop) (ty : Nat → Nat) (σ : Nat → Nat → Int) (hok : sv_ok ty σ) (hTA : ∀ q, ty q ≠ 0 → A q) (hI : sv_inv sp_1 ty σ) (a : Nat) (k_a : ty a = 10) (ar1 : Int) (h_ar1 : (-2147483648) ≤ ar1 ∧ ar1 ≤ 2147483647) : sv_M l yX11_carried cX11_carried 2 (some .int) { frames := 2, cells := 0, slots := 0, locals := 45 } g A ty σ [sv_r a, sv_i ar1] (fun r σ' => σ = σ' ∧ ∃ rv : Int, r = [sv_i rv] ∧ ((-2147483648) ≤ rv ∧ rv ≤ 2147483647)) := by
  refine sv_enter (by decide) (Nat.le_of_ble_eq_true rfl) ?_
  intro p e s m args below meth c C hr
  have C : sv_C g A RX11 cX11_carried 2 p s m args meth c := C
  have hr : meth.sig.returnType = (some .int) := hr
  have hF : sv_ofx [] [] ty σ σ := sv_ofx.rf
  refine sv_same (st2 := []) (lv2 := [(0, sv_r a), (1, sv_i ar1)]) rfl rfl ?_
  refine sv_go C.1 C.2.1 [(.iload_n 1, 1)] (pc' := 1) (by decide +kernel) rfl (lv' := [(0, sv_r a), (1, sv_i ar1)]) (st' := [sv_i ar1]) rfl ?_
  refine sv_cs C (index := 316) (k := 1) (rest := []) (by decide +kernel) (sf_X11_isBrotherhood l g A ty σ hok hTA hI (ar1) ⟨by omega, by omega⟩) ⟨co_X11_isBrotherhood, in_X11, ⟨by decide, by decide, by decide +kernel⟩, Nat.le_of_ble_eq_true rfl, Nat.le_of_ble_eq_true rfl⟩ ml_X11_316 st_X11_isBrotherhood rfl rfl (Nat.le_of_ble_eq_true rfl) ⟨Nat.zero_le _, Nat.zero_le _⟩ (fun r2 σ3 hpo1 hok4 => ?_)
  obtain ⟨rfl, ⟨vu5, rfl, hvu5, ivu5_0⟩⟩ := hpo1
  refine sv_same (st2 := [sv_i vu5]) (lv2 := [(0, sv_r a), (1, sv_i ar1)]) rfl rfl ?_
  refine sv_if C.1 C.2.1 (cnd := .eq) (off := 12) (tgt := 16) (by decide +kernel) (by decide) ⟨by omega, by omega⟩ (fun (h6 : vu5 = 0) => ?_) (fun (h6 : ¬ (vu5 = 0)) => ?_)
  · refine sv_go C.1 C.2.1 [(.bipush (-2), 2)] (pc' := 18) (by decide +kernel) rfl (lv' := [(0, sv_r a), (1, sv_i ar1)]) (st' := [sv_i ((-2))]) rfl ?_
    exact sv_iret C hr (by decide +kernel) hok4 (⟨rfl, ⟨_, rfl, ⟨by omega, by omega⟩⟩⟩)
  · have hp7 := ivu5_0 (by omega) (by omega)
    refine sv_go C.1 C.2.1 [(.aload_n 0, 1)] (pc' := 8) (by decide +kernel) rfl (lv' := [(0, sv_r a), (1, sv_i ar1)]) (st' := [sv_r a]) rfl ?_
    obtain ⟨v8, ev8, kv8⟩ := hI.ref (k := 38) k_a rfl
    refine sv_gf C (index := 142) (ci := 10) (k := 38) (r := (RX11, TX11, 47)) (v := sv_r v8) (by decide +kernel) (by rw [k_a]; rfl) rfl (by decide) fl_X11_142 (congrArg sv_a ev8) ?_
    refine sv_go C.1 C.2.1 [(.iload_n 1, 1)] (pc' := 12) (by decide +kernel) rfl (lv' := [(0, sv_r a), (1, sv_i ar1)]) (st' := [sv_i ar1, sv_r v8]) rfl ?_
    refine sv_ia C (n := 10) (by decide +kernel) (by rw [kv8]; rfl) (by decide) (by omega) (by omega) ?_
    obtain ⟨v9, ev9, hv9⟩ := sv_rde hok4 (a := v8) (k := (ar1 : Int).toNat) (n := 10) (by rw [kv8]; rfl) (by omega)
    rw [ev9]
    refine sv_goto C.1 C.2.1 (off := 5) (tgt := 18) (by decide +kernel) (by decide) ?_
    exact sv_iret C hr (by decide +kernel) hok4 (⟨rfl, ⟨_, rfl, ⟨by omega, by omega⟩⟩⟩)

theorem ml_X11_338 : Cond.methodLink RX11 338 yX11_isCorner ∈ lw_good := sv_mem 1449 (by decide +kernel) rfl
theorem co_X11_isCorner : Cond.code yX11_isCorner cX11_isCorner 1 (some .boolean) ∈ lw_good := sv_mem 1451 (by decide +kernel) rfl
theorem st_X11_isCorner : Cond.static yX11_isCorner ∈ lw_good := sv_mem 1450 (by decide +kernel) rfl
theorem cl_X11_341 : Cond.constantLong RX11 341 (60) ∈ lw_good := sv_mem 1453 (by decide +kernel) rfl
theorem fl_X11_148 : Cond.fieldLink RX11 148 "SaintsRoadModel" "streets" "[I" ∈ lw_good := sv_mem 1145 (by decide +kernel) rfl
set_option maxHeartbeats 4000000 in
set_option maxRecDepth 100000 in
theorem sf_X11_street (l : Launch) (g : sv_G) (A : Nat → Prop) (ty : Nat → Nat) (σ : Nat → Nat → Int) (hok : sv_ok ty σ) (hTA : ∀ q, ty q ≠ 0 → A q) (hI : sv_inv sp_1 ty σ) (a : Nat) (k_a : ty a = 10) (ar1 : Int) (h_ar1 : (-2147483648) ≤ ar1 ∧ ar1 ≤ 2147483647) (ar2 : Int) (h_ar2 : (-2147483648) ≤ ar2 ∧ ar2 ≤ 2147483647) (ar3 : Int) (h_ar3 : (-2147483648) ≤ ar3 ∧ ar3 ≤ 2147483647) : sv_M l yX11_street cX11_street 5 (some .int) { frames := 2, cells := 0, slots := 0, locals := 45 } g A ty σ [sv_r a, sv_i ar1, sv_i ar2, sv_i ar3] (fun r σ' => (∃ rv : Int, r = [sv_i rv] ∧ ((-2) ≤ rv ∧ rv ≤ 60)) ∧ sv_inv sp_1 ty σ' ∧ sv_ofx [] [101] ty σ σ') := by
  refine sv_enter (by decide) (Nat.le_of_ble_eq_true rfl) ?_
  intro p e s m args below meth c C hr
  have C : sv_C g A RX11 cX11_street 5 p s m args meth c := C
  have hr : meth.sig.returnType = (some .int) := hr
  have hF : sv_ofx [] [101] ty σ σ := sv_ofx.rf
  refine sv_same (st2 := []) (lv2 := [(0, sv_r a), (1, sv_i ar1), (2, sv_i ar2), (3, sv_i ar3)]) rfl rfl ?_
  refine sv_go C.1 C.2.1 [(.iload_n 1, 1)] (pc' := 1) (by decide +kernel) rfl (lv' := [(0, sv_r a), (1, sv_i ar1), (2, sv_i ar2), (3, sv_i ar3)]) (st' := [sv_i ar1]) rfl ?_
  refine sv_cs C (index := 338) (k := 1) (rest := []) (by decide +kernel) (sf_X11_isCorner l g A ty σ hok hTA hI (ar1) ⟨by omega, by omega⟩) ⟨co_X11_isCorner, in_X11, ⟨by decide, by decide, by decide +kernel⟩, Nat.le_of_ble_eq_true rfl, Nat.le_of_ble_eq_true rfl⟩ ml_X11_338 st_X11_isCorner rfl rfl (Nat.le_of_ble_eq_true rfl) ⟨Nat.zero_le _, Nat.zero_le _⟩ (fun r2 σ3 hpo1 hok4 => ?_)
  obtain ⟨rfl, ⟨vu5, rfl, hvu5, ivu5_0⟩⟩ := hpo1
  refine sv_same (st2 := [sv_i vu5]) (lv2 := [(0, sv_r a), (1, sv_i ar1), (2, sv_i ar2), (3, sv_i ar3)]) rfl rfl ?_
  refine sv_if C.1 C.2.1 (cnd := .eq) (off := 27) (tgt := 31) (by decide +kernel) (by decide) ⟨by omega, by omega⟩ (fun (h6 : vu5 = 0) => ?_) (fun (h6 : ¬ (vu5 = 0)) => ?_)
  · refine sv_go C.1 C.2.1 [(.bipush (-2), 2)] (pc' := 33) (by decide +kernel) rfl (lv' := [(0, sv_r a), (1, sv_i ar1), (2, sv_i ar2), (3, sv_i ar3)]) (st' := [sv_i ((-2))]) rfl ?_
    exact sv_iret C hr (by decide +kernel) hok4 (⟨⟨_, rfl, ⟨by omega, by omega⟩⟩, hI, hF⟩)
  · have hp7 := ivu5_0 (by omega) (by omega)
    refine sv_go C.1 C.2.1 [(.iload_n 2, 1)] (pc' := 8) (by decide +kernel) rfl (lv' := [(0, sv_r a), (1, sv_i ar1), (2, sv_i ar2), (3, sv_i ar3)]) (st' := [sv_i ar2]) rfl ?_
    refine sv_cs C (index := 338) (k := 1) (rest := []) (by decide +kernel) (sf_X11_isCorner l g A ty σ hok4 hTA hI (ar2) ⟨by omega, by omega⟩) ⟨co_X11_isCorner, in_X11, ⟨by decide, by decide, by decide +kernel⟩, Nat.le_of_ble_eq_true rfl, Nat.le_of_ble_eq_true rfl⟩ ml_X11_338 st_X11_isCorner rfl rfl (Nat.le_of_ble_eq_true rfl) ⟨Nat.zero_le _, Nat.zero_le _⟩ (fun r9 σ10 hpo8 hok11 => ?_)
    obtain ⟨rfl, ⟨vu12, rfl, hvu12, ivu12_0⟩⟩ := hpo8
    refine sv_same (st2 := [sv_i vu12]) (lv2 := [(0, sv_r a), (1, sv_i ar1), (2, sv_i ar2), (3, sv_i ar3)]) rfl rfl ?_
    refine sv_if C.1 C.2.1 (cnd := .eq) (off := 20) (tgt := 31) (by decide +kernel) (by decide) ⟨by omega, by omega⟩ (fun (h13 : vu12 = 0) => ?_) (fun (h13 : ¬ (vu12 = 0)) => ?_)
    · refine sv_go C.1 C.2.1 [(.bipush (-2), 2)] (pc' := 33) (by decide +kernel) rfl (lv' := [(0, sv_r a), (1, sv_i ar1), (2, sv_i ar2), (3, sv_i ar3)]) (st' := [sv_i ((-2))]) rfl ?_
      exact sv_iret C hr (by decide +kernel) hok11 (⟨⟨_, rfl, ⟨by omega, by omega⟩⟩, hI, hF⟩)
    · have hp14 := ivu12_0 (by omega) (by omega)
      refine sv_go C.1 C.2.1 [(.iload_n 1, 1), (.iload_n 2, 1)] (pc' := 16) (by decide +kernel) rfl (lv' := [(0, sv_r a), (1, sv_i ar1), (2, sv_i ar2), (3, sv_i ar3)]) (st' := [sv_i ar2, sv_i ar1]) rfl ?_
      refine sv_icmp C.1 C.2.1 (cnd := .eq) (off := 15) (tgt := 31) (by decide +kernel) (by decide) ⟨by omega, by omega⟩ ⟨by omega, by omega⟩ (fun (h15 : ar1 = ar2) => ?_) (fun (h15 : ¬ (ar1 = ar2)) => ?_)
      · refine sv_go C.1 C.2.1 [(.bipush (-2), 2)] (pc' := 33) (by decide +kernel) rfl (lv' := [(0, sv_r a), (1, sv_i ar1), (2, sv_i ar2), (3, sv_i ar3)]) (st' := [sv_i ((-2))]) rfl ?_
        exact sv_iret C hr (by decide +kernel) hok11 (⟨⟨_, rfl, ⟨by omega, by omega⟩⟩, hI, hF⟩)
      · refine sv_go C.1 C.2.1 [(.iload_n 3, 1)] (pc' := 20) (by decide +kernel) rfl (lv' := [(0, sv_r a), (1, sv_i ar1), (2, sv_i ar2), (3, sv_i ar3)]) (st' := [sv_i ar3]) rfl ?_
        refine sv_i2l C.1 C.2.1 (by decide +kernel) ⟨by omega, by omega⟩ ?_
        refine sv_go C.1 C.2.1 [(.lconst 0, 1)] (pc' := 22) (by decide +kernel) rfl (lv' := [(0, sv_r a), (1, sv_i ar1), (2, sv_i ar2), (3, sv_i ar3)]) (st' := [sv_l 0, sv_l ar3]) rfl ?_
        refine sv_ldc2 C (index := 341) (z := 60) (by decide +kernel) cl_X11_341 (by decide) ?_
        refine sv_cs C (index := 9) (k := 3) (rest := []) (by decide +kernel) (ct_X11_in l g A ty σ hok11 (ar3) ⟨by omega, by omega⟩ (0) ⟨by omega, by omega⟩ (60) ⟨by omega, by omega⟩) ⟨co_X11_in, in_X11, ⟨by decide, by decide, by decide +kernel⟩, Nat.le_of_ble_eq_true rfl, Nat.le_of_ble_eq_true rfl⟩ ml_X11_9 st_X11_in rfl rfl (Nat.le_of_ble_eq_true rfl) ⟨Nat.zero_le _, Nat.zero_le _⟩ (fun r17 σ18 hpo16 hok19 => ?_)
        obtain ⟨rfl, ⟨h20, rfl⟩ | ⟨h20, rfl⟩⟩ := hpo16
        · refine sv_same (st2 := [sv_i 1]) (lv2 := [(0, sv_r a), (1, sv_i ar1), (2, sv_i ar2), (3, sv_i ar3)]) rfl rfl ?_
          refine sv_if_t C.1 C.2.1 (cnd := .ne) (off := 6) (tgt := 34) (by decide +kernel) (by decide) ⟨by omega, by omega⟩ (show 1 ≠ 0 by omega) ?_
          refine sv_go C.1 C.2.1 [(.aload_n 0, 1)] (pc' := 35) (by decide +kernel) rfl (lv' := [(0, sv_r a), (1, sv_i ar1), (2, sv_i ar2), (3, sv_i ar3)]) (st' := [sv_r a]) rfl ?_
          obtain ⟨v21, ev21, kv21⟩ := hI.ref (k := 41) k_a rfl
          refine sv_gf C (index := 148) (ci := 10) (k := 41) (r := (RX11, TX11, 47)) (v := sv_r v21) (by decide +kernel) (by rw [k_a]; rfl) rfl (by decide) fl_X11_148 (congrArg sv_a ev21) ?_
          refine sv_go C.1 C.2.1 [(.bipush 20, 2), (.iload_n 1, 1), (.imul, 1), (.iload_n 2, 1), (.iadd, 1)] (pc' := 44) (by decide +kernel) rfl (lv' := [(0, sv_r a), (1, sv_i ar1), (2, sv_i ar2), (3, sv_i ar3)]) (st' := [sv_i ((20 * ar1) + ar2), sv_r v21]) rfl ?_
          refine sv_ia C (n := 400) (by decide +kernel) (by rw [kv21]; rfl) (by decide) (by omega) (by omega) ?_
          obtain ⟨v22, ev22, hv22⟩ := sv_rdn hI (k := ((20 * ar1) + ar2 : Int).toNat) kv21 rfl
          rw [ev22]
          refine sv_go C.1 C.2.1 [(.istore 4, 2), (.aload_n 0, 1)] (pc' := 48) (by decide +kernel) rfl (lv' := [(0, sv_r a), (1, sv_i ar1), (2, sv_i ar2), (3, sv_i ar3), (4, sv_i v22)]) (st' := [sv_r a]) rfl ?_
          refine sv_gf C (index := 148) (ci := 10) (k := 41) (r := (RX11, TX11, 47)) (v := sv_r v21) (by decide +kernel) (by rw [k_a]; rfl) rfl (by decide) fl_X11_148 (congrArg sv_a ev21) ?_
          refine sv_go C.1 C.2.1 [(.bipush 20, 2), (.iload_n 1, 1), (.imul, 1), (.iload_n 2, 1), (.iadd, 1), (.iload_n 3, 1)] (pc' := 58) (by decide +kernel) rfl (lv' := [(0, sv_r a), (1, sv_i ar1), (2, sv_i ar2), (3, sv_i ar3), (4, sv_i v22)]) (st' := [sv_i ar3, sv_i ((20 * ar1) + ar2), sv_r v21]) rfl ?_
          refine sv_is C (n := 400) (by decide +kernel) (by rw [kv21]; rfl) (by decide) (by omega) (by omega) ⟨by omega, by omega⟩ (hTA _ (by rw [kv21]; decide)) hok19 (fun hok23 => ?_)
          have hI25 := hI.up (a := v21) (k := ((20 * ar1) + ar2 : Int).toNat) (z := ar3) (by rw [kv21]; exact ⟨by omega, by omega⟩)
          have hF26 := hF.up (a := v21) (k := ((20 * ar1) + ar2 : Int).toNat) (z := ar3) (Or.inl (by rw [kv21]; decide))
          generalize eσ24 : sv_up σ v21 ((20 * ar1) + ar2 : Int).toNat ar3 = σ24 at hok23 hI25 hF26 ⊢
          have t27 : σ24 a 41 = (v21 : Int) + 1 := by rw [← eσ24, sv_up_a (sv_ne k_a kv21 (by decide))]; exact ev21
          have t29 : σ24 v21 ((20 * ar1) + ar2 : Int).toNat = ar3 := by rw [← eσ24]; exact sv_up_s _ _ _ _
          refine sv_go C.1 C.2.1 [(.aload_n 0, 1)] (pc' := 60) (by decide +kernel) rfl (lv' := [(0, sv_r a), (1, sv_i ar1), (2, sv_i ar2), (3, sv_i ar3), (4, sv_i v22)]) (st' := [sv_r a]) rfl ?_
          refine sv_gf C (index := 148) (ci := 10) (k := 41) (r := (RX11, TX11, 47)) (v := sv_r v21) (by decide +kernel) (by rw [k_a]; rfl) rfl (by decide) fl_X11_148 (congrArg sv_a t27) ?_
          refine sv_go C.1 C.2.1 [(.bipush 20, 2), (.iload_n 2, 1), (.imul, 1), (.iload_n 1, 1), (.iadd, 1), (.iload_n 3, 1)] (pc' := 70) (by decide +kernel) rfl (lv' := [(0, sv_r a), (1, sv_i ar1), (2, sv_i ar2), (3, sv_i ar3), (4, sv_i v22)]) (st' := [sv_i ar3, sv_i ((20 * ar2) + ar1), sv_r v21]) rfl ?_
          refine sv_is C (n := 400) (by decide +kernel) (by rw [kv21]; rfl) (by decide) (by omega) (by omega) ⟨by omega, by omega⟩ (hTA _ (by rw [kv21]; decide)) hok23 (fun hok30 => ?_)
          have hI32 := hI25.up (a := v21) (k := ((20 * ar2) + ar1 : Int).toNat) (z := ar3) (by rw [kv21]; exact ⟨by omega, by omega⟩)
          have hF33 := hF26.up (a := v21) (k := ((20 * ar2) + ar1 : Int).toNat) (z := ar3) (Or.inl (by rw [kv21]; decide))
          generalize eσ31 : sv_up σ24 v21 ((20 * ar2) + ar1 : Int).toNat ar3 = σ31 at hok30 hI32 hF33 ⊢
          have t34 : σ31 a 41 = (v21 : Int) + 1 := by rw [← eσ31, sv_up_a (sv_ne k_a kv21 (by decide))]; exact t27
          have t36 : σ31 v21 ((20 * ar2) + ar1 : Int).toNat = ar3 := by rw [← eσ31]; exact sv_up_s _ _ _ _
          refine sv_go C.1 C.2.1 [(.iload 4, 2)] (pc' := 73) (by decide +kernel) rfl (lv' := [(0, sv_r a), (1, sv_i ar1), (2, sv_i ar2), (3, sv_i ar3), (4, sv_i v22)]) (st' := [sv_i v22]) rfl ?_
          exact sv_iret C hr (by decide +kernel) hok30 (⟨⟨_, rfl, ⟨by omega, by omega⟩⟩, hI32, hF33⟩)
        · refine sv_same (st2 := [sv_i 0]) (lv2 := [(0, sv_r a), (1, sv_i ar1), (2, sv_i ar2), (3, sv_i ar3)]) rfl rfl ?_
          refine sv_if_f C.1 C.2.1 (cnd := .ne) (off := 6) (tgt := 34) (by decide +kernel) (by decide) ⟨by omega, by omega⟩ (show ¬ (0 ≠ 0) by omega) ?_
          refine sv_go C.1 C.2.1 [(.bipush (-2), 2)] (pc' := 33) (by decide +kernel) rfl (lv' := [(0, sv_r a), (1, sv_i ar1), (2, sv_i ar2), (3, sv_i ar3)]) (st' := [sv_i ((-2))]) rfl ?_
          exact sv_iret C hr (by decide +kernel) hok19 (⟨⟨_, rfl, ⟨by omega, by omega⟩⟩, hI, hF⟩)

theorem ml_X11_345 : Cond.methodLink RX11 345 yX11_isWalk ∈ lw_good := sv_mem 1458 (by decide +kernel) rfl
theorem co_X11_isWalk : Cond.code yX11_isWalk cX11_isWalk 1 (some .boolean) ∈ lw_good := sv_mem 1460 (by decide +kernel) rfl
theorem st_X11_isWalk : Cond.static yX11_isWalk ∈ lw_good := sv_mem 1459 (by decide +kernel) rfl
theorem cl_X11_348 : Cond.constantLong RX11 348 (1440) ∈ lw_good := sv_mem 1462 (by decide +kernel) rfl
theorem cl_X11_350 : Cond.constantLong RX11 350 (30) ∈ lw_good := sv_mem 1463 (by decide +kernel) rfl
theorem fl_X11_151 : Cond.fieldLink RX11 151 "SaintsRoadModel" "stops" "[I" ∈ lw_good := sv_mem 1146 (by decide +kernel) rfl
theorem fl_X11_154 : Cond.fieldLink RX11 154 "SaintsRoadModel" "start" "[I" ∈ lw_good := sv_mem 1147 (by decide +kernel) rfl
theorem fl_X11_157 : Cond.fieldLink RX11 157 "SaintsRoadModel" "tail" "[I" ∈ lw_good := sv_mem 1148 (by decide +kernel) rfl
theorem fl_X11_160 : Cond.fieldLink RX11 160 "SaintsRoadModel" "corner" "[I" ∈ lw_good := sv_mem 1149 (by decide +kernel) rfl
theorem fl_X11_163 : Cond.fieldLink RX11 163 "SaintsRoadModel" "after" "[I" ∈ lw_good := sv_mem 1150 (by decide +kernel) rfl
set_option maxHeartbeats 4000000 in
set_option maxRecDepth 100000 in
theorem sf_X11_begin (l : Launch) (g : sv_G) (A : Nat → Prop) (ty : Nat → Nat) (σ : Nat → Nat → Int) (hok : sv_ok ty σ) (hTA : ∀ q, ty q ≠ 0 → A q) (hI : sv_inv sp_1 ty σ) (a : Nat) (k_a : ty a = 10) (ar1 : Int) (h_ar1 : (-2147483648) ≤ ar1 ∧ ar1 ≤ 2147483647) (ar2 : Int) (h_ar2 : (-2147483648) ≤ ar2 ∧ ar2 ≤ 2147483647) (ar3 : Int) (h_ar3 : (-2147483648) ≤ ar3 ∧ ar3 ≤ 2147483647) (ar4 : Int) (h_ar4 : (-2147483648) ≤ ar4 ∧ ar4 ≤ 2147483647) : sv_M l yX11_begin cX11_begin 5 (some .int) { frames := 2, cells := 0, slots := 0, locals := 45 } g A ty σ [sv_r a, sv_i ar1, sv_i ar2, sv_i ar3, sv_i ar4] (fun r σ' => (∃ rv : Int, r = [sv_i rv] ∧ ((-2) ≤ rv ∧ rv ≤ 1)) ∧ sv_inv sp_1 ty σ' ∧ sv_ofx [] [102, 103, 104, 105, 106] ty σ σ') := by
  refine sv_enter (by decide) (Nat.le_of_ble_eq_true rfl) ?_
  intro p e s m args below meth c C hr
  have C : sv_C g A RX11 cX11_begin 5 p s m args meth c := C
  have hr : meth.sig.returnType = (some .int) := hr
  have hF : sv_ofx [] [102, 103, 104, 105, 106] ty σ σ := sv_ofx.rf
  refine sv_same (st2 := []) (lv2 := [(0, sv_r a), (1, sv_i ar1), (2, sv_i ar2), (3, sv_i ar3), (4, sv_i ar4)]) rfl rfl ?_
  refine sv_go C.1 C.2.1 [(.iload_n 1, 1)] (pc' := 1) (by decide +kernel) rfl (lv' := [(0, sv_r a), (1, sv_i ar1), (2, sv_i ar2), (3, sv_i ar3), (4, sv_i ar4)]) (st' := [sv_i ar1]) rfl ?_
  refine sv_cs C (index := 345) (k := 1) (rest := []) (by decide +kernel) (sf_X11_isWalk l g A ty σ hok hTA hI (ar1) ⟨by omega, by omega⟩) ⟨co_X11_isWalk, in_X11, ⟨by decide, by decide, by decide +kernel⟩, Nat.le_of_ble_eq_true rfl, Nat.le_of_ble_eq_true rfl⟩ ml_X11_345 st_X11_isWalk rfl rfl (Nat.le_of_ble_eq_true rfl) ⟨Nat.zero_le _, Nat.zero_le _⟩ (fun r2 σ3 hpo1 hok4 => ?_)
  obtain ⟨rfl, ⟨vu5, rfl, hvu5, ivu5_0⟩⟩ := hpo1
  refine sv_same (st2 := [sv_i vu5]) (lv2 := [(0, sv_r a), (1, sv_i ar1), (2, sv_i ar2), (3, sv_i ar3), (4, sv_i ar4)]) rfl rfl ?_
  refine sv_if C.1 C.2.1 (cnd := .eq) (off := 35) (tgt := 39) (by decide +kernel) (by decide) ⟨by omega, by omega⟩ (fun (h6 : vu5 = 0) => ?_) (fun (h6 : ¬ (vu5 = 0)) => ?_)
  · refine sv_go C.1 C.2.1 [(.bipush (-2), 2)] (pc' := 41) (by decide +kernel) rfl (lv' := [(0, sv_r a), (1, sv_i ar1), (2, sv_i ar2), (3, sv_i ar3), (4, sv_i ar4)]) (st' := [sv_i ((-2))]) rfl ?_
    exact sv_iret C hr (by decide +kernel) hok4 (⟨⟨_, rfl, ⟨by omega, by omega⟩⟩, hI, hF⟩)
  · have hp7 := ivu5_0 (by omega) (by omega)
    refine sv_go C.1 C.2.1 [(.iload_n 2, 1)] (pc' := 8) (by decide +kernel) rfl (lv' := [(0, sv_r a), (1, sv_i ar1), (2, sv_i ar2), (3, sv_i ar3), (4, sv_i ar4)]) (st' := [sv_i ar2]) rfl ?_
    refine sv_cs C (index := 338) (k := 1) (rest := []) (by decide +kernel) (sf_X11_isCorner l g A ty σ hok4 hTA hI (ar2) ⟨by omega, by omega⟩) ⟨co_X11_isCorner, in_X11, ⟨by decide, by decide, by decide +kernel⟩, Nat.le_of_ble_eq_true rfl, Nat.le_of_ble_eq_true rfl⟩ ml_X11_338 st_X11_isCorner rfl rfl (Nat.le_of_ble_eq_true rfl) ⟨Nat.zero_le _, Nat.zero_le _⟩ (fun r9 σ10 hpo8 hok11 => ?_)
    obtain ⟨rfl, ⟨vu12, rfl, hvu12, ivu12_0⟩⟩ := hpo8
    refine sv_same (st2 := [sv_i vu12]) (lv2 := [(0, sv_r a), (1, sv_i ar1), (2, sv_i ar2), (3, sv_i ar3), (4, sv_i ar4)]) rfl rfl ?_
    refine sv_if C.1 C.2.1 (cnd := .eq) (off := 28) (tgt := 39) (by decide +kernel) (by decide) ⟨by omega, by omega⟩ (fun (h13 : vu12 = 0) => ?_) (fun (h13 : ¬ (vu12 = 0)) => ?_)
    · refine sv_go C.1 C.2.1 [(.bipush (-2), 2)] (pc' := 41) (by decide +kernel) rfl (lv' := [(0, sv_r a), (1, sv_i ar1), (2, sv_i ar2), (3, sv_i ar3), (4, sv_i ar4)]) (st' := [sv_i ((-2))]) rfl ?_
      exact sv_iret C hr (by decide +kernel) hok11 (⟨⟨_, rfl, ⟨by omega, by omega⟩⟩, hI, hF⟩)
    · have hp14 := ivu12_0 (by omega) (by omega)
      refine sv_go C.1 C.2.1 [(.iload_n 3, 1)] (pc' := 15) (by decide +kernel) rfl (lv' := [(0, sv_r a), (1, sv_i ar1), (2, sv_i ar2), (3, sv_i ar3), (4, sv_i ar4)]) (st' := [sv_i ar3]) rfl ?_
      refine sv_i2l C.1 C.2.1 (by decide +kernel) ⟨by omega, by omega⟩ ?_
      refine sv_go C.1 C.2.1 [(.lconst 0, 1)] (pc' := 17) (by decide +kernel) rfl (lv' := [(0, sv_r a), (1, sv_i ar1), (2, sv_i ar2), (3, sv_i ar3), (4, sv_i ar4)]) (st' := [sv_l 0, sv_l ar3]) rfl ?_
      refine sv_ldc2 C (index := 348) (z := 1440) (by decide +kernel) cl_X11_348 (by decide) ?_
      refine sv_cs C (index := 9) (k := 3) (rest := []) (by decide +kernel) (ct_X11_in l g A ty σ hok11 (ar3) ⟨by omega, by omega⟩ (0) ⟨by omega, by omega⟩ (1440) ⟨by omega, by omega⟩) ⟨co_X11_in, in_X11, ⟨by decide, by decide, by decide +kernel⟩, Nat.le_of_ble_eq_true rfl, Nat.le_of_ble_eq_true rfl⟩ ml_X11_9 st_X11_in rfl rfl (Nat.le_of_ble_eq_true rfl) ⟨Nat.zero_le _, Nat.zero_le _⟩ (fun r16 σ17 hpo15 hok18 => ?_)
      obtain ⟨rfl, ⟨h19, rfl⟩ | ⟨h19, rfl⟩⟩ := hpo15
      · refine sv_same (st2 := [sv_i 1]) (lv2 := [(0, sv_r a), (1, sv_i ar1), (2, sv_i ar2), (3, sv_i ar3), (4, sv_i ar4)]) rfl rfl ?_
        refine sv_if_f C.1 C.2.1 (cnd := .eq) (off := 16) (tgt := 39) (by decide +kernel) (by decide) ⟨by omega, by omega⟩ (show ¬ (1 = 0) by omega) ?_
        refine sv_go C.1 C.2.1 [(.iload 4, 2)] (pc' := 28) (by decide +kernel) rfl (lv' := [(0, sv_r a), (1, sv_i ar1), (2, sv_i ar2), (3, sv_i ar3), (4, sv_i ar4)]) (st' := [sv_i ar4]) rfl ?_
        refine sv_i2l C.1 C.2.1 (by decide +kernel) ⟨by omega, by omega⟩ ?_
        refine sv_go C.1 C.2.1 [(.lconst 0, 1)] (pc' := 30) (by decide +kernel) rfl (lv' := [(0, sv_r a), (1, sv_i ar1), (2, sv_i ar2), (3, sv_i ar3), (4, sv_i ar4)]) (st' := [sv_l 0, sv_l ar4]) rfl ?_
        refine sv_ldc2 C (index := 350) (z := 30) (by decide +kernel) cl_X11_350 (by decide) ?_
        refine sv_cs C (index := 9) (k := 3) (rest := []) (by decide +kernel) (ct_X11_in l g A ty σ hok18 (ar4) ⟨by omega, by omega⟩ (0) ⟨by omega, by omega⟩ (30) ⟨by omega, by omega⟩) ⟨co_X11_in, in_X11, ⟨by decide, by decide, by decide +kernel⟩, Nat.le_of_ble_eq_true rfl, Nat.le_of_ble_eq_true rfl⟩ ml_X11_9 st_X11_in rfl rfl (Nat.le_of_ble_eq_true rfl) ⟨Nat.zero_le _, Nat.zero_le _⟩ (fun r21 σ22 hpo20 hok23 => ?_)
        obtain ⟨rfl, ⟨h24, rfl⟩ | ⟨h24, rfl⟩⟩ := hpo20
        · refine sv_same (st2 := [sv_i 1]) (lv2 := [(0, sv_r a), (1, sv_i ar1), (2, sv_i ar2), (3, sv_i ar3), (4, sv_i ar4)]) rfl rfl ?_
          refine sv_if_t C.1 C.2.1 (cnd := .ne) (off := 6) (tgt := 42) (by decide +kernel) (by decide) ⟨by omega, by omega⟩ (show 1 ≠ 0 by omega) ?_
          refine sv_go C.1 C.2.1 [(.aload_n 0, 1)] (pc' := 43) (by decide +kernel) rfl (lv' := [(0, sv_r a), (1, sv_i ar1), (2, sv_i ar2), (3, sv_i ar3), (4, sv_i ar4)]) (st' := [sv_r a]) rfl ?_
          obtain ⟨v25, ev25, kv25⟩ := hI.ref (k := 42) k_a rfl
          refine sv_gf C (index := 151) (ci := 10) (k := 42) (r := (RX11, TX11, 47)) (v := sv_r v25) (by decide +kernel) (by rw [k_a]; rfl) rfl (by decide) fl_X11_151 (congrArg sv_a ev25) ?_
          refine sv_go C.1 C.2.1 [(.iload_n 1, 1), (.iconst 1, 1)] (pc' := 48) (by decide +kernel) rfl (lv' := [(0, sv_r a), (1, sv_i ar1), (2, sv_i ar2), (3, sv_i ar3), (4, sv_i ar4)]) (st' := [sv_i 1, sv_i ar1, sv_r v25]) rfl ?_
          refine sv_is C (n := 12) (by decide +kernel) (by rw [kv25]; rfl) (by decide) (by omega) (by omega) ⟨by omega, by omega⟩ (hTA _ (by rw [kv25]; decide)) hok23 (fun hok26 => ?_)
          have hI28 := hI.up (a := v25) (k := (ar1 : Int).toNat) (z := 1) (by rw [kv25]; exact ⟨by omega, by omega⟩)
          have hF29 := hF.up (a := v25) (k := (ar1 : Int).toNat) (z := 1) (Or.inl (by rw [kv25]; decide))
          generalize eσ27 : sv_up σ v25 (ar1 : Int).toNat 1 = σ27 at hok26 hI28 hF29 ⊢
          have t30 : σ27 a 42 = (v25 : Int) + 1 := by rw [← eσ27, sv_up_a (sv_ne k_a kv25 (by decide))]; exact ev25
          have t31 : σ27 v25 (ar1 : Int).toNat = 1 := by rw [← eσ27]; exact sv_up_s _ _ _ _
          refine sv_go C.1 C.2.1 [(.aload_n 0, 1)] (pc' := 50) (by decide +kernel) rfl (lv' := [(0, sv_r a), (1, sv_i ar1), (2, sv_i ar2), (3, sv_i ar3), (4, sv_i ar4)]) (st' := [sv_r a]) rfl ?_
          obtain ⟨v32, ev32, kv32⟩ := hI28.ref (k := 43) k_a rfl
          refine sv_gf C (index := 154) (ci := 10) (k := 43) (r := (RX11, TX11, 47)) (v := sv_r v32) (by decide +kernel) (by rw [k_a]; rfl) rfl (by decide) fl_X11_154 (congrArg sv_a ev32) ?_
          refine sv_go C.1 C.2.1 [(.iload_n 1, 1), (.iload_n 3, 1)] (pc' := 55) (by decide +kernel) rfl (lv' := [(0, sv_r a), (1, sv_i ar1), (2, sv_i ar2), (3, sv_i ar3), (4, sv_i ar4)]) (st' := [sv_i ar3, sv_i ar1, sv_r v32]) rfl ?_
          refine sv_is C (n := 12) (by decide +kernel) (by rw [kv32]; rfl) (by decide) (by omega) (by omega) ⟨by omega, by omega⟩ (hTA _ (by rw [kv32]; decide)) hok26 (fun hok33 => ?_)
          have hI35 := hI28.up (a := v32) (k := (ar1 : Int).toNat) (z := ar3) (by rw [kv32]; exact ⟨by omega, by omega⟩)
          have hF36 := hF29.up (a := v32) (k := (ar1 : Int).toNat) (z := ar3) (Or.inl (by rw [kv32]; decide))
          generalize eσ34 : sv_up σ27 v32 (ar1 : Int).toNat ar3 = σ34 at hok33 hI35 hF36 ⊢
          have t37 : σ34 a 42 = (v25 : Int) + 1 := by rw [← eσ34, sv_up_a (sv_ne k_a kv32 (by decide))]; exact t30
          have t38 : σ34 v25 (ar1 : Int).toNat = 1 := by rw [← eσ34, sv_up_a (sv_ne kv25 kv32 (by decide))]; exact t31
          have t39 : σ34 a 43 = (v32 : Int) + 1 := by rw [← eσ34, sv_up_a (sv_ne k_a kv32 (by decide))]; exact ev32
          have t40 : σ34 v32 (ar1 : Int).toNat = ar3 := by rw [← eσ34]; exact sv_up_s _ _ _ _
          refine sv_go C.1 C.2.1 [(.aload_n 0, 1)] (pc' := 57) (by decide +kernel) rfl (lv' := [(0, sv_r a), (1, sv_i ar1), (2, sv_i ar2), (3, sv_i ar3), (4, sv_i ar4)]) (st' := [sv_r a]) rfl ?_
          obtain ⟨v41, ev41, kv41⟩ := hI35.ref (k := 44) k_a rfl
          refine sv_gf C (index := 157) (ci := 10) (k := 44) (r := (RX11, TX11, 47)) (v := sv_r v41) (by decide +kernel) (by rw [k_a]; rfl) rfl (by decide) fl_X11_157 (congrArg sv_a ev41) ?_
          refine sv_go C.1 C.2.1 [(.iload_n 1, 1), (.iload 4, 2)] (pc' := 63) (by decide +kernel) rfl (lv' := [(0, sv_r a), (1, sv_i ar1), (2, sv_i ar2), (3, sv_i ar3), (4, sv_i ar4)]) (st' := [sv_i ar4, sv_i ar1, sv_r v41]) rfl ?_
          refine sv_is C (n := 12) (by decide +kernel) (by rw [kv41]; rfl) (by decide) (by omega) (by omega) ⟨by omega, by omega⟩ (hTA _ (by rw [kv41]; decide)) hok33 (fun hok42 => ?_)
          have hI44 := hI35.up (a := v41) (k := (ar1 : Int).toNat) (z := ar4) (by rw [kv41]; exact ⟨by omega, by omega⟩)
          have hF45 := hF36.up (a := v41) (k := (ar1 : Int).toNat) (z := ar4) (Or.inl (by rw [kv41]; decide))
          generalize eσ43 : sv_up σ34 v41 (ar1 : Int).toNat ar4 = σ43 at hok42 hI44 hF45 ⊢
          have t46 : σ43 a 42 = (v25 : Int) + 1 := by rw [← eσ43, sv_up_a (sv_ne k_a kv41 (by decide))]; exact t37
          have t47 : σ43 v25 (ar1 : Int).toNat = 1 := by rw [← eσ43, sv_up_a (sv_ne kv25 kv41 (by decide))]; exact t38
          have t48 : σ43 a 43 = (v32 : Int) + 1 := by rw [← eσ43, sv_up_a (sv_ne k_a kv41 (by decide))]; exact t39
          have t49 : σ43 v32 (ar1 : Int).toNat = ar3 := by rw [← eσ43, sv_up_a (sv_ne kv32 kv41 (by decide))]; exact t40
          have t50 : σ43 a 44 = (v41 : Int) + 1 := by rw [← eσ43, sv_up_a (sv_ne k_a kv41 (by decide))]; exact ev41
          have t51 : σ43 v41 (ar1 : Int).toNat = ar4 := by rw [← eσ43]; exact sv_up_s _ _ _ _
          refine sv_go C.1 C.2.1 [(.aload_n 0, 1)] (pc' := 65) (by decide +kernel) rfl (lv' := [(0, sv_r a), (1, sv_i ar1), (2, sv_i ar2), (3, sv_i ar3), (4, sv_i ar4)]) (st' := [sv_r a]) rfl ?_
          obtain ⟨v52, ev52, kv52⟩ := hI44.ref (k := 45) k_a rfl
          refine sv_gf C (index := 160) (ci := 10) (k := 45) (r := (RX11, TX11, 47)) (v := sv_r v52) (by decide +kernel) (by rw [k_a]; rfl) rfl (by decide) fl_X11_160 (congrArg sv_a ev52) ?_
          refine sv_go C.1 C.2.1 [(.bipush 12, 2), (.iload_n 1, 1), (.imul, 1), (.iload_n 2, 1)] (pc' := 73) (by decide +kernel) rfl (lv' := [(0, sv_r a), (1, sv_i ar1), (2, sv_i ar2), (3, sv_i ar3), (4, sv_i ar4)]) (st' := [sv_i ar2, sv_i (12 * ar1), sv_r v52]) rfl ?_
          refine sv_is C (n := 144) (by decide +kernel) (by rw [kv52]; rfl) (by decide) (by omega) (by omega) ⟨by omega, by omega⟩ (hTA _ (by rw [kv52]; decide)) hok42 (fun hok53 => ?_)
          have hI55 := hI44.up (a := v52) (k := (12 * ar1 : Int).toNat) (z := ar2) (by rw [kv52]; exact ⟨by omega, by omega⟩)
          have hF56 := hF45.up (a := v52) (k := (12 * ar1 : Int).toNat) (z := ar2) (Or.inl (by rw [kv52]; decide))
          generalize eσ54 : sv_up σ43 v52 (12 * ar1 : Int).toNat ar2 = σ54 at hok53 hI55 hF56 ⊢
          have t57 : σ54 a 42 = (v25 : Int) + 1 := by rw [← eσ54, sv_up_a (sv_ne k_a kv52 (by decide))]; exact t46
          have t58 : σ54 v25 (ar1 : Int).toNat = 1 := by rw [← eσ54, sv_up_a (sv_ne kv25 kv52 (by decide))]; exact t47
          have t59 : σ54 a 43 = (v32 : Int) + 1 := by rw [← eσ54, sv_up_a (sv_ne k_a kv52 (by decide))]; exact t48
          have t60 : σ54 v32 (ar1 : Int).toNat = ar3 := by rw [← eσ54, sv_up_a (sv_ne kv32 kv52 (by decide))]; exact t49
          have t61 : σ54 a 44 = (v41 : Int) + 1 := by rw [← eσ54, sv_up_a (sv_ne k_a kv52 (by decide))]; exact t50
          have t62 : σ54 v41 (ar1 : Int).toNat = ar4 := by rw [← eσ54, sv_up_a (sv_ne kv41 kv52 (by decide))]; exact t51
          have t63 : σ54 a 45 = (v52 : Int) + 1 := by rw [← eσ54, sv_up_a (sv_ne k_a kv52 (by decide))]; exact ev52
          have t64 : σ54 v52 (12 * ar1 : Int).toNat = ar2 := by rw [← eσ54]; exact sv_up_s _ _ _ _
          refine sv_go C.1 C.2.1 [(.aload_n 0, 1)] (pc' := 75) (by decide +kernel) rfl (lv' := [(0, sv_r a), (1, sv_i ar1), (2, sv_i ar2), (3, sv_i ar3), (4, sv_i ar4)]) (st' := [sv_r a]) rfl ?_
          obtain ⟨v65, ev65, kv65⟩ := hI55.ref (k := 46) k_a rfl
          refine sv_gf C (index := 163) (ci := 10) (k := 46) (r := (RX11, TX11, 47)) (v := sv_r v65) (by decide +kernel) (by rw [k_a]; rfl) rfl (by decide) fl_X11_163 (congrArg sv_a ev65) ?_
          refine sv_go C.1 C.2.1 [(.bipush 12, 2), (.iload_n 1, 1), (.imul, 1), (.iconst 0, 1)] (pc' := 83) (by decide +kernel) rfl (lv' := [(0, sv_r a), (1, sv_i ar1), (2, sv_i ar2), (3, sv_i ar3), (4, sv_i ar4)]) (st' := [sv_i 0, sv_i (12 * ar1), sv_r v65]) rfl ?_
          refine sv_is C (n := 144) (by decide +kernel) (by rw [kv65]; rfl) (by decide) (by omega) (by omega) ⟨by omega, by omega⟩ (hTA _ (by rw [kv65]; decide)) hok53 (fun hok66 => ?_)
          have hI68 := hI55.up (a := v65) (k := (12 * ar1 : Int).toNat) (z := 0) (by rw [kv65]; exact trivial)
          have hF69 := hF56.up (a := v65) (k := (12 * ar1 : Int).toNat) (z := 0) (Or.inl (by rw [kv65]; decide))
          generalize eσ67 : sv_up σ54 v65 (12 * ar1 : Int).toNat 0 = σ67 at hok66 hI68 hF69 ⊢
          have t70 : σ67 a 42 = (v25 : Int) + 1 := by rw [← eσ67, sv_up_a (sv_ne k_a kv65 (by decide))]; exact t57
          have t71 : σ67 v25 (ar1 : Int).toNat = 1 := by rw [← eσ67, sv_up_a (sv_ne kv25 kv65 (by decide))]; exact t58
          have t72 : σ67 a 43 = (v32 : Int) + 1 := by rw [← eσ67, sv_up_a (sv_ne k_a kv65 (by decide))]; exact t59
          have t73 : σ67 v32 (ar1 : Int).toNat = ar3 := by rw [← eσ67, sv_up_a (sv_ne kv32 kv65 (by decide))]; exact t60
          have t74 : σ67 a 44 = (v41 : Int) + 1 := by rw [← eσ67, sv_up_a (sv_ne k_a kv65 (by decide))]; exact t61
          have t75 : σ67 v41 (ar1 : Int).toNat = ar4 := by rw [← eσ67, sv_up_a (sv_ne kv41 kv65 (by decide))]; exact t62
          have t76 : σ67 a 45 = (v52 : Int) + 1 := by rw [← eσ67, sv_up_a (sv_ne k_a kv65 (by decide))]; exact t63
          have t77 : σ67 v52 (12 * ar1 : Int).toNat = ar2 := by rw [← eσ67, sv_up_a (sv_ne kv52 kv65 (by decide))]; exact t64
          have t78 : σ67 a 46 = (v65 : Int) + 1 := by rw [← eσ67, sv_up_a (sv_ne k_a kv65 (by decide))]; exact ev65
          have t79 : σ67 v65 (12 * ar1 : Int).toNat = 0 := by rw [← eσ67]; exact sv_up_s _ _ _ _
          refine sv_go C.1 C.2.1 [(.iconst 1, 1)] (pc' := 85) (by decide +kernel) rfl (lv' := [(0, sv_r a), (1, sv_i ar1), (2, sv_i ar2), (3, sv_i ar3), (4, sv_i ar4)]) (st' := [sv_i 1]) rfl ?_
          exact sv_iret C hr (by decide +kernel) hok66 (⟨⟨_, rfl, ⟨by omega, by omega⟩⟩, hI68, hF69⟩)
        · refine sv_same (st2 := [sv_i 0]) (lv2 := [(0, sv_r a), (1, sv_i ar1), (2, sv_i ar2), (3, sv_i ar3), (4, sv_i ar4)]) rfl rfl ?_
          refine sv_if_f C.1 C.2.1 (cnd := .ne) (off := 6) (tgt := 42) (by decide +kernel) (by decide) ⟨by omega, by omega⟩ (show ¬ (0 ≠ 0) by omega) ?_
          refine sv_go C.1 C.2.1 [(.bipush (-2), 2)] (pc' := 41) (by decide +kernel) rfl (lv' := [(0, sv_r a), (1, sv_i ar1), (2, sv_i ar2), (3, sv_i ar3), (4, sv_i ar4)]) (st' := [sv_i ((-2))]) rfl ?_
          exact sv_iret C hr (by decide +kernel) hok23 (⟨⟨_, rfl, ⟨by omega, by omega⟩⟩, hI, hF⟩)
      · refine sv_same (st2 := [sv_i 0]) (lv2 := [(0, sv_r a), (1, sv_i ar1), (2, sv_i ar2), (3, sv_i ar3), (4, sv_i ar4)]) rfl rfl ?_
        refine sv_if_t C.1 C.2.1 (cnd := .eq) (off := 16) (tgt := 39) (by decide +kernel) (by decide) ⟨by omega, by omega⟩ (show 0 = 0 by omega) ?_
        refine sv_go C.1 C.2.1 [(.bipush (-2), 2)] (pc' := 41) (by decide +kernel) rfl (lv' := [(0, sv_r a), (1, sv_i ar1), (2, sv_i ar2), (3, sv_i ar3), (4, sv_i ar4)]) (st' := [sv_i ((-2))]) rfl ?_
        exact sv_iret C hr (by decide +kernel) hok18 (⟨⟨_, rfl, ⟨by omega, by omega⟩⟩, hI, hF⟩)

set_option maxHeartbeats 4000000 in
set_option maxRecDepth 100000 in
theorem sf_X11_goes (l : Launch) (g : sv_G) (A : Nat → Prop) (ty : Nat → Nat) (σ : Nat → Nat → Int) (hok : sv_ok ty σ) (hTA : ∀ q, ty q ≠ 0 → A q) (hI : sv_inv sp_1 ty σ) (a : Nat) (k_a : ty a = 10) (ar1 : Int) (h_ar1 : (-2147483648) ≤ ar1 ∧ ar1 ≤ 2147483647) (ar2 : Int) (h_ar2 : (-2147483648) ≤ ar2 ∧ ar2 ≤ 2147483647) : sv_M l yX11_goes cX11_goes 5 (some .int) { frames := 2, cells := 0, slots := 0, locals := 45 } g A ty σ [sv_r a, sv_i ar1, sv_i ar2] (fun r σ' => (∃ rv : Int, r = [sv_i rv] ∧ ((-3) ≤ rv ∧ rv ≤ 12)) ∧ sv_inv sp_1 ty σ' ∧ sv_ofx [] [102, 105, 106] ty σ σ') := by
  refine sv_enter (by decide) (Nat.le_of_ble_eq_true rfl) ?_
  intro p e s m args below meth c C hr
  have C : sv_C g A RX11 cX11_goes 5 p s m args meth c := C
  have hr : meth.sig.returnType = (some .int) := hr
  have hF : sv_ofx [] [102, 105, 106] ty σ σ := sv_ofx.rf
  refine sv_same (st2 := []) (lv2 := [(0, sv_r a), (1, sv_i ar1), (2, sv_i ar2)]) rfl rfl ?_
  refine sv_go C.1 C.2.1 [(.iload_n 1, 1)] (pc' := 1) (by decide +kernel) rfl (lv' := [(0, sv_r a), (1, sv_i ar1), (2, sv_i ar2)]) (st' := [sv_i ar1]) rfl ?_
  refine sv_cs C (index := 345) (k := 1) (rest := []) (by decide +kernel) (sf_X11_isWalk l g A ty σ hok hTA hI (ar1) ⟨by omega, by omega⟩) ⟨co_X11_isWalk, in_X11, ⟨by decide, by decide, by decide +kernel⟩, Nat.le_of_ble_eq_true rfl, Nat.le_of_ble_eq_true rfl⟩ ml_X11_345 st_X11_isWalk rfl rfl (Nat.le_of_ble_eq_true rfl) ⟨Nat.zero_le _, Nat.zero_le _⟩ (fun r2 σ3 hpo1 hok4 => ?_)
  obtain ⟨rfl, ⟨vu5, rfl, hvu5, ivu5_0⟩⟩ := hpo1
  refine sv_same (st2 := [sv_i vu5]) (lv2 := [(0, sv_r a), (1, sv_i ar1), (2, sv_i ar2)]) rfl rfl ?_
  refine sv_if C.1 C.2.1 (cnd := .eq) (off := 19) (tgt := 23) (by decide +kernel) (by decide) ⟨by omega, by omega⟩ (fun (h6 : vu5 = 0) => ?_) (fun (h6 : ¬ (vu5 = 0)) => ?_)
  · refine sv_go C.1 C.2.1 [(.bipush (-2), 2)] (pc' := 25) (by decide +kernel) rfl (lv' := [(0, sv_r a), (1, sv_i ar1), (2, sv_i ar2)]) (st' := [sv_i ((-2))]) rfl ?_
    exact sv_iret C hr (by decide +kernel) hok4 (⟨⟨_, rfl, ⟨by omega, by omega⟩⟩, hI, hF⟩)
  · have hp7 := ivu5_0 (by omega) (by omega)
    refine sv_go C.1 C.2.1 [(.aload_n 0, 1)] (pc' := 8) (by decide +kernel) rfl (lv' := [(0, sv_r a), (1, sv_i ar1), (2, sv_i ar2)]) (st' := [sv_r a]) rfl ?_
    obtain ⟨v8, ev8, kv8⟩ := hI.ref (k := 42) k_a rfl
    refine sv_gf C (index := 151) (ci := 10) (k := 42) (r := (RX11, TX11, 47)) (v := sv_r v8) (by decide +kernel) (by rw [k_a]; rfl) rfl (by decide) fl_X11_151 (congrArg sv_a ev8) ?_
    refine sv_go C.1 C.2.1 [(.iload_n 1, 1)] (pc' := 12) (by decide +kernel) rfl (lv' := [(0, sv_r a), (1, sv_i ar1), (2, sv_i ar2)]) (st' := [sv_i ar1, sv_r v8]) rfl ?_
    refine sv_ia C (n := 12) (by decide +kernel) (by rw [kv8]; rfl) (by decide) (by omega) (by omega) ?_
    obtain ⟨v9, ev9, hv9⟩ := sv_rdn hI (k := (ar1 : Int).toNat) kv8 rfl
    rw [ev9]
    refine sv_if C.1 C.2.1 (cnd := .eq) (off := 10) (tgt := 23) (by decide +kernel) (by decide) ⟨by omega, by omega⟩ (fun (h10 : v9 = 0) => ?_) (fun (h10 : ¬ (v9 = 0)) => ?_)
    · refine sv_go C.1 C.2.1 [(.bipush (-2), 2)] (pc' := 25) (by decide +kernel) rfl (lv' := [(0, sv_r a), (1, sv_i ar1), (2, sv_i ar2)]) (st' := [sv_i ((-2))]) rfl ?_
      exact sv_iret C hr (by decide +kernel) hok4 (⟨⟨_, rfl, ⟨by omega, by omega⟩⟩, hI, hF⟩)
    · refine sv_go C.1 C.2.1 [(.iload_n 2, 1)] (pc' := 17) (by decide +kernel) rfl (lv' := [(0, sv_r a), (1, sv_i ar1), (2, sv_i ar2)]) (st' := [sv_i ar2]) rfl ?_
      refine sv_cs C (index := 338) (k := 1) (rest := []) (by decide +kernel) (sf_X11_isCorner l g A ty σ hok4 hTA hI (ar2) ⟨by omega, by omega⟩) ⟨co_X11_isCorner, in_X11, ⟨by decide, by decide, by decide +kernel⟩, Nat.le_of_ble_eq_true rfl, Nat.le_of_ble_eq_true rfl⟩ ml_X11_338 st_X11_isCorner rfl rfl (Nat.le_of_ble_eq_true rfl) ⟨Nat.zero_le _, Nat.zero_le _⟩ (fun r12 σ13 hpo11 hok14 => ?_)
      obtain ⟨rfl, ⟨vu15, rfl, hvu15, ivu15_0⟩⟩ := hpo11
      refine sv_same (st2 := [sv_i vu15]) (lv2 := [(0, sv_r a), (1, sv_i ar1), (2, sv_i ar2)]) rfl rfl ?_
      refine sv_if C.1 C.2.1 (cnd := .ne) (off := 6) (tgt := 26) (by decide +kernel) (by decide) ⟨by omega, by omega⟩ (fun (h16 : vu15 ≠ 0) => ?_) (fun (h16 : ¬ (vu15 ≠ 0)) => ?_)
      · have hp17 := ivu15_0 (by omega) (by omega)
        refine sv_go C.1 C.2.1 [(.bipush 12, 2), (.iload_n 1, 1), (.imul, 1), (.aload_n 0, 1)] (pc' := 31) (by decide +kernel) rfl (lv' := [(0, sv_r a), (1, sv_i ar1), (2, sv_i ar2)]) (st' := [sv_r a, sv_i (12 * ar1)]) rfl ?_
        refine sv_gf C (index := 151) (ci := 10) (k := 42) (r := (RX11, TX11, 47)) (v := sv_r v8) (by decide +kernel) (by rw [k_a]; rfl) rfl (by decide) fl_X11_151 (congrArg sv_a ev8) ?_
        refine sv_go C.1 C.2.1 [(.iload_n 1, 1)] (pc' := 35) (by decide +kernel) rfl (lv' := [(0, sv_r a), (1, sv_i ar1), (2, sv_i ar2)]) (st' := [sv_i ar1, sv_r v8, sv_i (12 * ar1)]) rfl ?_
        refine sv_ia C (n := 12) (by decide +kernel) (by rw [kv8]; rfl) (by decide) (by omega) (by omega) ?_
        rw [ev9]
        refine sv_go C.1 C.2.1 [(.iadd, 1), (.istore_n 3, 1), (.aload_n 0, 1)] (pc' := 39) (by decide +kernel) rfl (lv' := [(0, sv_r a), (1, sv_i ar1), (2, sv_i ar2), (3, sv_i ((12 * ar1) + v9))]) (st' := [sv_r a]) rfl ?_
        obtain ⟨v18, ev18, kv18⟩ := hI.ref (k := 41) k_a rfl
        refine sv_gf C (index := 148) (ci := 10) (k := 41) (r := (RX11, TX11, 47)) (v := sv_r v18) (by decide +kernel) (by rw [k_a]; rfl) rfl (by decide) fl_X11_148 (congrArg sv_a ev18) ?_
        refine sv_go C.1 C.2.1 [(.bipush 20, 2), (.aload_n 0, 1)] (pc' := 45) (by decide +kernel) rfl (lv' := [(0, sv_r a), (1, sv_i ar1), (2, sv_i ar2), (3, sv_i ((12 * ar1) + v9))]) (st' := [sv_r a, sv_i 20, sv_r v18]) rfl ?_
        obtain ⟨v19, ev19, kv19⟩ := hI.ref (k := 45) k_a rfl
        refine sv_gf C (index := 160) (ci := 10) (k := 45) (r := (RX11, TX11, 47)) (v := sv_r v19) (by decide +kernel) (by rw [k_a]; rfl) rfl (by decide) fl_X11_160 (congrArg sv_a ev19) ?_
        refine sv_go C.1 C.2.1 [(.iload_n 3, 1), (.iconst 1, 1), (.isub, 1)] (pc' := 51) (by decide +kernel) rfl (lv' := [(0, sv_r a), (1, sv_i ar1), (2, sv_i ar2), (3, sv_i ((12 * ar1) + v9))]) (st' := [sv_i (((12 * ar1) + v9) - 1), sv_r v19, sv_i 20, sv_r v18]) rfl ?_
        refine sv_ia C (n := 144) (by decide +kernel) (by rw [kv19]; rfl) (by decide) (by omega) (by omega) ?_
        obtain ⟨v20, ev20, hv20⟩ := sv_rdn hI (k := (((12 * ar1) + v9) - 1 : Int).toNat) kv19 rfl
        rw [ev20]
        refine sv_go C.1 C.2.1 [(.imul, 1), (.iload_n 2, 1), (.iadd, 1)] (pc' := 55) (by decide +kernel) rfl (lv' := [(0, sv_r a), (1, sv_i ar1), (2, sv_i ar2), (3, sv_i ((12 * ar1) + v9))]) (st' := [sv_i ((20 * v20) + ar2), sv_r v18]) rfl ?_
        refine sv_ia C (n := 400) (by decide +kernel) (by rw [kv18]; rfl) (by decide) (by omega) (by omega) ?_
        obtain ⟨v21, ev21, hv21⟩ := sv_rdn hI (k := ((20 * v20) + ar2 : Int).toNat) kv18 rfl
        rw [ev21]
        refine sv_go C.1 C.2.1 [(.istore 4, 2), (.iload 4, 2)] (pc' := 60) (by decide +kernel) rfl (lv' := [(0, sv_r a), (1, sv_i ar1), (2, sv_i ar2), (3, sv_i ((12 * ar1) + v9)), (4, sv_i v21)]) (st' := [sv_i v21]) rfl ?_
        refine sv_if C.1 C.2.1 (cnd := .ne) (off := 5) (tgt := 65) (by decide +kernel) (by decide) ⟨by omega, by omega⟩ (fun (h22 : v21 ≠ 0) => ?_) (fun (h22 : ¬ (v21 ≠ 0)) => ?_)
        · refine sv_go C.1 C.2.1 [(.aload_n 0, 1)] (pc' := 66) (by decide +kernel) rfl (lv' := [(0, sv_r a), (1, sv_i ar1), (2, sv_i ar2), (3, sv_i ((12 * ar1) + v9)), (4, sv_i v21)]) (st' := [sv_r a]) rfl ?_
          refine sv_gf C (index := 151) (ci := 10) (k := 42) (r := (RX11, TX11, 47)) (v := sv_r v8) (by decide +kernel) (by rw [k_a]; rfl) rfl (by decide) fl_X11_151 (congrArg sv_a ev8) ?_
          refine sv_go C.1 C.2.1 [(.iload_n 1, 1)] (pc' := 70) (by decide +kernel) rfl (lv' := [(0, sv_r a), (1, sv_i ar1), (2, sv_i ar2), (3, sv_i ((12 * ar1) + v9)), (4, sv_i v21)]) (st' := [sv_i ar1, sv_r v8]) rfl ?_
          refine sv_ia C (n := 12) (by decide +kernel) (by rw [kv8]; rfl) (by decide) (by omega) (by omega) ?_
          rw [ev9]
          refine sv_go C.1 C.2.1 [(.bipush 12, 2)] (pc' := 73) (by decide +kernel) rfl (lv' := [(0, sv_r a), (1, sv_i ar1), (2, sv_i ar2), (3, sv_i ((12 * ar1) + v9)), (4, sv_i v21)]) (st' := [sv_i 12, sv_i v9]) rfl ?_
          refine sv_icmp C.1 C.2.1 (cnd := .ne) (off := 6) (tgt := 79) (by decide +kernel) (by decide) ⟨by omega, by omega⟩ ⟨by omega, by omega⟩ (fun (h23 : v9 ≠ 12) => ?_) (fun (h23 : ¬ (v9 ≠ 12)) => ?_)
          · refine sv_go C.1 C.2.1 [(.aload_n 0, 1)] (pc' := 80) (by decide +kernel) rfl (lv' := [(0, sv_r a), (1, sv_i ar1), (2, sv_i ar2), (3, sv_i ((12 * ar1) + v9)), (4, sv_i v21)]) (st' := [sv_r a]) rfl ?_
            refine sv_gf C (index := 160) (ci := 10) (k := 45) (r := (RX11, TX11, 47)) (v := sv_r v19) (by decide +kernel) (by rw [k_a]; rfl) rfl (by decide) fl_X11_160 (congrArg sv_a ev19) ?_
            refine sv_go C.1 C.2.1 [(.iload_n 3, 1), (.iload_n 2, 1)] (pc' := 85) (by decide +kernel) rfl (lv' := [(0, sv_r a), (1, sv_i ar1), (2, sv_i ar2), (3, sv_i ((12 * ar1) + v9)), (4, sv_i v21)]) (st' := [sv_i ar2, sv_i ((12 * ar1) + v9), sv_r v19]) rfl ?_
            refine sv_is C (n := 144) (by decide +kernel) (by rw [kv19]; rfl) (by decide) (by omega) (by omega) ⟨by omega, by omega⟩ (hTA _ (by rw [kv19]; decide)) hok14 (fun hok24 => ?_)
            have hI26 := hI.up (a := v19) (k := ((12 * ar1) + v9 : Int).toNat) (z := ar2) (by rw [kv19]; exact ⟨by omega, by omega⟩)
            have hF27 := hF.up (a := v19) (k := ((12 * ar1) + v9 : Int).toNat) (z := ar2) (Or.inl (by rw [kv19]; decide))
            generalize eσ25 : sv_up σ v19 ((12 * ar1) + v9 : Int).toNat ar2 = σ25 at hok24 hI26 hF27 ⊢
            have t28 : σ25 a 42 = (v8 : Int) + 1 := by rw [← eσ25, sv_up_a (sv_ne k_a kv19 (by decide))]; exact ev8
            have t29 : σ25 v8 (ar1 : Int).toNat = v9 := by rw [← eσ25, sv_up_a (sv_ne kv8 kv19 (by decide))]; exact ev9
            have t30 : σ25 a 41 = (v18 : Int) + 1 := by rw [← eσ25, sv_up_a (sv_ne k_a kv19 (by decide))]; exact ev18
            have t31 : σ25 a 45 = (v19 : Int) + 1 := by rw [← eσ25, sv_up_a (sv_ne k_a kv19 (by decide))]; exact ev19
            have t33 : σ25 v18 ((20 * v20) + ar2 : Int).toNat = v21 := by rw [← eσ25, sv_up_a (sv_ne kv18 kv19 (by decide))]; exact ev21
            have t34 : σ25 v19 ((12 * ar1) + v9 : Int).toNat = ar2 := by rw [← eσ25]; exact sv_up_s _ _ _ _
            refine sv_go C.1 C.2.1 [(.aload_n 0, 1)] (pc' := 87) (by decide +kernel) rfl (lv' := [(0, sv_r a), (1, sv_i ar1), (2, sv_i ar2), (3, sv_i ((12 * ar1) + v9)), (4, sv_i v21)]) (st' := [sv_r a]) rfl ?_
            obtain ⟨v35, ev35, kv35⟩ := hI26.ref (k := 46) k_a rfl
            refine sv_gf C (index := 163) (ci := 10) (k := 46) (r := (RX11, TX11, 47)) (v := sv_r v35) (by decide +kernel) (by rw [k_a]; rfl) rfl (by decide) fl_X11_163 (congrArg sv_a ev35) ?_
            refine sv_go C.1 C.2.1 [(.iload_n 3, 1), (.aload_n 0, 1)] (pc' := 92) (by decide +kernel) rfl (lv' := [(0, sv_r a), (1, sv_i ar1), (2, sv_i ar2), (3, sv_i ((12 * ar1) + v9)), (4, sv_i v21)]) (st' := [sv_r a, sv_i ((12 * ar1) + v9), sv_r v35]) rfl ?_
            refine sv_gf C (index := 163) (ci := 10) (k := 46) (r := (RX11, TX11, 47)) (v := sv_r v35) (by decide +kernel) (by rw [k_a]; rfl) rfl (by decide) fl_X11_163 (congrArg sv_a ev35) ?_
            refine sv_go C.1 C.2.1 [(.iload_n 3, 1), (.iconst 1, 1), (.isub, 1)] (pc' := 98) (by decide +kernel) rfl (lv' := [(0, sv_r a), (1, sv_i ar1), (2, sv_i ar2), (3, sv_i ((12 * ar1) + v9)), (4, sv_i v21)]) (st' := [sv_i (((12 * ar1) + v9) - 1), sv_r v35, sv_i ((12 * ar1) + v9), sv_r v35]) rfl ?_
            refine sv_ia C (n := 144) (by decide +kernel) (by rw [kv35]; rfl) (by decide) (by omega) (by omega) ?_
            obtain ⟨v36, ev36, hv36⟩ := sv_rde hok24 (a := v35) (k := (((12 * ar1) + v9) - 1 : Int).toNat) (n := 144) (by rw [kv35]; rfl) (by omega)
            rw [ev36]
            refine sv_go C.1 C.2.1 [(.iload 4, 2), (.iadd, 1)] (pc' := 102) (by decide +kernel) rfl (lv' := [(0, sv_r a), (1, sv_i ar1), (2, sv_i ar2), (3, sv_i ((12 * ar1) + v9)), (4, sv_i v21)]) (st' := [sv_i (v36 + v21), sv_i ((12 * ar1) + v9), sv_r v35]) rfl ?_
            obtain ⟨w37, hw37, ew37⟩ := sv_wr (v36 + v21)
            refine sv_sameD (st2 := [sv_i w37, sv_i ((12 * ar1) + v9), sv_r v35]) (lv2 := [(0, sv_r a), (1, sv_i ar1), (2, sv_i ar2), (3, sv_i ((12 * ar1) + v9)), (4, sv_i v21)]) (by simp only [List.map_cons, List.map_nil, sv_den_i, ew37]) rfl ?_
            refine sv_is C (n := 144) (by decide +kernel) (by rw [kv35]; rfl) (by decide) (by omega) (by omega) ⟨by omega, by omega⟩ (hTA _ (by rw [kv35]; decide)) hok24 (fun hok38 => ?_)
            have hI40 := hI26.up (a := v35) (k := ((12 * ar1) + v9 : Int).toNat) (z := w37) (by rw [kv35]; exact trivial)
            have hF41 := hF27.up (a := v35) (k := ((12 * ar1) + v9 : Int).toNat) (z := w37) (Or.inl (by rw [kv35]; decide))
            generalize eσ39 : sv_up σ25 v35 ((12 * ar1) + v9 : Int).toNat w37 = σ39 at hok38 hI40 hF41 ⊢
            have t42 : σ39 a 42 = (v8 : Int) + 1 := by rw [← eσ39, sv_up_a (sv_ne k_a kv35 (by decide))]; exact t28
            have t43 : σ39 v8 (ar1 : Int).toNat = v9 := by rw [← eσ39, sv_up_a (sv_ne kv8 kv35 (by decide))]; exact t29
            have t44 : σ39 a 41 = (v18 : Int) + 1 := by rw [← eσ39, sv_up_a (sv_ne k_a kv35 (by decide))]; exact t30
            have t45 : σ39 a 45 = (v19 : Int) + 1 := by rw [← eσ39, sv_up_a (sv_ne k_a kv35 (by decide))]; exact t31
            have t46 : σ39 v18 ((20 * v20) + ar2 : Int).toNat = v21 := by rw [← eσ39, sv_up_a (sv_ne kv18 kv35 (by decide))]; exact t33
            have t47 : σ39 v19 ((12 * ar1) + v9 : Int).toNat = ar2 := by rw [← eσ39, sv_up_a (sv_ne kv19 kv35 (by decide))]; exact t34
            have t48 : σ39 a 46 = (v35 : Int) + 1 := by rw [← eσ39, sv_up_a (sv_ne k_a kv35 (by decide))]; exact ev35
            have t50 : σ39 v35 ((12 * ar1) + v9 : Int).toNat = w37 := by rw [← eσ39]; exact sv_up_s _ _ _ _
            refine sv_go C.1 C.2.1 [(.aload_n 0, 1)] (pc' := 104) (by decide +kernel) rfl (lv' := [(0, sv_r a), (1, sv_i ar1), (2, sv_i ar2), (3, sv_i ((12 * ar1) + v9)), (4, sv_i v21)]) (st' := [sv_r a]) rfl ?_
            refine sv_gf C (index := 151) (ci := 10) (k := 42) (r := (RX11, TX11, 47)) (v := sv_r v8) (by decide +kernel) (by rw [k_a]; rfl) rfl (by decide) fl_X11_151 (congrArg sv_a t42) ?_
            refine sv_go C.1 C.2.1 [(.iload_n 1, 1), (.dup2, 1)] (pc' := 109) (by decide +kernel) rfl (lv' := [(0, sv_r a), (1, sv_i ar1), (2, sv_i ar2), (3, sv_i ((12 * ar1) + v9)), (4, sv_i v21)]) (st' := [sv_i ar1, sv_r v8, sv_i ar1, sv_r v8]) rfl ?_
            refine sv_ia C (n := 12) (by decide +kernel) (by rw [kv8]; rfl) (by decide) (by omega) (by omega) ?_
            rw [t43]
            refine sv_go C.1 C.2.1 [(.iconst 1, 1), (.iadd, 1)] (pc' := 112) (by decide +kernel) rfl (lv' := [(0, sv_r a), (1, sv_i ar1), (2, sv_i ar2), (3, sv_i ((12 * ar1) + v9)), (4, sv_i v21)]) (st' := [sv_i (v9 + 1), sv_i ar1, sv_r v8]) rfl ?_
            refine sv_is C (n := 12) (by decide +kernel) (by rw [kv8]; rfl) (by decide) (by omega) (by omega) ⟨by omega, by omega⟩ (hTA _ (by rw [kv8]; decide)) hok38 (fun hok51 => ?_)
            have hI53 := hI40.up (a := v8) (k := (ar1 : Int).toNat) (z := v9 + 1) (by rw [kv8]; exact ⟨by omega, by omega⟩)
            have hF54 := hF41.up (a := v8) (k := (ar1 : Int).toNat) (z := v9 + 1) (Or.inl (by rw [kv8]; decide))
            generalize eσ52 : sv_up σ39 v8 (ar1 : Int).toNat (v9 + 1) = σ52 at hok51 hI53 hF54 ⊢
            have t55 : σ52 a 42 = (v8 : Int) + 1 := by rw [← eσ52, sv_up_a (sv_ne k_a kv8 (by decide))]; exact t42
            have t57 : σ52 a 41 = (v18 : Int) + 1 := by rw [← eσ52, sv_up_a (sv_ne k_a kv8 (by decide))]; exact t44
            have t58 : σ52 a 45 = (v19 : Int) + 1 := by rw [← eσ52, sv_up_a (sv_ne k_a kv8 (by decide))]; exact t45
            have t59 : σ52 v18 ((20 * v20) + ar2 : Int).toNat = v21 := by rw [← eσ52, sv_up_a (sv_ne kv18 kv8 (by decide))]; exact t46
            have t60 : σ52 v19 ((12 * ar1) + v9 : Int).toNat = ar2 := by rw [← eσ52, sv_up_a (sv_ne kv19 kv8 (by decide))]; exact t47
            have t61 : σ52 a 46 = (v35 : Int) + 1 := by rw [← eσ52, sv_up_a (sv_ne k_a kv8 (by decide))]; exact t48
            have t62 : σ52 v35 ((12 * ar1) + v9 : Int).toNat = w37 := by rw [← eσ52, sv_up_a (sv_ne kv35 kv8 (by decide))]; exact t50
            have t63 : σ52 v8 (ar1 : Int).toNat = v9 + 1 := by rw [← eσ52]; exact sv_up_s _ _ _ _
            refine sv_go C.1 C.2.1 [(.aload_n 0, 1)] (pc' := 114) (by decide +kernel) rfl (lv' := [(0, sv_r a), (1, sv_i ar1), (2, sv_i ar2), (3, sv_i ((12 * ar1) + v9)), (4, sv_i v21)]) (st' := [sv_r a]) rfl ?_
            refine sv_gf C (index := 151) (ci := 10) (k := 42) (r := (RX11, TX11, 47)) (v := sv_r v8) (by decide +kernel) (by rw [k_a]; rfl) rfl (by decide) fl_X11_151 (congrArg sv_a t55) ?_
            refine sv_go C.1 C.2.1 [(.iload_n 1, 1)] (pc' := 118) (by decide +kernel) rfl (lv' := [(0, sv_r a), (1, sv_i ar1), (2, sv_i ar2), (3, sv_i ((12 * ar1) + v9)), (4, sv_i v21)]) (st' := [sv_i ar1, sv_r v8]) rfl ?_
            refine sv_ia C (n := 12) (by decide +kernel) (by rw [kv8]; rfl) (by decide) (by omega) (by omega) ?_
            rw [t63]
            exact sv_iret C hr (by decide +kernel) hok51 (⟨⟨_, rfl, ⟨by omega, by omega⟩⟩, hI53, hF54⟩)
          · refine sv_go C.1 C.2.1 [(.bipush (-3), 2)] (pc' := 78) (by decide +kernel) rfl (lv' := [(0, sv_r a), (1, sv_i ar1), (2, sv_i ar2), (3, sv_i ((12 * ar1) + v9)), (4, sv_i v21)]) (st' := [sv_i ((-3))]) rfl ?_
            exact sv_iret C hr (by decide +kernel) hok14 (⟨⟨_, rfl, ⟨by omega, by omega⟩⟩, hI, hF⟩)
        · refine sv_go C.1 C.2.1 [(.iconst (-1), 1)] (pc' := 64) (by decide +kernel) rfl (lv' := [(0, sv_r a), (1, sv_i ar1), (2, sv_i ar2), (3, sv_i ((12 * ar1) + v9)), (4, sv_i v21)]) (st' := [sv_i ((-1))]) rfl ?_
          exact sv_iret C hr (by decide +kernel) hok14 (⟨⟨_, rfl, ⟨by omega, by omega⟩⟩, hI, hF⟩)
      · refine sv_go C.1 C.2.1 [(.bipush (-2), 2)] (pc' := 25) (by decide +kernel) rfl (lv' := [(0, sv_r a), (1, sv_i ar1), (2, sv_i ar2)]) (st' := [sv_i ((-2))]) rfl ?_
        exact sv_iret C hr (by decide +kernel) hok14 (⟨⟨_, rfl, ⟨by omega, by omega⟩⟩, hI, hF⟩)

theorem cl_X11_352 : Cond.constantLong RX11 352 (300) ∈ lw_good := sv_mem 1472 (by decide +kernel) rfl
set_option maxHeartbeats 4000000 in
set_option maxRecDepth 100000 in
theorem sf_X11_late (l : Launch) (g : sv_G) (A : Nat → Prop) (ty : Nat → Nat) (σ : Nat → Nat → Int) (hok : sv_ok ty σ) (hTA : ∀ q, ty q ≠ 0 → A q) (hI : sv_inv sp_1 ty σ) (a : Nat) (k_a : ty a = 10) (ar1 : Int) (h_ar1 : (-2147483648) ≤ ar1 ∧ ar1 ≤ 2147483647) (ar2 : Int) (h_ar2 : (-2147483648) ≤ ar2 ∧ ar2 ≤ 2147483647) : sv_M l yX11_late cX11_late 3 (some .int) { frames := 2, cells := 0, slots := 0, locals := 45 } g A ty σ [sv_r a, sv_i ar1, sv_i ar2] (fun r σ' => (∃ rv : Int, r = [sv_i rv] ∧ ((-2) ≤ rv ∧ rv ≤ 1739)) ∧ sv_inv sp_1 ty σ' ∧ sv_ofx [] [103] ty σ σ') := by
  refine sv_enter (by decide) (Nat.le_of_ble_eq_true rfl) ?_
  intro p e s m args below meth c C hr
  have C : sv_C g A RX11 cX11_late 3 p s m args meth c := C
  have hr : meth.sig.returnType = (some .int) := hr
  have hF : sv_ofx [] [103] ty σ σ := sv_ofx.rf
  refine sv_same (st2 := []) (lv2 := [(0, sv_r a), (1, sv_i ar1), (2, sv_i ar2)]) rfl rfl ?_
  refine sv_go C.1 C.2.1 [(.iload_n 1, 1)] (pc' := 1) (by decide +kernel) rfl (lv' := [(0, sv_r a), (1, sv_i ar1), (2, sv_i ar2)]) (st' := [sv_i ar1]) rfl ?_
  refine sv_cs C (index := 345) (k := 1) (rest := []) (by decide +kernel) (sf_X11_isWalk l g A ty σ hok hTA hI (ar1) ⟨by omega, by omega⟩) ⟨co_X11_isWalk, in_X11, ⟨by decide, by decide, by decide +kernel⟩, Nat.le_of_ble_eq_true rfl, Nat.le_of_ble_eq_true rfl⟩ ml_X11_345 st_X11_isWalk rfl rfl (Nat.le_of_ble_eq_true rfl) ⟨Nat.zero_le _, Nat.zero_le _⟩ (fun r2 σ3 hpo1 hok4 => ?_)
  obtain ⟨rfl, ⟨vu5, rfl, hvu5, ivu5_0⟩⟩ := hpo1
  refine sv_same (st2 := [sv_i vu5]) (lv2 := [(0, sv_r a), (1, sv_i ar1), (2, sv_i ar2)]) rfl rfl ?_
  refine sv_if C.1 C.2.1 (cnd := .eq) (off := 38) (tgt := 42) (by decide +kernel) (by decide) ⟨by omega, by omega⟩ (fun (h6 : vu5 = 0) => ?_) (fun (h6 : ¬ (vu5 = 0)) => ?_)
  · refine sv_go C.1 C.2.1 [(.bipush (-2), 2)] (pc' := 44) (by decide +kernel) rfl (lv' := [(0, sv_r a), (1, sv_i ar1), (2, sv_i ar2)]) (st' := [sv_i ((-2))]) rfl ?_
    exact sv_iret C hr (by decide +kernel) hok4 (⟨⟨_, rfl, ⟨by omega, by omega⟩⟩, hI, hF⟩)
  · have hp7 := ivu5_0 (by omega) (by omega)
    refine sv_go C.1 C.2.1 [(.aload_n 0, 1)] (pc' := 8) (by decide +kernel) rfl (lv' := [(0, sv_r a), (1, sv_i ar1), (2, sv_i ar2)]) (st' := [sv_r a]) rfl ?_
    obtain ⟨v8, ev8, kv8⟩ := hI.ref (k := 42) k_a rfl
    refine sv_gf C (index := 151) (ci := 10) (k := 42) (r := (RX11, TX11, 47)) (v := sv_r v8) (by decide +kernel) (by rw [k_a]; rfl) rfl (by decide) fl_X11_151 (congrArg sv_a ev8) ?_
    refine sv_go C.1 C.2.1 [(.iload_n 1, 1)] (pc' := 12) (by decide +kernel) rfl (lv' := [(0, sv_r a), (1, sv_i ar1), (2, sv_i ar2)]) (st' := [sv_i ar1, sv_r v8]) rfl ?_
    refine sv_ia C (n := 12) (by decide +kernel) (by rw [kv8]; rfl) (by decide) (by omega) (by omega) ?_
    obtain ⟨v9, ev9, hv9⟩ := sv_rdn hI (k := (ar1 : Int).toNat) kv8 rfl
    rw [ev9]
    refine sv_if C.1 C.2.1 (cnd := .eq) (off := 29) (tgt := 42) (by decide +kernel) (by decide) ⟨by omega, by omega⟩ (fun (h10 : v9 = 0) => ?_) (fun (h10 : ¬ (v9 = 0)) => ?_)
    · refine sv_go C.1 C.2.1 [(.bipush (-2), 2)] (pc' := 44) (by decide +kernel) rfl (lv' := [(0, sv_r a), (1, sv_i ar1), (2, sv_i ar2)]) (st' := [sv_i ((-2))]) rfl ?_
      exact sv_iret C hr (by decide +kernel) hok4 (⟨⟨_, rfl, ⟨by omega, by omega⟩⟩, hI, hF⟩)
    · refine sv_go C.1 C.2.1 [(.iload_n 2, 1)] (pc' := 17) (by decide +kernel) rfl (lv' := [(0, sv_r a), (1, sv_i ar1), (2, sv_i ar2)]) (st' := [sv_i ar2]) rfl ?_
      refine sv_i2l C.1 C.2.1 (by decide +kernel) ⟨by omega, by omega⟩ ?_
      refine sv_go C.1 C.2.1 [(.lconst 1, 1)] (pc' := 19) (by decide +kernel) rfl (lv' := [(0, sv_r a), (1, sv_i ar1), (2, sv_i ar2)]) (st' := [sv_l 1, sv_l ar2]) rfl ?_
      refine sv_ldc2 C (index := 352) (z := 300) (by decide +kernel) cl_X11_352 (by decide) ?_
      refine sv_cs C (index := 9) (k := 3) (rest := []) (by decide +kernel) (ct_X11_in l g A ty σ hok4 (ar2) ⟨by omega, by omega⟩ (1) ⟨by omega, by omega⟩ (300) ⟨by omega, by omega⟩) ⟨co_X11_in, in_X11, ⟨by decide, by decide, by decide +kernel⟩, Nat.le_of_ble_eq_true rfl, Nat.le_of_ble_eq_true rfl⟩ ml_X11_9 st_X11_in rfl rfl (Nat.le_of_ble_eq_true rfl) ⟨Nat.zero_le _, Nat.zero_le _⟩ (fun r12 σ13 hpo11 hok14 => ?_)
      obtain ⟨rfl, ⟨h15, rfl⟩ | ⟨h15, rfl⟩⟩ := hpo11
      · refine sv_same (st2 := [sv_i 1]) (lv2 := [(0, sv_r a), (1, sv_i ar1), (2, sv_i ar2)]) rfl rfl ?_
        refine sv_if_f C.1 C.2.1 (cnd := .eq) (off := 17) (tgt := 42) (by decide +kernel) (by decide) ⟨by omega, by omega⟩ (show ¬ (1 = 0) by omega) ?_
        refine sv_go C.1 C.2.1 [(.aload_n 0, 1)] (pc' := 29) (by decide +kernel) rfl (lv' := [(0, sv_r a), (1, sv_i ar1), (2, sv_i ar2)]) (st' := [sv_r a]) rfl ?_
        obtain ⟨v16, ev16, kv16⟩ := hI.ref (k := 43) k_a rfl
        refine sv_gf C (index := 154) (ci := 10) (k := 43) (r := (RX11, TX11, 47)) (v := sv_r v16) (by decide +kernel) (by rw [k_a]; rfl) rfl (by decide) fl_X11_154 (congrArg sv_a ev16) ?_
        refine sv_go C.1 C.2.1 [(.iload_n 1, 1)] (pc' := 33) (by decide +kernel) rfl (lv' := [(0, sv_r a), (1, sv_i ar1), (2, sv_i ar2)]) (st' := [sv_i ar1, sv_r v16]) rfl ?_
        refine sv_ia C (n := 12) (by decide +kernel) (by rw [kv16]; rfl) (by decide) (by omega) (by omega) ?_
        obtain ⟨v17, ev17, hv17⟩ := sv_rdn hI (k := (ar1 : Int).toNat) kv16 rfl
        rw [ev17]
        refine sv_go C.1 C.2.1 [(.iload_n 2, 1), (.iadd, 1), (.sipush 1440, 3)] (pc' := 39) (by decide +kernel) rfl (lv' := [(0, sv_r a), (1, sv_i ar1), (2, sv_i ar2)]) (st' := [sv_i 1440, sv_i (v17 + ar2)]) rfl ?_
        refine sv_icmp C.1 C.2.1 (cnd := .le) (off := 6) (tgt := 45) (by decide +kernel) (by decide) ⟨by omega, by omega⟩ ⟨by omega, by omega⟩ (fun (h18 : (v17 + ar2) ≤ 1440) => ?_) (fun (h18 : ¬ ((v17 + ar2) ≤ 1440)) => ?_)
        · refine sv_go C.1 C.2.1 [(.aload_n 0, 1)] (pc' := 46) (by decide +kernel) rfl (lv' := [(0, sv_r a), (1, sv_i ar1), (2, sv_i ar2)]) (st' := [sv_r a]) rfl ?_
          refine sv_gf C (index := 154) (ci := 10) (k := 43) (r := (RX11, TX11, 47)) (v := sv_r v16) (by decide +kernel) (by rw [k_a]; rfl) rfl (by decide) fl_X11_154 (congrArg sv_a ev16) ?_
          refine sv_go C.1 C.2.1 [(.iload_n 1, 1), (.dup2, 1)] (pc' := 51) (by decide +kernel) rfl (lv' := [(0, sv_r a), (1, sv_i ar1), (2, sv_i ar2)]) (st' := [sv_i ar1, sv_r v16, sv_i ar1, sv_r v16]) rfl ?_
          refine sv_ia C (n := 12) (by decide +kernel) (by rw [kv16]; rfl) (by decide) (by omega) (by omega) ?_
          rw [ev17]
          refine sv_go C.1 C.2.1 [(.iload_n 2, 1), (.iadd, 1)] (pc' := 54) (by decide +kernel) rfl (lv' := [(0, sv_r a), (1, sv_i ar1), (2, sv_i ar2)]) (st' := [sv_i (v17 + ar2), sv_i ar1, sv_r v16]) rfl ?_
          refine sv_is C (n := 12) (by decide +kernel) (by rw [kv16]; rfl) (by decide) (by omega) (by omega) ⟨by omega, by omega⟩ (hTA _ (by rw [kv16]; decide)) hok14 (fun hok19 => ?_)
          have hI21 := hI.up (a := v16) (k := (ar1 : Int).toNat) (z := v17 + ar2) (by rw [kv16]; exact ⟨by omega, by omega⟩)
          have hF22 := hF.up (a := v16) (k := (ar1 : Int).toNat) (z := v17 + ar2) (Or.inl (by rw [kv16]; decide))
          generalize eσ20 : sv_up σ v16 (ar1 : Int).toNat (v17 + ar2) = σ20 at hok19 hI21 hF22 ⊢
          have t23 : σ20 a 42 = (v8 : Int) + 1 := by rw [← eσ20, sv_up_a (sv_ne k_a kv16 (by decide))]; exact ev8
          have t24 : σ20 v8 (ar1 : Int).toNat = v9 := by rw [← eσ20, sv_up_a (sv_ne kv8 kv16 (by decide))]; exact ev9
          have t25 : σ20 a 43 = (v16 : Int) + 1 := by rw [← eσ20, sv_up_a (sv_ne k_a kv16 (by decide))]; exact ev16
          have t27 : σ20 v16 (ar1 : Int).toNat = v17 + ar2 := by rw [← eσ20]; exact sv_up_s _ _ _ _
          refine sv_go C.1 C.2.1 [(.aload_n 0, 1)] (pc' := 56) (by decide +kernel) rfl (lv' := [(0, sv_r a), (1, sv_i ar1), (2, sv_i ar2)]) (st' := [sv_r a]) rfl ?_
          refine sv_gf C (index := 154) (ci := 10) (k := 43) (r := (RX11, TX11, 47)) (v := sv_r v16) (by decide +kernel) (by rw [k_a]; rfl) rfl (by decide) fl_X11_154 (congrArg sv_a t25) ?_
          refine sv_go C.1 C.2.1 [(.iload_n 1, 1)] (pc' := 60) (by decide +kernel) rfl (lv' := [(0, sv_r a), (1, sv_i ar1), (2, sv_i ar2)]) (st' := [sv_i ar1, sv_r v16]) rfl ?_
          refine sv_ia C (n := 12) (by decide +kernel) (by rw [kv16]; rfl) (by decide) (by omega) (by omega) ?_
          rw [t27]
          exact sv_iret C hr (by decide +kernel) hok19 (⟨⟨_, rfl, ⟨by omega, by omega⟩⟩, hI21, hF22⟩)
        · refine sv_go C.1 C.2.1 [(.bipush (-2), 2)] (pc' := 44) (by decide +kernel) rfl (lv' := [(0, sv_r a), (1, sv_i ar1), (2, sv_i ar2)]) (st' := [sv_i ((-2))]) rfl ?_
          exact sv_iret C hr (by decide +kernel) hok14 (⟨⟨_, rfl, ⟨by omega, by omega⟩⟩, hI, hF⟩)
      · refine sv_same (st2 := [sv_i 0]) (lv2 := [(0, sv_r a), (1, sv_i ar1), (2, sv_i ar2)]) rfl rfl ?_
        refine sv_if_t C.1 C.2.1 (cnd := .eq) (off := 17) (tgt := 42) (by decide +kernel) (by decide) ⟨by omega, by omega⟩ (show 0 = 0 by omega) ?_
        refine sv_go C.1 C.2.1 [(.bipush (-2), 2)] (pc' := 44) (by decide +kernel) rfl (lv' := [(0, sv_r a), (1, sv_i ar1), (2, sv_i ar2)]) (st' := [sv_i ((-2))]) rfl ?_
        exact sv_iret C hr (by decide +kernel) hok14 (⟨⟨_, rfl, ⟨by omega, by omega⟩⟩, hI, hF⟩)

set_option maxHeartbeats 4000000 in
set_option maxRecDepth 100000 in
theorem sf_X11_headAt (l : Launch) (g : sv_G) (A : Nat → Prop) (ty : Nat → Nat) (σ : Nat → Nat → Int) (hok : sv_ok ty σ) (hTA : ∀ q, ty q ≠ 0 → A q) (hI : sv_inv sp_1 ty σ) (a : Nat) (k_a : ty a = 10) (v : Int) (h_v : 0 ≤ v ∧ v ≤ 11) (w : Int) (h_w : 0 ≤ w ∧ w ≤ 11) : sv_M l yX11_headAt cX11_headAt 3 (some .int) { frames := 0, cells := 0, slots := 0, locals := 0 } g A ty σ [sv_r a, sv_i v, sv_i w] (fun r σ' => σ = σ' ∧ ∃ rv : Int, r = [sv_i rv] ∧ ((-2147483648) ≤ rv ∧ rv ≤ 2147483647)) := by
  refine sv_enter (by decide) (Nat.le_of_ble_eq_true rfl) ?_
  intro p e s m args below meth c C hr
  have C : sv_C g A RX11 cX11_headAt 3 p s m args meth c := C
  have hr : meth.sig.returnType = (some .int) := hr
  have hF : sv_ofx [] [] ty σ σ := sv_ofx.rf
  refine sv_same (st2 := []) (lv2 := [(0, sv_r a), (1, sv_i v), (2, sv_i w)]) rfl rfl ?_
  refine sv_go C.1 C.2.1 [(.aload_n 0, 1)] (pc' := 1) (by decide +kernel) rfl (lv' := [(0, sv_r a), (1, sv_i v), (2, sv_i w)]) (st' := [sv_r a]) rfl ?_
  obtain ⟨v1, ev1, kv1⟩ := hI.ref (k := 43) k_a rfl
  refine sv_gf C (index := 154) (ci := 10) (k := 43) (r := (RX11, TX11, 47)) (v := sv_r v1) (by decide +kernel) (by rw [k_a]; rfl) rfl (by decide) fl_X11_154 (congrArg sv_a ev1) ?_
  refine sv_go C.1 C.2.1 [(.iload_n 1, 1)] (pc' := 5) (by decide +kernel) rfl (lv' := [(0, sv_r a), (1, sv_i v), (2, sv_i w)]) (st' := [sv_i v, sv_r v1]) rfl ?_
  refine sv_ia C (n := 12) (by decide +kernel) (by rw [kv1]; rfl) (by decide) (by omega) (by omega) ?_
  obtain ⟨v2, ev2, hv2⟩ := sv_rdn hI (k := (v : Int).toNat) kv1 rfl
  rw [ev2]
  refine sv_go C.1 C.2.1 [(.aload_n 0, 1)] (pc' := 7) (by decide +kernel) rfl (lv' := [(0, sv_r a), (1, sv_i v), (2, sv_i w)]) (st' := [sv_r a, sv_i v2]) rfl ?_
  obtain ⟨v3, ev3, kv3⟩ := hI.ref (k := 46) k_a rfl
  refine sv_gf C (index := 163) (ci := 10) (k := 46) (r := (RX11, TX11, 47)) (v := sv_r v3) (by decide +kernel) (by rw [k_a]; rfl) rfl (by decide) fl_X11_163 (congrArg sv_a ev3) ?_
  refine sv_go C.1 C.2.1 [(.bipush 12, 2), (.iload_n 1, 1), (.imul, 1), (.iload_n 2, 1), (.iadd, 1)] (pc' := 16) (by decide +kernel) rfl (lv' := [(0, sv_r a), (1, sv_i v), (2, sv_i w)]) (st' := [sv_i ((12 * v) + w), sv_r v3, sv_i v2]) rfl ?_
  refine sv_ia C (n := 144) (by decide +kernel) (by rw [kv3]; rfl) (by decide) (by omega) (by omega) ?_
  obtain ⟨v4, ev4, hv4⟩ := sv_rde hok (a := v3) (k := ((12 * v) + w : Int).toNat) (n := 144) (by rw [kv3]; rfl) (by omega)
  rw [ev4]
  refine sv_go C.1 C.2.1 [(.iadd, 1)] (pc' := 18) (by decide +kernel) rfl (lv' := [(0, sv_r a), (1, sv_i v), (2, sv_i w)]) (st' := [sv_i (v2 + v4)]) rfl ?_
  obtain ⟨w5, hw5, ew5⟩ := sv_wr (v2 + v4)
  refine sv_sameD (st2 := [sv_i w5]) (lv2 := [(0, sv_r a), (1, sv_i v), (2, sv_i w)]) (by simp only [List.map_cons, List.map_nil, sv_den_i, ew5]) rfl ?_
  exact sv_iret C hr (by decide +kernel) hok (⟨rfl, ⟨_, rfl, ⟨by omega, by omega⟩⟩⟩)

theorem cl_X11_354 : Cond.constantLong RX11 354 (29) ∈ lw_good := sv_mem 1477 (by decide +kernel) rfl
theorem ml_X11_356 : Cond.methodLink RX11 356 yX11_headAt ∈ lw_good := sv_mem 1478 (by decide +kernel) rfl
theorem co_X11_headAt : Cond.code yX11_headAt cX11_headAt 3 (some .int) ∈ lw_good := sv_mem 1481 (by decide +kernel) rfl
theorem im_X11_headAt : Cond.instanceMethod yX11_headAt ∈ lw_good := sv_mem 1480 (by decide +kernel) rfl
theorem se_X11_headAt : Cond.selects RX11 yX11_headAt yX11_headAt ∈ lw_good := sv_mem 68 (by decide +kernel) rfl
set_option maxHeartbeats 4000000 in
set_option maxRecDepth 100000 in
theorem sf_X11_procession (l : Launch) (g : sv_G) (A : Nat → Prop) (ty : Nat → Nat) (σ : Nat → Nat → Int) (hok : sv_ok ty σ) (hTA : ∀ q, ty q ≠ 0 → A q) (hI : sv_inv sp_1 ty σ) (a : Nat) (k_a : ty a = 10) (ar1 : Int) (h_ar1 : (-2147483648) ≤ ar1 ∧ ar1 ≤ 2147483647) (ar2 : Int) (h_ar2 : (-2147483648) ≤ ar2 ∧ ar2 ≤ 2147483647) : sv_M l yX11_procession cX11_procession 3 (some .int) { frames := 2, cells := 0, slots := 0, locals := 45 } g A ty σ [sv_r a, sv_i ar1, sv_i ar2] (fun r σ' => σ = σ' ∧ ∃ rv : Int, r = [sv_i rv] ∧ ((-2147483648) ≤ rv ∧ rv ≤ 2147483647)) := by
  refine sv_enter (by decide) (Nat.le_of_ble_eq_true rfl) ?_
  intro p e s m args below meth c C hr
  have C : sv_C g A RX11 cX11_procession 3 p s m args meth c := C
  have hr : meth.sig.returnType = (some .int) := hr
  have hF : sv_ofx [] [] ty σ σ := sv_ofx.rf
  refine sv_same (st2 := []) (lv2 := [(0, sv_r a), (1, sv_i ar1), (2, sv_i ar2)]) rfl rfl ?_
  refine sv_go C.1 C.2.1 [(.iload_n 1, 1)] (pc' := 1) (by decide +kernel) rfl (lv' := [(0, sv_r a), (1, sv_i ar1), (2, sv_i ar2)]) (st' := [sv_i ar1]) rfl ?_
  refine sv_cs C (index := 345) (k := 1) (rest := []) (by decide +kernel) (sf_X11_isWalk l g A ty σ hok hTA hI (ar1) ⟨by omega, by omega⟩) ⟨co_X11_isWalk, in_X11, ⟨by decide, by decide, by decide +kernel⟩, Nat.le_of_ble_eq_true rfl, Nat.le_of_ble_eq_true rfl⟩ ml_X11_345 st_X11_isWalk rfl rfl (Nat.le_of_ble_eq_true rfl) ⟨Nat.zero_le _, Nat.zero_le _⟩ (fun r2 σ3 hpo1 hok4 => ?_)
  obtain ⟨rfl, ⟨vu5, rfl, hvu5, ivu5_0⟩⟩ := hpo1
  refine sv_same (st2 := [sv_i vu5]) (lv2 := [(0, sv_r a), (1, sv_i ar1), (2, sv_i ar2)]) rfl rfl ?_
  refine sv_if C.1 C.2.1 (cnd := .eq) (off := 12) (tgt := 16) (by decide +kernel) (by decide) ⟨by omega, by omega⟩ (fun (h6 : vu5 = 0) => ?_) (fun (h6 : ¬ (vu5 = 0)) => ?_)
  · refine sv_go C.1 C.2.1 [(.iconst (-1), 1)] (pc' := 17) (by decide +kernel) rfl (lv' := [(0, sv_r a), (1, sv_i ar1), (2, sv_i ar2)]) (st' := [sv_i ((-1))]) rfl ?_
    exact sv_iret C hr (by decide +kernel) hok4 (⟨rfl, ⟨_, rfl, ⟨by omega, by omega⟩⟩⟩)
  · have hp7 := ivu5_0 (by omega) (by omega)
    refine sv_go C.1 C.2.1 [(.aload_n 0, 1)] (pc' := 8) (by decide +kernel) rfl (lv' := [(0, sv_r a), (1, sv_i ar1), (2, sv_i ar2)]) (st' := [sv_r a]) rfl ?_
    obtain ⟨v8, ev8, kv8⟩ := hI.ref (k := 42) k_a rfl
    refine sv_gf C (index := 151) (ci := 10) (k := 42) (r := (RX11, TX11, 47)) (v := sv_r v8) (by decide +kernel) (by rw [k_a]; rfl) rfl (by decide) fl_X11_151 (congrArg sv_a ev8) ?_
    refine sv_go C.1 C.2.1 [(.iload_n 1, 1)] (pc' := 12) (by decide +kernel) rfl (lv' := [(0, sv_r a), (1, sv_i ar1), (2, sv_i ar2)]) (st' := [sv_i ar1, sv_r v8]) rfl ?_
    refine sv_ia C (n := 12) (by decide +kernel) (by rw [kv8]; rfl) (by decide) (by omega) (by omega) ?_
    obtain ⟨v9, ev9, hv9⟩ := sv_rdn hI (k := (ar1 : Int).toNat) kv8 rfl
    rw [ev9]
    refine sv_if C.1 C.2.1 (cnd := .ne) (off := 5) (tgt := 18) (by decide +kernel) (by decide) ⟨by omega, by omega⟩ (fun (h10 : v9 ≠ 0) => ?_) (fun (h10 : ¬ (v9 ≠ 0)) => ?_)
    · refine sv_go C.1 C.2.1 [(.iload_n 2, 1)] (pc' := 19) (by decide +kernel) rfl (lv' := [(0, sv_r a), (1, sv_i ar1), (2, sv_i ar2)]) (st' := [sv_i ar2]) rfl ?_
      refine sv_i2l C.1 C.2.1 (by decide +kernel) ⟨by omega, by omega⟩ ?_
      refine sv_ldc2 C (index := 290) (z := 10) (by decide +kernel) cl_X11_290 (by decide) ?_
      refine sv_ldc2 C (index := 292) (z := 9) (by decide +kernel) cl_X11_292 (by decide) ?_
      refine sv_go C.1 C.2.1 [(.aload_n 0, 1)] (pc' := 27) (by decide +kernel) rfl (lv' := [(0, sv_r a), (1, sv_i ar1), (2, sv_i ar2)]) (st' := [sv_r a, sv_l 9, sv_l 10, sv_l ar2]) rfl ?_
      refine sv_gf C (index := 151) (ci := 10) (k := 42) (r := (RX11, TX11, 47)) (v := sv_r v8) (by decide +kernel) (by rw [k_a]; rfl) rfl (by decide) fl_X11_151 (congrArg sv_a ev8) ?_
      refine sv_go C.1 C.2.1 [(.iload_n 1, 1)] (pc' := 31) (by decide +kernel) rfl (lv' := [(0, sv_r a), (1, sv_i ar1), (2, sv_i ar2)]) (st' := [sv_i ar1, sv_r v8, sv_l 9, sv_l 10, sv_l ar2]) rfl ?_
      refine sv_ia C (n := 12) (by decide +kernel) (by rw [kv8]; rfl) (by decide) (by omega) (by omega) ?_
      rw [ev9]
      refine sv_i2l C.1 C.2.1 (by decide +kernel) ⟨by omega, by omega⟩ ?_
      refine sv_go C.1 C.2.1 [(.ladd, 1)] (pc' := 34) (by decide +kernel) rfl (lv' := [(0, sv_r a), (1, sv_i ar1), (2, sv_i ar2)]) (st' := [sv_l (9 + v9), sv_l 10, sv_l ar2]) rfl ?_
      refine sv_cs C (index := 9) (k := 3) (rest := []) (by decide +kernel) (ct_X11_in l g A ty σ hok4 (ar2) ⟨by omega, by omega⟩ (10) ⟨by omega, by omega⟩ (9 + v9) ⟨by omega, by omega⟩) ⟨co_X11_in, in_X11, ⟨by decide, by decide, by decide +kernel⟩, Nat.le_of_ble_eq_true rfl, Nat.le_of_ble_eq_true rfl⟩ ml_X11_9 st_X11_in rfl rfl (Nat.le_of_ble_eq_true rfl) ⟨Nat.zero_le _, Nat.zero_le _⟩ (fun r12 σ13 hpo11 hok14 => ?_)
      obtain ⟨rfl, ⟨h15, rfl⟩ | ⟨h15, rfl⟩⟩ := hpo11
      · refine sv_same (st2 := [sv_i 1]) (lv2 := [(0, sv_r a), (1, sv_i ar1), (2, sv_i ar2)]) rfl rfl ?_
        refine sv_if_f C.1 C.2.1 (cnd := .eq) (off := 18) (tgt := 55) (by decide +kernel) (by decide) ⟨by omega, by omega⟩ (show ¬ (1 = 0) by omega) ?_
        refine sv_go C.1 C.2.1 [(.aload_n 0, 1)] (pc' := 41) (by decide +kernel) rfl (lv' := [(0, sv_r a), (1, sv_i ar1), (2, sv_i ar2)]) (st' := [sv_r a]) rfl ?_
        obtain ⟨v16, ev16, kv16⟩ := hI.ref (k := 45) k_a rfl
        refine sv_gf C (index := 160) (ci := 10) (k := 45) (r := (RX11, TX11, 47)) (v := sv_r v16) (by decide +kernel) (by rw [k_a]; rfl) rfl (by decide) fl_X11_160 (congrArg sv_a ev16) ?_
        refine sv_go C.1 C.2.1 [(.bipush 12, 2), (.iload_n 1, 1), (.imul, 1), (.iload_n 2, 1), (.iadd, 1), (.bipush 10, 2), (.isub, 1)] (pc' := 53) (by decide +kernel) rfl (lv' := [(0, sv_r a), (1, sv_i ar1), (2, sv_i ar2)]) (st' := [sv_i (((12 * ar1) + ar2) - 10), sv_r v16]) rfl ?_
        refine sv_ia C (n := 144) (by decide +kernel) (by rw [kv16]; rfl) (by decide) (by omega) (by omega) ?_
        obtain ⟨v17, ev17, hv17⟩ := sv_rdn hI (k := (((12 * ar1) + ar2) - 10 : Int).toNat) kv16 rfl
        rw [ev17]
        exact sv_iret C hr (by decide +kernel) hok14 (⟨rfl, ⟨_, rfl, ⟨by omega, by omega⟩⟩⟩)
      · refine sv_same (st2 := [sv_i 0]) (lv2 := [(0, sv_r a), (1, sv_i ar1), (2, sv_i ar2)]) rfl rfl ?_
        refine sv_if_t C.1 C.2.1 (cnd := .eq) (off := 18) (tgt := 55) (by decide +kernel) (by decide) ⟨by omega, by omega⟩ (show 0 = 0 by omega) ?_
        refine sv_go C.1 C.2.1 [(.iload_n 2, 1)] (pc' := 56) (by decide +kernel) rfl (lv' := [(0, sv_r a), (1, sv_i ar1), (2, sv_i ar2)]) (st' := [sv_i ar2]) rfl ?_
        refine sv_i2l C.1 C.2.1 (by decide +kernel) ⟨by omega, by omega⟩ ?_
        refine sv_ldc2 C (index := 350) (z := 30) (by decide +kernel) cl_X11_350 (by decide) ?_
        refine sv_ldc2 C (index := 354) (z := 29) (by decide +kernel) cl_X11_354 (by decide) ?_
        refine sv_go C.1 C.2.1 [(.aload_n 0, 1)] (pc' := 64) (by decide +kernel) rfl (lv' := [(0, sv_r a), (1, sv_i ar1), (2, sv_i ar2)]) (st' := [sv_r a, sv_l 29, sv_l 30, sv_l ar2]) rfl ?_
        refine sv_gf C (index := 151) (ci := 10) (k := 42) (r := (RX11, TX11, 47)) (v := sv_r v8) (by decide +kernel) (by rw [k_a]; rfl) rfl (by decide) fl_X11_151 (congrArg sv_a ev8) ?_
        refine sv_go C.1 C.2.1 [(.iload_n 1, 1)] (pc' := 68) (by decide +kernel) rfl (lv' := [(0, sv_r a), (1, sv_i ar1), (2, sv_i ar2)]) (st' := [sv_i ar1, sv_r v8, sv_l 29, sv_l 30, sv_l ar2]) rfl ?_
        refine sv_ia C (n := 12) (by decide +kernel) (by rw [kv8]; rfl) (by decide) (by omega) (by omega) ?_
        rw [ev9]
        refine sv_i2l C.1 C.2.1 (by decide +kernel) ⟨by omega, by omega⟩ ?_
        refine sv_go C.1 C.2.1 [(.ladd, 1)] (pc' := 71) (by decide +kernel) rfl (lv' := [(0, sv_r a), (1, sv_i ar1), (2, sv_i ar2)]) (st' := [sv_l (29 + v9), sv_l 30, sv_l ar2]) rfl ?_
        refine sv_cs C (index := 9) (k := 3) (rest := []) (by decide +kernel) (ct_X11_in l g A ty σ hok14 (ar2) ⟨by omega, by omega⟩ (30) ⟨by omega, by omega⟩ (29 + v9) ⟨by omega, by omega⟩) ⟨co_X11_in, in_X11, ⟨by decide, by decide, by decide +kernel⟩, Nat.le_of_ble_eq_true rfl, Nat.le_of_ble_eq_true rfl⟩ ml_X11_9 st_X11_in rfl rfl (Nat.le_of_ble_eq_true rfl) ⟨Nat.zero_le _, Nat.zero_le _⟩ (fun r19 σ20 hpo18 hok21 => ?_)
        obtain ⟨rfl, ⟨h22, rfl⟩ | ⟨h22, rfl⟩⟩ := hpo18
        · refine sv_same (st2 := [sv_i 1]) (lv2 := [(0, sv_r a), (1, sv_i ar1), (2, sv_i ar2)]) rfl rfl ?_
          refine sv_if_f C.1 C.2.1 (cnd := .eq) (off := 13) (tgt := 87) (by decide +kernel) (by decide) ⟨by omega, by omega⟩ (show ¬ (1 = 0) by omega) ?_
          refine sv_go C.1 C.2.1 [(.aload_n 0, 1), (.iload_n 1, 1), (.iload_n 2, 1), (.bipush 30, 2), (.isub, 1)] (pc' := 83) (by decide +kernel) rfl (lv' := [(0, sv_r a), (1, sv_i ar1), (2, sv_i ar2)]) (st' := [sv_i (ar2 - 30), sv_i ar1, sv_r a]) rfl ?_
          refine sv_cv C (index := 356) (k := 2) (rest := []) (ci := 10) (r := (RX11, TX11, 47)) (by decide +kernel) (sf_X11_headAt l g A ty σ hok21 hTA hI a k_a (ar1) ⟨by omega, by omega⟩ (ar2 - 30) ⟨by omega, by omega⟩) ⟨co_X11_headAt, in_X11, ⟨by decide, by decide, by decide +kernel⟩, Nat.le_of_ble_eq_true rfl, Nat.le_of_ble_eq_true rfl⟩ ml_X11_356 im_X11_headAt se_X11_headAt (by rw [k_a]; rfl) rfl rfl rfl (Nat.le_of_ble_eq_true rfl) ⟨Nat.zero_le _, Nat.zero_le _⟩ (fun r24 σ25 hpo23 hok26 => ?_)
          obtain ⟨rfl, ⟨vu27, rfl, hvu27⟩⟩ := hpo23
          refine sv_same (st2 := [sv_i vu27]) (lv2 := [(0, sv_r a), (1, sv_i ar1), (2, sv_i ar2)]) rfl rfl ?_
          exact sv_iret C hr (by decide +kernel) hok26 (⟨rfl, ⟨_, rfl, ⟨by omega, by omega⟩⟩⟩)
        · refine sv_same (st2 := [sv_i 0]) (lv2 := [(0, sv_r a), (1, sv_i ar1), (2, sv_i ar2)]) rfl rfl ?_
          refine sv_if_t C.1 C.2.1 (cnd := .eq) (off := 13) (tgt := 87) (by decide +kernel) (by decide) ⟨by omega, by omega⟩ (show 0 = 0 by omega) ?_
          refine sv_go C.1 C.2.1 [(.iload_n 2, 1)] (pc' := 88) (by decide +kernel) rfl (lv' := [(0, sv_r a), (1, sv_i ar1), (2, sv_i ar2)]) (st' := [sv_i ar2]) rfl ?_
          refine sv_if C.1 C.2.1 (cnd := .ne) (off := 12) (tgt := 100) (by decide +kernel) (by decide) ⟨by omega, by omega⟩ (fun (h28 : ar2 ≠ 0) => ?_) (fun (h28 : ¬ (ar2 ≠ 0)) => ?_)
          · refine sv_go C.1 C.2.1 [(.iload_n 2, 1), (.iconst 1, 1)] (pc' := 102) (by decide +kernel) rfl (lv' := [(0, sv_r a), (1, sv_i ar1), (2, sv_i ar2)]) (st' := [sv_i 1, sv_i ar2]) rfl ?_
            refine sv_icmp C.1 C.2.1 (cnd := .ne) (off := 12) (tgt := 114) (by decide +kernel) (by decide) ⟨by omega, by omega⟩ ⟨by omega, by omega⟩ (fun (h29 : ar2 ≠ 1) => ?_) (fun (h29 : ¬ (ar2 ≠ 1)) => ?_)
            · refine sv_go C.1 C.2.1 [(.iload_n 2, 1), (.iconst 2, 1)] (pc' := 116) (by decide +kernel) rfl (lv' := [(0, sv_r a), (1, sv_i ar1), (2, sv_i ar2)]) (st' := [sv_i 2, sv_i ar2]) rfl ?_
              refine sv_icmp C.1 C.2.1 (cnd := .ne) (off := 26) (tgt := 142) (by decide +kernel) (by decide) ⟨by omega, by omega⟩ ⟨by omega, by omega⟩ (fun (h30 : ar2 ≠ 2) => ?_) (fun (h30 : ¬ (ar2 ≠ 2)) => ?_)
              · refine sv_go C.1 C.2.1 [(.iconst (-1), 1)] (pc' := 143) (by decide +kernel) rfl (lv' := [(0, sv_r a), (1, sv_i ar1), (2, sv_i ar2)]) (st' := [sv_i ((-1))]) rfl ?_
                exact sv_iret C hr (by decide +kernel) hok21 (⟨rfl, ⟨_, rfl, ⟨by omega, by omega⟩⟩⟩)
              · refine sv_go C.1 C.2.1 [(.aload_n 0, 1), (.iload_n 1, 1), (.aload_n 0, 1)] (pc' := 122) (by decide +kernel) rfl (lv' := [(0, sv_r a), (1, sv_i ar1), (2, sv_i ar2)]) (st' := [sv_r a, sv_i ar1, sv_r a]) rfl ?_
                refine sv_gf C (index := 151) (ci := 10) (k := 42) (r := (RX11, TX11, 47)) (v := sv_r v8) (by decide +kernel) (by rw [k_a]; rfl) rfl (by decide) fl_X11_151 (congrArg sv_a ev8) ?_
                refine sv_go C.1 C.2.1 [(.iload_n 1, 1)] (pc' := 126) (by decide +kernel) rfl (lv' := [(0, sv_r a), (1, sv_i ar1), (2, sv_i ar2)]) (st' := [sv_i ar1, sv_r v8, sv_i ar1, sv_r a]) rfl ?_
                refine sv_ia C (n := 12) (by decide +kernel) (by rw [kv8]; rfl) (by decide) (by omega) (by omega) ?_
                rw [ev9]
                refine sv_go C.1 C.2.1 [(.iconst 1, 1), (.isub, 1)] (pc' := 129) (by decide +kernel) rfl (lv' := [(0, sv_r a), (1, sv_i ar1), (2, sv_i ar2)]) (st' := [sv_i (v9 - 1), sv_i ar1, sv_r a]) rfl ?_
                refine sv_cv C (index := 356) (k := 2) (rest := []) (ci := 10) (r := (RX11, TX11, 47)) (by decide +kernel) (sf_X11_headAt l g A ty σ hok21 hTA hI a k_a (ar1) ⟨by omega, by omega⟩ (v9 - 1) ⟨by omega, by omega⟩) ⟨co_X11_headAt, in_X11, ⟨by decide, by decide, by decide +kernel⟩, Nat.le_of_ble_eq_true rfl, Nat.le_of_ble_eq_true rfl⟩ ml_X11_356 im_X11_headAt se_X11_headAt (by rw [k_a]; rfl) rfl rfl rfl (Nat.le_of_ble_eq_true rfl) ⟨Nat.zero_le _, Nat.zero_le _⟩ (fun r32 σ33 hpo31 hok34 => ?_)
                obtain ⟨rfl, ⟨vu35, rfl, hvu35⟩⟩ := hpo31
                refine sv_same (st2 := [sv_i vu35]) (lv2 := [(0, sv_r a), (1, sv_i ar1), (2, sv_i ar2)]) rfl rfl ?_
                refine sv_go C.1 C.2.1 [(.aload_n 0, 1)] (pc' := 133) (by decide +kernel) rfl (lv' := [(0, sv_r a), (1, sv_i ar1), (2, sv_i ar2)]) (st' := [sv_r a, sv_i vu35]) rfl ?_
                obtain ⟨v36, ev36, kv36⟩ := hI.ref (k := 44) k_a rfl
                refine sv_gf C (index := 157) (ci := 10) (k := 44) (r := (RX11, TX11, 47)) (v := sv_r v36) (by decide +kernel) (by rw [k_a]; rfl) rfl (by decide) fl_X11_157 (congrArg sv_a ev36) ?_
                refine sv_go C.1 C.2.1 [(.iload_n 1, 1)] (pc' := 137) (by decide +kernel) rfl (lv' := [(0, sv_r a), (1, sv_i ar1), (2, sv_i ar2)]) (st' := [sv_i ar1, sv_r v36, sv_i vu35]) rfl ?_
                refine sv_ia C (n := 12) (by decide +kernel) (by rw [kv36]; rfl) (by decide) (by omega) (by omega) ?_
                obtain ⟨v37, ev37, hv37⟩ := sv_rdn hI (k := (ar1 : Int).toNat) kv36 rfl
                rw [ev37]
                refine sv_go C.1 C.2.1 [(.iadd, 1)] (pc' := 139) (by decide +kernel) rfl (lv' := [(0, sv_r a), (1, sv_i ar1), (2, sv_i ar2)]) (st' := [sv_i (vu35 + v37)]) rfl ?_
                refine sv_goto C.1 C.2.1 (off := 4) (tgt := 143) (by decide +kernel) (by decide) ?_
                obtain ⟨w38, hw38, ew38⟩ := sv_wr (vu35 + v37)
                refine sv_sameD (st2 := [sv_i w38]) (lv2 := [(0, sv_r a), (1, sv_i ar1), (2, sv_i ar2)]) (by simp only [List.map_cons, List.map_nil, sv_den_i, ew38]) rfl ?_
                exact sv_iret C hr (by decide +kernel) hok34 (⟨rfl, ⟨_, rfl, ⟨by omega, by omega⟩⟩⟩)
            · refine sv_go C.1 C.2.1 [(.aload_n 0, 1)] (pc' := 106) (by decide +kernel) rfl (lv' := [(0, sv_r a), (1, sv_i ar1), (2, sv_i ar2)]) (st' := [sv_r a]) rfl ?_
              obtain ⟨v39, ev39, kv39⟩ := hI.ref (k := 43) k_a rfl
              refine sv_gf C (index := 154) (ci := 10) (k := 43) (r := (RX11, TX11, 47)) (v := sv_r v39) (by decide +kernel) (by rw [k_a]; rfl) rfl (by decide) fl_X11_154 (congrArg sv_a ev39) ?_
              refine sv_go C.1 C.2.1 [(.iload_n 1, 1)] (pc' := 110) (by decide +kernel) rfl (lv' := [(0, sv_r a), (1, sv_i ar1), (2, sv_i ar2)]) (st' := [sv_i ar1, sv_r v39]) rfl ?_
              refine sv_ia C (n := 12) (by decide +kernel) (by rw [kv39]; rfl) (by decide) (by omega) (by omega) ?_
              obtain ⟨v40, ev40, hv40⟩ := sv_rdn hI (k := (ar1 : Int).toNat) kv39 rfl
              rw [ev40]
              refine sv_goto C.1 C.2.1 (off := 32) (tgt := 143) (by decide +kernel) (by decide) ?_
              exact sv_iret C hr (by decide +kernel) hok21 (⟨rfl, ⟨_, rfl, ⟨by omega, by omega⟩⟩⟩)
          · refine sv_go C.1 C.2.1 [(.aload_n 0, 1)] (pc' := 92) (by decide +kernel) rfl (lv' := [(0, sv_r a), (1, sv_i ar1), (2, sv_i ar2)]) (st' := [sv_r a]) rfl ?_
            refine sv_gf C (index := 151) (ci := 10) (k := 42) (r := (RX11, TX11, 47)) (v := sv_r v8) (by decide +kernel) (by rw [k_a]; rfl) rfl (by decide) fl_X11_151 (congrArg sv_a ev8) ?_
            refine sv_go C.1 C.2.1 [(.iload_n 1, 1)] (pc' := 96) (by decide +kernel) rfl (lv' := [(0, sv_r a), (1, sv_i ar1), (2, sv_i ar2)]) (st' := [sv_i ar1, sv_r v8]) rfl ?_
            refine sv_ia C (n := 12) (by decide +kernel) (by rw [kv8]; rfl) (by decide) (by omega) (by omega) ?_
            rw [ev9]
            refine sv_goto C.1 C.2.1 (off := 46) (tgt := 143) (by decide +kernel) (by decide) ?_
            exact sv_iret C hr (by decide +kernel) hok21 (⟨rfl, ⟨_, rfl, ⟨by omega, by omega⟩⟩⟩)
    · refine sv_go C.1 C.2.1 [(.iconst (-1), 1)] (pc' := 17) (by decide +kernel) rfl (lv' := [(0, sv_r a), (1, sv_i ar1), (2, sv_i ar2)]) (st' := [sv_i ((-1))]) rfl ?_
      exact sv_iret C hr (by decide +kernel) hok4 (⟨rfl, ⟨_, rfl, ⟨by omega, by omega⟩⟩⟩)

theorem ml_X11_364 : Cond.methodLink RX11 364 yJ9_max_7cf53 ∈ lw_good := sv_mem 1498 (by decide +kernel) rfl
theorem ci_X11_359 : Cond.constant RX11 359 (268435456) ∈ lw_good := sv_mem 1494 (by decide +kernel) rfl
set_option maxHeartbeats 4000000 in
set_option maxRecDepth 100000 in
theorem sf_X11_together (l : Launch) (g : sv_G) (A : Nat → Prop) (ty : Nat → Nat) (σ : Nat → Nat → Int) (hok : sv_ok ty σ) (hTA : ∀ q, ty q ≠ 0 → A q) (hI : sv_inv sp_1 ty σ) (ar1 : Int) (h_ar1 : (-2147483648) ≤ ar1 ∧ ar1 ≤ 2147483647) (ar2 : Int) (h_ar2 : (-2147483648) ≤ ar2 ∧ ar2 ≤ 2147483647) (ar3 : Int) (h_ar3 : (-2147483648) ≤ ar3 ∧ ar3 ≤ 2147483647) (ar4 : Int) (h_ar4 : (-2147483648) ≤ ar4 ∧ ar4 ≤ 2147483647) : sv_M l yX11_together cX11_together 5 (some .int) { frames := 1, cells := 0, slots := 0, locals := 21 } g A ty σ [sv_i ar1, sv_i ar2, sv_i ar3, sv_i ar4] (fun r σ' => σ = σ' ∧ ∃ rv : Int, r = [sv_i rv] ∧ ((-2147483648) ≤ rv ∧ rv ≤ 2147483647)) := by
  refine sv_enter (by decide) (Nat.le_of_ble_eq_true rfl) ?_
  intro p e s m args below meth c C hr
  have C : sv_C g A RX11 cX11_together 5 p s m args meth c := C
  have hr : meth.sig.returnType = (some .int) := hr
  have hF : sv_ofx [] [] ty σ σ := sv_ofx.rf
  refine sv_same (st2 := []) (lv2 := [(0, sv_i ar1), (1, sv_i ar2), (2, sv_i ar3), (3, sv_i ar4)]) rfl rfl ?_
  refine sv_go C.1 C.2.1 [(.iload_n 0, 1), (.iload_n 2, 1)] (pc' := 2) (by decide +kernel) rfl (lv' := [(0, sv_i ar1), (1, sv_i ar2), (2, sv_i ar3), (3, sv_i ar4)]) (st' := [sv_i ar3, sv_i ar1]) rfl ?_
  refine sv_max C (index := 364) (by decide +kernel) ml_X11_364 ⟨by omega, by omega⟩ ⟨by omega, by omega⟩ (Nat.le_of_ble_eq_true rfl) (Nat.le_of_ble_eq_true rfl) ⟨Nat.zero_le _, Nat.zero_le _⟩ ?_
  obtain ⟨mm1, hmm1⟩ : ∃ q : Int, q = (if (ar1 : Int) < ar3 then ar3 else ar1) := ⟨_, rfl⟩
  refine sv_same (st2 := [sv_i mm1]) (lv2 := [(0, sv_i ar1), (1, sv_i ar2), (2, sv_i ar3), (3, sv_i ar4)]) (by rw [hmm1]) rfl ?_
  refine sv_go C.1 C.2.1 [(.istore 4, 2), (.iload 4, 2), (.iload_n 1, 1), (.iload_n 3, 1)] (pc' := 11) (by decide +kernel) rfl (lv' := [(0, sv_i ar1), (1, sv_i ar2), (2, sv_i ar3), (3, sv_i ar4), (4, sv_i mm1)]) (st' := [sv_i ar4, sv_i ar2, sv_i mm1]) rfl ?_
  refine sv_min C (index := 331) (by decide +kernel) ml_X11_331 ⟨by omega, by omega⟩ ⟨by omega, by omega⟩ (Nat.le_of_ble_eq_true rfl) (Nat.le_of_ble_eq_true rfl) ⟨Nat.zero_le _, Nat.zero_le _⟩ ?_
  obtain ⟨mm2, hmm2⟩ : ∃ q : Int, q = (if (ar4 : Int) < ar2 then ar4 else ar2) := ⟨_, rfl⟩
  refine sv_same (st2 := [sv_i mm2, sv_i mm1]) (lv2 := [(0, sv_i ar1), (1, sv_i ar2), (2, sv_i ar3), (3, sv_i ar4), (4, sv_i mm1)]) (by rw [hmm2]) rfl ?_
  refine sv_icmp C.1 C.2.1 (cnd := .gt) (off := 8) (tgt := 22) (by decide +kernel) (by decide) ⟨by omega, by omega⟩ ⟨by omega, by omega⟩ (fun (h3 : mm2 < mm1) => ?_) (fun (h3 : ¬ (mm2 < mm1)) => ?_)
  · refine sv_ldc_w C (index := 359) (z := 268435456) (by decide +kernel) ci_X11_359 (by decide) ?_
    exact sv_iret C hr (by decide +kernel) hok (⟨rfl, ⟨_, rfl, ⟨by omega, by omega⟩⟩⟩)
  · refine sv_go C.1 C.2.1 [(.iload 4, 2)] (pc' := 19) (by decide +kernel) rfl (lv' := [(0, sv_i ar1), (1, sv_i ar2), (2, sv_i ar3), (3, sv_i ar4), (4, sv_i mm1)]) (st' := [sv_i mm1]) rfl ?_
    refine sv_goto C.1 C.2.1 (off := 6) (tgt := 25) (by decide +kernel) (by decide) ?_
    exact sv_iret C hr (by decide +kernel) hok (⟨rfl, ⟨_, rfl, ⟨by omega, by omega⟩⟩⟩)

theorem ml_X11_360 : Cond.methodLink RX11 360 yX11_together ∈ lw_good := sv_mem 1495 (by decide +kernel) rfl
theorem co_X11_together : Cond.code yX11_together cX11_together 5 (some .int) ∈ lw_good := sv_mem 1497 (by decide +kernel) rfl
theorem st_X11_together : Cond.static yX11_together ∈ lw_good := sv_mem 1496 (by decide +kernel) rfl
set_option maxHeartbeats 4000000 in
set_option maxRecDepth 100000 in
theorem sf_X11_meet (l : Launch) (g : sv_G) (A : Nat → Prop) (ty : Nat → Nat) (σ : Nat → Nat → Int) (hok : sv_ok ty σ) (hTA : ∀ q, ty q ≠ 0 → A q) (hI : sv_inv sp_1 ty σ) (a : Nat) (k_a : ty a = 10) (v : Int) (h_v : 0 ≤ v ∧ v ≤ 11) (w : Int) (h_w : 0 ≤ w ∧ w ≤ 11) : sv_M l yX11_meet cX11_meet 6 (some .int) { frames := 2, cells := 0, slots := 0, locals := 45 } g A ty σ [sv_r a, sv_i v, sv_i w] (fun r σ' => σ = σ' ∧ ∃ rv : Int, r = [sv_i rv] ∧ ((-2147483648) ≤ rv ∧ rv ≤ 268435456)) := by
  refine sv_enter (by decide) (Nat.le_of_ble_eq_true rfl) ?_
  intro p e s m args below meth c C hr
  have C : sv_C g A RX11 cX11_meet 6 p s m args meth c := C
  have hr : meth.sig.returnType = (some .int) := hr
  have hF : sv_ofx [] [] ty σ σ := sv_ofx.rf
  refine sv_same (st2 := []) (lv2 := [(0, sv_r a), (1, sv_i v), (2, sv_i w)]) rfl rfl ?_
  refine sv_ldc_w C (index := 359) (z := 268435456) (by decide +kernel) ci_X11_359 (by decide) ?_
  refine sv_go C.1 C.2.1 [(.istore_n 3, 1), (.iconst 0, 1), (.istore 4, 2)] (pc' := 7) (by decide +kernel) rfl (lv' := [(0, sv_r a), (1, sv_i v), (2, sv_i w), (3, sv_i 268435456), (4, sv_i 0)]) (st' := []) rfl ?_
  have L2 : ∀ (n : Nat) (Xg1_l3 : Int) (Xg1_l4 : Int), ((-2147483648) ≤ Xg1_l3 ∧ Xg1_l3 ≤ 268435456) → (0 ≤ Xg1_l4 ∧ Xg1_l4 ≤ 12) → (12 - Xg1_l4) < (n : Int) → sv_E p l e { frames := 2, cells := 0, slots := 0, locals := 45 } s m args below meth c 6 g A ty (fun r σ' => σ = σ' ∧ ∃ rv : Int, r = [sv_i rv] ∧ ((-2147483648) ≤ rv ∧ rv ≤ 268435456)) σ 7 [(0, sv_r a), (1, sv_i v), (2, sv_i w), (3, sv_i Xg1_l3), (4, sv_i Xg1_l4)] [] := by
    intro n
    induction n with
    | zero => intro Xg1_l3 Xg1_l4 hXg1_l3 hXg1_l4 hmu; exact absurd hmu (by omega)
    | succ n ih3 =>
      intro Xg1_l3 Xg1_l4 hXg1_l3 hXg1_l4 hmu
      refine sv_go C.1 C.2.1 [(.iload 4, 2), (.aload_n 0, 1)] (pc' := 10) (by decide +kernel) rfl (lv' := [(0, sv_r a), (1, sv_i v), (2, sv_i w), (3, sv_i Xg1_l3), (4, sv_i Xg1_l4)]) (st' := [sv_r a, sv_i Xg1_l4]) rfl ?_
      obtain ⟨v4, ev4, kv4⟩ := hI.ref (k := 42) k_a rfl
      refine sv_gf C (index := 151) (ci := 10) (k := 42) (r := (RX11, TX11, 47)) (v := sv_r v4) (by decide +kernel) (by rw [k_a]; rfl) rfl (by decide) fl_X11_151 (congrArg sv_a ev4) ?_
      refine sv_go C.1 C.2.1 [(.iload_n 1, 1)] (pc' := 14) (by decide +kernel) rfl (lv' := [(0, sv_r a), (1, sv_i v), (2, sv_i w), (3, sv_i Xg1_l3), (4, sv_i Xg1_l4)]) (st' := [sv_i v, sv_r v4, sv_i Xg1_l4]) rfl ?_
      refine sv_ia C (n := 12) (by decide +kernel) (by rw [kv4]; rfl) (by decide) (by omega) (by omega) ?_
      obtain ⟨v5, ev5, hv5⟩ := sv_rdn hI (k := (v : Int).toNat) kv4 rfl
      rw [ev5]
      refine sv_icmp C.1 C.2.1 (cnd := .ge) (off := 247) (tgt := 262) (by decide +kernel) (by decide) ⟨by omega, by omega⟩ ⟨by omega, by omega⟩ (fun (h6 : v5 ≤ Xg1_l4) => ?_) (fun (h6 : ¬ (v5 ≤ Xg1_l4)) => ?_)
      · refine sv_go C.1 C.2.1 [(.iload_n 3, 1)] (pc' := 263) (by decide +kernel) rfl (lv' := [(0, sv_r a), (1, sv_i v), (2, sv_i w), (3, sv_i Xg1_l3), (4, sv_i Xg1_l4)]) (st' := [sv_i Xg1_l3]) rfl ?_
        exact sv_iret C hr (by decide +kernel) hok (⟨rfl, ⟨_, rfl, ⟨by omega, by omega⟩⟩⟩)
      · refine sv_go C.1 C.2.1 [(.iconst 0, 1), (.istore 5, 2)] (pc' := 21) (by decide +kernel) rfl (lv' := [(0, sv_r a), (1, sv_i v), (2, sv_i w), (3, sv_i Xg1_l3), (4, sv_i Xg1_l4), (5, sv_i 0)]) (st' := []) rfl ?_
        have L8 : ∀ (n : Nat) (Xg7_l3 : Int) (Xg7_l5 : Int), ((-2147483648) ≤ Xg7_l3 ∧ Xg7_l3 ≤ 268435456) → (0 ≤ Xg7_l5 ∧ Xg7_l5 ≤ 12) → (12 - Xg7_l5) < (n : Int) → sv_E p l e { frames := 2, cells := 0, slots := 0, locals := 45 } s m args below meth c 6 g A ty (fun r σ' => σ = σ' ∧ ∃ rv : Int, r = [sv_i rv] ∧ ((-2147483648) ≤ rv ∧ rv ≤ 268435456)) σ 21 [(0, sv_r a), (1, sv_i v), (2, sv_i w), (3, sv_i Xg7_l3), (4, sv_i Xg1_l4), (5, sv_i Xg7_l5)] [] := by
          intro n
          induction n with
          | zero => intro Xg7_l3 Xg7_l5 hXg7_l3 hXg7_l5 hmu; exact absurd hmu (by omega)
          | succ n ih9 =>
            intro Xg7_l3 Xg7_l5 hXg7_l3 hXg7_l5 hmu
            refine sv_go C.1 C.2.1 [(.iload 5, 2), (.aload_n 0, 1)] (pc' := 24) (by decide +kernel) rfl (lv' := [(0, sv_r a), (1, sv_i v), (2, sv_i w), (3, sv_i Xg7_l3), (4, sv_i Xg1_l4), (5, sv_i Xg7_l5)]) (st' := [sv_r a, sv_i Xg7_l5]) rfl ?_
            refine sv_gf C (index := 151) (ci := 10) (k := 42) (r := (RX11, TX11, 47)) (v := sv_r v4) (by decide +kernel) (by rw [k_a]; rfl) rfl (by decide) fl_X11_151 (congrArg sv_a ev4) ?_
            refine sv_go C.1 C.2.1 [(.iload_n 2, 1)] (pc' := 28) (by decide +kernel) rfl (lv' := [(0, sv_r a), (1, sv_i v), (2, sv_i w), (3, sv_i Xg7_l3), (4, sv_i Xg1_l4), (5, sv_i Xg7_l5)]) (st' := [sv_i w, sv_r v4, sv_i Xg7_l5]) rfl ?_
            refine sv_ia C (n := 12) (by decide +kernel) (by rw [kv4]; rfl) (by decide) (by omega) (by omega) ?_
            obtain ⟨v10, ev10, hv10⟩ := sv_rdn hI (k := (w : Int).toNat) kv4 rfl
            rw [ev10]
            refine sv_icmp C.1 C.2.1 (cnd := .ge) (off := 227) (tgt := 256) (by decide +kernel) (by decide) ⟨by omega, by omega⟩ ⟨by omega, by omega⟩ (fun (h11 : v10 ≤ Xg7_l5) => ?_) (fun (h11 : ¬ (v10 ≤ Xg7_l5)) => ?_)
            · refine sv_go C.1 C.2.1 [(.iinc 4 1, 3)] (pc' := 259) (by decide +kernel) rfl (lv' := [(0, sv_r a), (1, sv_i v), (2, sv_i w), (3, sv_i Xg7_l3), (4, sv_i (Xg1_l4 + 1)), (5, sv_i Xg7_l5)]) (st' := []) rfl ?_
              refine sv_goto C.1 C.2.1 (off := (-252)) (tgt := 7) (by decide +kernel) (by decide) ?_
              refine sv_pick [0, 1, 2, 3, 4] (lv2 := [(0, sv_r a), (1, sv_i v), (2, sv_i w), (3, sv_i Xg7_l3), (4, sv_i (Xg1_l4 + 1))]) rfl ?_
              exact ih3 Xg7_l3 (Xg1_l4 + 1) ⟨by omega, by omega⟩ ⟨by omega, by omega⟩ (by omega)
            · refine sv_go C.1 C.2.1 [(.aload_n 0, 1)] (pc' := 33) (by decide +kernel) rfl (lv' := [(0, sv_r a), (1, sv_i v), (2, sv_i w), (3, sv_i Xg7_l3), (4, sv_i Xg1_l4), (5, sv_i Xg7_l5)]) (st' := [sv_r a]) rfl ?_
              obtain ⟨v12, ev12, kv12⟩ := hI.ref (k := 45) k_a rfl
              refine sv_gf C (index := 160) (ci := 10) (k := 45) (r := (RX11, TX11, 47)) (v := sv_r v12) (by decide +kernel) (by rw [k_a]; rfl) rfl (by decide) fl_X11_160 (congrArg sv_a ev12) ?_
              refine sv_go C.1 C.2.1 [(.bipush 12, 2), (.iload_n 1, 1), (.imul, 1), (.iload 4, 2), (.iadd, 1)] (pc' := 43) (by decide +kernel) rfl (lv' := [(0, sv_r a), (1, sv_i v), (2, sv_i w), (3, sv_i Xg7_l3), (4, sv_i Xg1_l4), (5, sv_i Xg7_l5)]) (st' := [sv_i ((12 * v) + Xg1_l4), sv_r v12]) rfl ?_
              refine sv_ia C (n := 144) (by decide +kernel) (by rw [kv12]; rfl) (by decide) (by omega) (by omega) ?_
              obtain ⟨v13, ev13, hv13⟩ := sv_rdn hI (k := ((12 * v) + Xg1_l4 : Int).toNat) kv12 rfl
              rw [ev13]
              refine sv_go C.1 C.2.1 [(.aload_n 0, 1)] (pc' := 45) (by decide +kernel) rfl (lv' := [(0, sv_r a), (1, sv_i v), (2, sv_i w), (3, sv_i Xg7_l3), (4, sv_i Xg1_l4), (5, sv_i Xg7_l5)]) (st' := [sv_r a, sv_i v13]) rfl ?_
              refine sv_gf C (index := 160) (ci := 10) (k := 45) (r := (RX11, TX11, 47)) (v := sv_r v12) (by decide +kernel) (by rw [k_a]; rfl) rfl (by decide) fl_X11_160 (congrArg sv_a ev12) ?_
              refine sv_go C.1 C.2.1 [(.bipush 12, 2), (.iload_n 2, 1), (.imul, 1), (.iload 5, 2), (.iadd, 1)] (pc' := 55) (by decide +kernel) rfl (lv' := [(0, sv_r a), (1, sv_i v), (2, sv_i w), (3, sv_i Xg7_l3), (4, sv_i Xg1_l4), (5, sv_i Xg7_l5)]) (st' := [sv_i ((12 * w) + Xg7_l5), sv_r v12, sv_i v13]) rfl ?_
              refine sv_ia C (n := 144) (by decide +kernel) (by rw [kv12]; rfl) (by decide) (by omega) (by omega) ?_
              obtain ⟨v14, ev14, hv14⟩ := sv_rdn hI (k := ((12 * w) + Xg7_l5 : Int).toNat) kv12 rfl
              rw [ev14]
              have J17 : ∀ (Jg16_l3 : Int), ((-2147483648) ≤ Jg16_l3 ∧ Jg16_l3 ≤ 268435456) → sv_E p l e { frames := 2, cells := 0, slots := 0, locals := 45 } s m args below meth c 6 g A ty (fun r σ' => σ = σ' ∧ ∃ rv : Int, r = [sv_i rv] ∧ ((-2147483648) ≤ rv ∧ rv ≤ 268435456)) σ 109 [(0, sv_r a), (1, sv_i v), (2, sv_i w), (3, sv_i Jg16_l3), (4, sv_i Xg1_l4), (5, sv_i Xg7_l5)] [] := by
                intro Jg16_l3 hJg16_l3
                refine sv_go C.1 C.2.1 [(.iload 4, 2), (.iconst 1, 1), (.iadd, 1), (.aload_n 0, 1)] (pc' := 114) (by decide +kernel) rfl (lv' := [(0, sv_r a), (1, sv_i v), (2, sv_i w), (3, sv_i Jg16_l3), (4, sv_i Xg1_l4), (5, sv_i Xg7_l5)]) (st' := [sv_r a, sv_i (Xg1_l4 + 1)]) rfl ?_
                refine sv_gf C (index := 151) (ci := 10) (k := 42) (r := (RX11, TX11, 47)) (v := sv_r v4) (by decide +kernel) (by rw [k_a]; rfl) rfl (by decide) fl_X11_151 (congrArg sv_a ev4) ?_
                refine sv_go C.1 C.2.1 [(.iload_n 1, 1)] (pc' := 118) (by decide +kernel) rfl (lv' := [(0, sv_r a), (1, sv_i v), (2, sv_i w), (3, sv_i Jg16_l3), (4, sv_i Xg1_l4), (5, sv_i Xg7_l5)]) (st' := [sv_i v, sv_r v4, sv_i (Xg1_l4 + 1)]) rfl ?_
                refine sv_ia C (n := 12) (by decide +kernel) (by rw [kv4]; rfl) (by decide) (by omega) (by omega) ?_
                rw [ev5]
                have J20 : ∀ (Jg19_l3 : Int), ((-2147483648) ≤ Jg19_l3 ∧ Jg19_l3 ≤ 268435456) → sv_E p l e { frames := 2, cells := 0, slots := 0, locals := 45 } s m args below meth c 6 g A ty (fun r σ' => σ = σ' ∧ ∃ rv : Int, r = [sv_i rv] ∧ ((-2147483648) ≤ rv ∧ rv ≤ 268435456)) σ 250 [(0, sv_r a), (1, sv_i v), (2, sv_i w), (3, sv_i Jg19_l3), (4, sv_i Xg1_l4), (5, sv_i Xg7_l5)] [] := by
                  intro Jg19_l3 hJg19_l3
                  refine sv_go C.1 C.2.1 [(.iinc 5 1, 3)] (pc' := 253) (by decide +kernel) rfl (lv' := [(0, sv_r a), (1, sv_i v), (2, sv_i w), (3, sv_i Jg19_l3), (4, sv_i Xg1_l4), (5, sv_i (Xg7_l5 + 1))]) (st' := []) rfl ?_
                  refine sv_goto C.1 C.2.1 (off := (-232)) (tgt := 21) (by decide +kernel) (by decide) ?_
                  exact ih9 Jg19_l3 (Xg7_l5 + 1) ⟨by omega, by omega⟩ ⟨by omega, by omega⟩ (by omega)
                refine sv_icmp C.1 C.2.1 (cnd := .eq) (off := 131) (tgt := 250) (by decide +kernel) (by decide) ⟨by omega, by omega⟩ ⟨by omega, by omega⟩ (fun (h18 : (Xg1_l4 + 1) = v5) => ?_) (fun (h18 : ¬ ((Xg1_l4 + 1) = v5)) => ?_)
                · exact J20 Jg16_l3 ⟨by omega, by omega⟩
                · refine sv_go C.1 C.2.1 [(.iload 5, 2), (.iconst 1, 1), (.iadd, 1), (.aload_n 0, 1)] (pc' := 127) (by decide +kernel) rfl (lv' := [(0, sv_r a), (1, sv_i v), (2, sv_i w), (3, sv_i Jg16_l3), (4, sv_i Xg1_l4), (5, sv_i Xg7_l5)]) (st' := [sv_r a, sv_i (Xg7_l5 + 1)]) rfl ?_
                  refine sv_gf C (index := 151) (ci := 10) (k := 42) (r := (RX11, TX11, 47)) (v := sv_r v4) (by decide +kernel) (by rw [k_a]; rfl) rfl (by decide) fl_X11_151 (congrArg sv_a ev4) ?_
                  refine sv_go C.1 C.2.1 [(.iload_n 2, 1)] (pc' := 131) (by decide +kernel) rfl (lv' := [(0, sv_r a), (1, sv_i v), (2, sv_i w), (3, sv_i Jg16_l3), (4, sv_i Xg1_l4), (5, sv_i Xg7_l5)]) (st' := [sv_i w, sv_r v4, sv_i (Xg7_l5 + 1)]) rfl ?_
                  refine sv_ia C (n := 12) (by decide +kernel) (by rw [kv4]; rfl) (by decide) (by omega) (by omega) ?_
                  rw [ev10]
                  refine sv_icmp C.1 C.2.1 (cnd := .eq) (off := 118) (tgt := 250) (by decide +kernel) (by decide) ⟨by omega, by omega⟩ ⟨by omega, by omega⟩ (fun (h21 : (Xg7_l5 + 1) = v10) => ?_) (fun (h21 : ¬ ((Xg7_l5 + 1) = v10)) => ?_)
                  · exact J20 Jg16_l3 ⟨by omega, by omega⟩
                  · refine sv_go C.1 C.2.1 [(.aload_n 0, 1)] (pc' := 136) (by decide +kernel) rfl (lv' := [(0, sv_r a), (1, sv_i v), (2, sv_i w), (3, sv_i Jg16_l3), (4, sv_i Xg1_l4), (5, sv_i Xg7_l5)]) (st' := [sv_r a]) rfl ?_
                    refine sv_gf C (index := 160) (ci := 10) (k := 45) (r := (RX11, TX11, 47)) (v := sv_r v12) (by decide +kernel) (by rw [k_a]; rfl) rfl (by decide) fl_X11_160 (congrArg sv_a ev12) ?_
                    refine sv_go C.1 C.2.1 [(.bipush 12, 2), (.iload_n 1, 1), (.imul, 1), (.iload 4, 2), (.iadd, 1)] (pc' := 146) (by decide +kernel) rfl (lv' := [(0, sv_r a), (1, sv_i v), (2, sv_i w), (3, sv_i Jg16_l3), (4, sv_i Xg1_l4), (5, sv_i Xg7_l5)]) (st' := [sv_i ((12 * v) + Xg1_l4), sv_r v12]) rfl ?_
                    refine sv_ia C (n := 144) (by decide +kernel) (by rw [kv12]; rfl) (by decide) (by omega) (by omega) ?_
                    rw [ev13]
                    refine sv_go C.1 C.2.1 [(.aload_n 0, 1)] (pc' := 148) (by decide +kernel) rfl (lv' := [(0, sv_r a), (1, sv_i v), (2, sv_i w), (3, sv_i Jg16_l3), (4, sv_i Xg1_l4), (5, sv_i Xg7_l5)]) (st' := [sv_r a, sv_i v13]) rfl ?_
                    refine sv_gf C (index := 160) (ci := 10) (k := 45) (r := (RX11, TX11, 47)) (v := sv_r v12) (by decide +kernel) (by rw [k_a]; rfl) rfl (by decide) fl_X11_160 (congrArg sv_a ev12) ?_
                    refine sv_go C.1 C.2.1 [(.bipush 12, 2), (.iload_n 2, 1), (.imul, 1), (.iload 5, 2), (.iadd, 1), (.iconst 1, 1), (.iadd, 1)] (pc' := 160) (by decide +kernel) rfl (lv' := [(0, sv_r a), (1, sv_i v), (2, sv_i w), (3, sv_i Jg16_l3), (4, sv_i Xg1_l4), (5, sv_i Xg7_l5)]) (st' := [sv_i (((12 * w) + Xg7_l5) + 1), sv_r v12, sv_i v13]) rfl ?_
                    refine sv_ia C (n := 144) (by decide +kernel) (by rw [kv12]; rfl) (by decide) (by omega) (by omega) ?_
                    obtain ⟨v22, ev22, hv22⟩ := sv_rdn hI (k := (((12 * w) + Xg7_l5) + 1 : Int).toNat) kv12 rfl
                    rw [ev22]
                    refine sv_icmp C.1 C.2.1 (cnd := .ne) (off := 89) (tgt := 250) (by decide +kernel) (by decide) ⟨by omega, by omega⟩ ⟨by omega, by omega⟩ (fun (h23 : v13 ≠ v22) => ?_) (fun (h23 : ¬ (v13 ≠ v22)) => ?_)
                    · exact J20 Jg16_l3 ⟨by omega, by omega⟩
                    · refine sv_go C.1 C.2.1 [(.aload_n 0, 1)] (pc' := 165) (by decide +kernel) rfl (lv' := [(0, sv_r a), (1, sv_i v), (2, sv_i w), (3, sv_i Jg16_l3), (4, sv_i Xg1_l4), (5, sv_i Xg7_l5)]) (st' := [sv_r a]) rfl ?_
                      refine sv_gf C (index := 160) (ci := 10) (k := 45) (r := (RX11, TX11, 47)) (v := sv_r v12) (by decide +kernel) (by rw [k_a]; rfl) rfl (by decide) fl_X11_160 (congrArg sv_a ev12) ?_
                      refine sv_go C.1 C.2.1 [(.bipush 12, 2), (.iload_n 1, 1), (.imul, 1), (.iload 4, 2), (.iadd, 1), (.iconst 1, 1), (.iadd, 1)] (pc' := 177) (by decide +kernel) rfl (lv' := [(0, sv_r a), (1, sv_i v), (2, sv_i w), (3, sv_i Jg16_l3), (4, sv_i Xg1_l4), (5, sv_i Xg7_l5)]) (st' := [sv_i (((12 * v) + Xg1_l4) + 1), sv_r v12]) rfl ?_
                      refine sv_ia C (n := 144) (by decide +kernel) (by rw [kv12]; rfl) (by decide) (by omega) (by omega) ?_
                      obtain ⟨v24, ev24, hv24⟩ := sv_rdn hI (k := (((12 * v) + Xg1_l4) + 1 : Int).toNat) kv12 rfl
                      rw [ev24]
                      refine sv_go C.1 C.2.1 [(.aload_n 0, 1)] (pc' := 179) (by decide +kernel) rfl (lv' := [(0, sv_r a), (1, sv_i v), (2, sv_i w), (3, sv_i Jg16_l3), (4, sv_i Xg1_l4), (5, sv_i Xg7_l5)]) (st' := [sv_r a, sv_i v24]) rfl ?_
                      refine sv_gf C (index := 160) (ci := 10) (k := 45) (r := (RX11, TX11, 47)) (v := sv_r v12) (by decide +kernel) (by rw [k_a]; rfl) rfl (by decide) fl_X11_160 (congrArg sv_a ev12) ?_
                      refine sv_go C.1 C.2.1 [(.bipush 12, 2), (.iload_n 2, 1), (.imul, 1), (.iload 5, 2), (.iadd, 1)] (pc' := 189) (by decide +kernel) rfl (lv' := [(0, sv_r a), (1, sv_i v), (2, sv_i w), (3, sv_i Jg16_l3), (4, sv_i Xg1_l4), (5, sv_i Xg7_l5)]) (st' := [sv_i ((12 * w) + Xg7_l5), sv_r v12, sv_i v24]) rfl ?_
                      refine sv_ia C (n := 144) (by decide +kernel) (by rw [kv12]; rfl) (by decide) (by omega) (by omega) ?_
                      rw [ev14]
                      refine sv_icmp C.1 C.2.1 (cnd := .eq) (off := 6) (tgt := 196) (by decide +kernel) (by decide) ⟨by omega, by omega⟩ ⟨by omega, by omega⟩ (fun (h25 : v24 = v14) => ?_) (fun (h25 : ¬ (v24 = v14)) => ?_)
                      · refine sv_go C.1 C.2.1 [(.iload_n 3, 1), (.aload_n 0, 1), (.iload_n 1, 1), (.iload 4, 2)] (pc' := 201) (by decide +kernel) rfl (lv' := [(0, sv_r a), (1, sv_i v), (2, sv_i w), (3, sv_i Jg16_l3), (4, sv_i Xg1_l4), (5, sv_i Xg7_l5)]) (st' := [sv_i Xg1_l4, sv_i v, sv_r a, sv_i Jg16_l3]) rfl ?_
                        refine sv_cv C (index := 356) (k := 2) (rest := [sv_i Jg16_l3]) (ci := 10) (r := (RX11, TX11, 47)) (by decide +kernel) (sf_X11_headAt l g A ty σ hok hTA hI a k_a (v) ⟨by omega, by omega⟩ (Xg1_l4) ⟨by omega, by omega⟩) ⟨co_X11_headAt, in_X11, ⟨by decide, by decide, by decide +kernel⟩, Nat.le_of_ble_eq_true rfl, Nat.le_of_ble_eq_true rfl⟩ ml_X11_356 im_X11_headAt se_X11_headAt (by rw [k_a]; rfl) rfl rfl rfl (Nat.le_of_ble_eq_true rfl) ⟨Nat.zero_le _, Nat.zero_le _⟩ (fun r27 σ28 hpo26 hok29 => ?_)
                        obtain ⟨rfl, ⟨vu30, rfl, hvu30⟩⟩ := hpo26
                        refine sv_same (st2 := [sv_i vu30, sv_i Jg16_l3]) (lv2 := [(0, sv_r a), (1, sv_i v), (2, sv_i w), (3, sv_i Jg16_l3), (4, sv_i Xg1_l4), (5, sv_i Xg7_l5)]) rfl rfl ?_
                        refine sv_go C.1 C.2.1 [(.aload_n 0, 1), (.iload_n 1, 1), (.iload 4, 2), (.iconst 1, 1), (.iadd, 1)] (pc' := 210) (by decide +kernel) rfl (lv' := [(0, sv_r a), (1, sv_i v), (2, sv_i w), (3, sv_i Jg16_l3), (4, sv_i Xg1_l4), (5, sv_i Xg7_l5)]) (st' := [sv_i (Xg1_l4 + 1), sv_i v, sv_r a, sv_i vu30, sv_i Jg16_l3]) rfl ?_
                        refine sv_cv C (index := 356) (k := 2) (rest := [sv_i vu30, sv_i Jg16_l3]) (ci := 10) (r := (RX11, TX11, 47)) (by decide +kernel) (sf_X11_headAt l g A ty σ hok29 hTA hI a k_a (v) ⟨by omega, by omega⟩ (Xg1_l4 + 1) ⟨by omega, by omega⟩) ⟨co_X11_headAt, in_X11, ⟨by decide, by decide, by decide +kernel⟩, Nat.le_of_ble_eq_true rfl, Nat.le_of_ble_eq_true rfl⟩ ml_X11_356 im_X11_headAt se_X11_headAt (by rw [k_a]; rfl) rfl rfl rfl (Nat.le_of_ble_eq_true rfl) ⟨Nat.zero_le _, Nat.zero_le _⟩ (fun r32 σ33 hpo31 hok34 => ?_)
                        obtain ⟨rfl, ⟨vu35, rfl, hvu35⟩⟩ := hpo31
                        refine sv_same (st2 := [sv_i vu35, sv_i vu30, sv_i Jg16_l3]) (lv2 := [(0, sv_r a), (1, sv_i v), (2, sv_i w), (3, sv_i Jg16_l3), (4, sv_i Xg1_l4), (5, sv_i Xg7_l5)]) rfl rfl ?_
                        refine sv_go C.1 C.2.1 [(.aload_n 0, 1)] (pc' := 214) (by decide +kernel) rfl (lv' := [(0, sv_r a), (1, sv_i v), (2, sv_i w), (3, sv_i Jg16_l3), (4, sv_i Xg1_l4), (5, sv_i Xg7_l5)]) (st' := [sv_r a, sv_i vu35, sv_i vu30, sv_i Jg16_l3]) rfl ?_
                        obtain ⟨v36, ev36, kv36⟩ := hI.ref (k := 44) k_a rfl
                        refine sv_gf C (index := 157) (ci := 10) (k := 44) (r := (RX11, TX11, 47)) (v := sv_r v36) (by decide +kernel) (by rw [k_a]; rfl) rfl (by decide) fl_X11_157 (congrArg sv_a ev36) ?_
                        refine sv_go C.1 C.2.1 [(.iload_n 1, 1)] (pc' := 218) (by decide +kernel) rfl (lv' := [(0, sv_r a), (1, sv_i v), (2, sv_i w), (3, sv_i Jg16_l3), (4, sv_i Xg1_l4), (5, sv_i Xg7_l5)]) (st' := [sv_i v, sv_r v36, sv_i vu35, sv_i vu30, sv_i Jg16_l3]) rfl ?_
                        refine sv_ia C (n := 12) (by decide +kernel) (by rw [kv36]; rfl) (by decide) (by omega) (by omega) ?_
                        obtain ⟨v37, ev37, hv37⟩ := sv_rdn hI (k := (v : Int).toNat) kv36 rfl
                        rw [ev37]
                        refine sv_go C.1 C.2.1 [(.iadd, 1), (.aload_n 0, 1), (.iload_n 2, 1), (.iload 5, 2)] (pc' := 224) (by decide +kernel) rfl (lv' := [(0, sv_r a), (1, sv_i v), (2, sv_i w), (3, sv_i Jg16_l3), (4, sv_i Xg1_l4), (5, sv_i Xg7_l5)]) (st' := [sv_i Xg7_l5, sv_i w, sv_r a, sv_i (vu35 + v37), sv_i vu30, sv_i Jg16_l3]) rfl ?_
                        refine sv_cv C (index := 356) (k := 2) (rest := [sv_i (vu35 + v37), sv_i vu30, sv_i Jg16_l3]) (ci := 10) (r := (RX11, TX11, 47)) (by decide +kernel) (sf_X11_headAt l g A ty σ hok34 hTA hI a k_a (w) ⟨by omega, by omega⟩ (Xg7_l5) ⟨by omega, by omega⟩) ⟨co_X11_headAt, in_X11, ⟨by decide, by decide, by decide +kernel⟩, Nat.le_of_ble_eq_true rfl, Nat.le_of_ble_eq_true rfl⟩ ml_X11_356 im_X11_headAt se_X11_headAt (by rw [k_a]; rfl) rfl rfl rfl (Nat.le_of_ble_eq_true rfl) ⟨Nat.zero_le _, Nat.zero_le _⟩ (fun r39 σ40 hpo38 hok41 => ?_)
                        obtain ⟨rfl, ⟨vu42, rfl, hvu42⟩⟩ := hpo38
                        refine sv_same (st2 := [sv_i vu42, sv_i (vu35 + v37), sv_i vu30, sv_i Jg16_l3]) (lv2 := [(0, sv_r a), (1, sv_i v), (2, sv_i w), (3, sv_i Jg16_l3), (4, sv_i Xg1_l4), (5, sv_i Xg7_l5)]) rfl rfl ?_
                        refine sv_go C.1 C.2.1 [(.aload_n 0, 1), (.iload_n 2, 1), (.iload 5, 2), (.iconst 1, 1), (.iadd, 1)] (pc' := 233) (by decide +kernel) rfl (lv' := [(0, sv_r a), (1, sv_i v), (2, sv_i w), (3, sv_i Jg16_l3), (4, sv_i Xg1_l4), (5, sv_i Xg7_l5)]) (st' := [sv_i (Xg7_l5 + 1), sv_i w, sv_r a, sv_i vu42, sv_i (vu35 + v37), sv_i vu30, sv_i Jg16_l3]) rfl ?_
                        refine sv_cv C (index := 356) (k := 2) (rest := [sv_i vu42, sv_i (vu35 + v37), sv_i vu30, sv_i Jg16_l3]) (ci := 10) (r := (RX11, TX11, 47)) (by decide +kernel) (sf_X11_headAt l g A ty σ hok41 hTA hI a k_a (w) ⟨by omega, by omega⟩ (Xg7_l5 + 1) ⟨by omega, by omega⟩) ⟨co_X11_headAt, in_X11, ⟨by decide, by decide, by decide +kernel⟩, Nat.le_of_ble_eq_true rfl, Nat.le_of_ble_eq_true rfl⟩ ml_X11_356 im_X11_headAt se_X11_headAt (by rw [k_a]; rfl) rfl rfl rfl (Nat.le_of_ble_eq_true rfl) ⟨Nat.zero_le _, Nat.zero_le _⟩ (fun r44 σ45 hpo43 hok46 => ?_)
                        obtain ⟨rfl, ⟨vu47, rfl, hvu47⟩⟩ := hpo43
                        refine sv_same (st2 := [sv_i vu47, sv_i vu42, sv_i (vu35 + v37), sv_i vu30, sv_i Jg16_l3]) (lv2 := [(0, sv_r a), (1, sv_i v), (2, sv_i w), (3, sv_i Jg16_l3), (4, sv_i Xg1_l4), (5, sv_i Xg7_l5)]) rfl rfl ?_
                        refine sv_go C.1 C.2.1 [(.aload_n 0, 1)] (pc' := 237) (by decide +kernel) rfl (lv' := [(0, sv_r a), (1, sv_i v), (2, sv_i w), (3, sv_i Jg16_l3), (4, sv_i Xg1_l4), (5, sv_i Xg7_l5)]) (st' := [sv_r a, sv_i vu47, sv_i vu42, sv_i (vu35 + v37), sv_i vu30, sv_i Jg16_l3]) rfl ?_
                        refine sv_gf C (index := 157) (ci := 10) (k := 44) (r := (RX11, TX11, 47)) (v := sv_r v36) (by decide +kernel) (by rw [k_a]; rfl) rfl (by decide) fl_X11_157 (congrArg sv_a ev36) ?_
                        refine sv_go C.1 C.2.1 [(.iload_n 2, 1)] (pc' := 241) (by decide +kernel) rfl (lv' := [(0, sv_r a), (1, sv_i v), (2, sv_i w), (3, sv_i Jg16_l3), (4, sv_i Xg1_l4), (5, sv_i Xg7_l5)]) (st' := [sv_i w, sv_r v36, sv_i vu47, sv_i vu42, sv_i (vu35 + v37), sv_i vu30, sv_i Jg16_l3]) rfl ?_
                        refine sv_ia C (n := 12) (by decide +kernel) (by rw [kv36]; rfl) (by decide) (by omega) (by omega) ?_
                        obtain ⟨v48, ev48, hv48⟩ := sv_rdn hI (k := (w : Int).toNat) kv36 rfl
                        rw [ev48]
                        refine sv_go C.1 C.2.1 [(.iadd, 1)] (pc' := 243) (by decide +kernel) rfl (lv' := [(0, sv_r a), (1, sv_i v), (2, sv_i w), (3, sv_i Jg16_l3), (4, sv_i Xg1_l4), (5, sv_i Xg7_l5)]) (st' := [sv_i (vu47 + v48), sv_i vu42, sv_i (vu35 + v37), sv_i vu30, sv_i Jg16_l3]) rfl ?_
                        obtain ⟨w49, hw49, ew49⟩ := sv_wr (vu47 + v48)
                        refine sv_sameD (st2 := [sv_i w49, sv_i vu42, sv_i (vu35 + v37), sv_i vu30, sv_i Jg16_l3]) (lv2 := [(0, sv_r a), (1, sv_i v), (2, sv_i w), (3, sv_i Jg16_l3), (4, sv_i Xg1_l4), (5, sv_i Xg7_l5)]) (by simp only [List.map_cons, List.map_nil, sv_den_i, ew49]) rfl ?_
                        obtain ⟨w50, hw50, ew50⟩ := sv_wr (vu35 + v37)
                        refine sv_sameD (st2 := [sv_i w49, sv_i vu42, sv_i w50, sv_i vu30, sv_i Jg16_l3]) (lv2 := [(0, sv_r a), (1, sv_i v), (2, sv_i w), (3, sv_i Jg16_l3), (4, sv_i Xg1_l4), (5, sv_i Xg7_l5)]) (by simp only [List.map_cons, List.map_nil, sv_den_i, ew50]) rfl ?_
                        refine sv_cs C (index := 360) (k := 4) (rest := [sv_i Jg16_l3]) (by decide +kernel) (sf_X11_together l g A ty σ hok46 hTA hI (vu30) ⟨by omega, by omega⟩ (w50) ⟨by omega, by omega⟩ (vu42) ⟨by omega, by omega⟩ (w49) ⟨by omega, by omega⟩) ⟨co_X11_together, in_X11, ⟨by decide, by decide, by decide +kernel⟩, Nat.le_of_ble_eq_true rfl, Nat.le_of_ble_eq_true rfl⟩ ml_X11_360 st_X11_together rfl rfl (Nat.le_of_ble_eq_true rfl) ⟨Nat.zero_le _, Nat.zero_le _⟩ (fun r52 σ53 hpo51 hok54 => ?_)
                        obtain ⟨rfl, ⟨vu55, rfl, hvu55⟩⟩ := hpo51
                        refine sv_same (st2 := [sv_i vu55, sv_i Jg16_l3]) (lv2 := [(0, sv_r a), (1, sv_i v), (2, sv_i w), (3, sv_i Jg16_l3), (4, sv_i Xg1_l4), (5, sv_i Xg7_l5)]) rfl rfl ?_
                        refine sv_min C (index := 331) (by decide +kernel) ml_X11_331 ⟨by omega, by omega⟩ ⟨by omega, by omega⟩ (Nat.le_of_ble_eq_true rfl) (Nat.le_of_ble_eq_true rfl) ⟨Nat.zero_le _, Nat.zero_le _⟩ ?_
                        obtain ⟨mm56, hmm56⟩ : ∃ q : Int, q = (if (vu55 : Int) < Jg16_l3 then vu55 else Jg16_l3) := ⟨_, rfl⟩
                        refine sv_same (st2 := [sv_i mm56]) (lv2 := [(0, sv_r a), (1, sv_i v), (2, sv_i w), (3, sv_i Jg16_l3), (4, sv_i Xg1_l4), (5, sv_i Xg7_l5)]) (by rw [hmm56]) rfl ?_
                        refine sv_go C.1 C.2.1 [(.istore_n 3, 1)] (pc' := 250) (by decide +kernel) rfl (lv' := [(0, sv_r a), (1, sv_i v), (2, sv_i w), (3, sv_i mm56), (4, sv_i Xg1_l4), (5, sv_i Xg7_l5)]) (st' := []) rfl ?_
                        exact J20 mm56 ⟨by omega, by omega⟩
                      · refine sv_goto C.1 C.2.1 (off := 57) (tgt := 250) (by decide +kernel) (by decide) ?_
                        exact J20 Jg16_l3 ⟨by omega, by omega⟩
              refine sv_icmp C.1 C.2.1 (cnd := .ne) (off := 53) (tgt := 109) (by decide +kernel) (by decide) ⟨by omega, by omega⟩ ⟨by omega, by omega⟩ (fun (h15 : v13 ≠ v14) => ?_) (fun (h15 : ¬ (v13 ≠ v14)) => ?_)
              · exact J17 Xg7_l3 ⟨by omega, by omega⟩
              · refine sv_go C.1 C.2.1 [(.iload_n 3, 1), (.aload_n 0, 1), (.iload_n 1, 1), (.iload 4, 2)] (pc' := 64) (by decide +kernel) rfl (lv' := [(0, sv_r a), (1, sv_i v), (2, sv_i w), (3, sv_i Xg7_l3), (4, sv_i Xg1_l4), (5, sv_i Xg7_l5)]) (st' := [sv_i Xg1_l4, sv_i v, sv_r a, sv_i Xg7_l3]) rfl ?_
                refine sv_cv C (index := 356) (k := 2) (rest := [sv_i Xg7_l3]) (ci := 10) (r := (RX11, TX11, 47)) (by decide +kernel) (sf_X11_headAt l g A ty σ hok hTA hI a k_a (v) ⟨by omega, by omega⟩ (Xg1_l4) ⟨by omega, by omega⟩) ⟨co_X11_headAt, in_X11, ⟨by decide, by decide, by decide +kernel⟩, Nat.le_of_ble_eq_true rfl, Nat.le_of_ble_eq_true rfl⟩ ml_X11_356 im_X11_headAt se_X11_headAt (by rw [k_a]; rfl) rfl rfl rfl (Nat.le_of_ble_eq_true rfl) ⟨Nat.zero_le _, Nat.zero_le _⟩ (fun r58 σ59 hpo57 hok60 => ?_)
                obtain ⟨rfl, ⟨vu61, rfl, hvu61⟩⟩ := hpo57
                refine sv_same (st2 := [sv_i vu61, sv_i Xg7_l3]) (lv2 := [(0, sv_r a), (1, sv_i v), (2, sv_i w), (3, sv_i Xg7_l3), (4, sv_i Xg1_l4), (5, sv_i Xg7_l5)]) rfl rfl ?_
                refine sv_go C.1 C.2.1 [(.aload_n 0, 1), (.iload_n 1, 1), (.iload 4, 2)] (pc' := 71) (by decide +kernel) rfl (lv' := [(0, sv_r a), (1, sv_i v), (2, sv_i w), (3, sv_i Xg7_l3), (4, sv_i Xg1_l4), (5, sv_i Xg7_l5)]) (st' := [sv_i Xg1_l4, sv_i v, sv_r a, sv_i vu61, sv_i Xg7_l3]) rfl ?_
                refine sv_cv C (index := 356) (k := 2) (rest := [sv_i vu61, sv_i Xg7_l3]) (ci := 10) (r := (RX11, TX11, 47)) (by decide +kernel) (sf_X11_headAt l g A ty σ hok60 hTA hI a k_a (v) ⟨by omega, by omega⟩ (Xg1_l4) ⟨by omega, by omega⟩) ⟨co_X11_headAt, in_X11, ⟨by decide, by decide, by decide +kernel⟩, Nat.le_of_ble_eq_true rfl, Nat.le_of_ble_eq_true rfl⟩ ml_X11_356 im_X11_headAt se_X11_headAt (by rw [k_a]; rfl) rfl rfl rfl (Nat.le_of_ble_eq_true rfl) ⟨Nat.zero_le _, Nat.zero_le _⟩ (fun r63 σ64 hpo62 hok65 => ?_)
                obtain ⟨rfl, ⟨vu66, rfl, hvu66⟩⟩ := hpo62
                refine sv_same (st2 := [sv_i vu66, sv_i vu61, sv_i Xg7_l3]) (lv2 := [(0, sv_r a), (1, sv_i v), (2, sv_i w), (3, sv_i Xg7_l3), (4, sv_i Xg1_l4), (5, sv_i Xg7_l5)]) rfl rfl ?_
                refine sv_go C.1 C.2.1 [(.aload_n 0, 1)] (pc' := 75) (by decide +kernel) rfl (lv' := [(0, sv_r a), (1, sv_i v), (2, sv_i w), (3, sv_i Xg7_l3), (4, sv_i Xg1_l4), (5, sv_i Xg7_l5)]) (st' := [sv_r a, sv_i vu66, sv_i vu61, sv_i Xg7_l3]) rfl ?_
                obtain ⟨v67, ev67, kv67⟩ := hI.ref (k := 44) k_a rfl
                refine sv_gf C (index := 157) (ci := 10) (k := 44) (r := (RX11, TX11, 47)) (v := sv_r v67) (by decide +kernel) (by rw [k_a]; rfl) rfl (by decide) fl_X11_157 (congrArg sv_a ev67) ?_
                refine sv_go C.1 C.2.1 [(.iload_n 1, 1)] (pc' := 79) (by decide +kernel) rfl (lv' := [(0, sv_r a), (1, sv_i v), (2, sv_i w), (3, sv_i Xg7_l3), (4, sv_i Xg1_l4), (5, sv_i Xg7_l5)]) (st' := [sv_i v, sv_r v67, sv_i vu66, sv_i vu61, sv_i Xg7_l3]) rfl ?_
                refine sv_ia C (n := 12) (by decide +kernel) (by rw [kv67]; rfl) (by decide) (by omega) (by omega) ?_
                obtain ⟨v68, ev68, hv68⟩ := sv_rdn hI (k := (v : Int).toNat) kv67 rfl
                rw [ev68]
                refine sv_go C.1 C.2.1 [(.iadd, 1), (.aload_n 0, 1), (.iload_n 2, 1), (.iload 5, 2)] (pc' := 85) (by decide +kernel) rfl (lv' := [(0, sv_r a), (1, sv_i v), (2, sv_i w), (3, sv_i Xg7_l3), (4, sv_i Xg1_l4), (5, sv_i Xg7_l5)]) (st' := [sv_i Xg7_l5, sv_i w, sv_r a, sv_i (vu66 + v68), sv_i vu61, sv_i Xg7_l3]) rfl ?_
                refine sv_cv C (index := 356) (k := 2) (rest := [sv_i (vu66 + v68), sv_i vu61, sv_i Xg7_l3]) (ci := 10) (r := (RX11, TX11, 47)) (by decide +kernel) (sf_X11_headAt l g A ty σ hok65 hTA hI a k_a (w) ⟨by omega, by omega⟩ (Xg7_l5) ⟨by omega, by omega⟩) ⟨co_X11_headAt, in_X11, ⟨by decide, by decide, by decide +kernel⟩, Nat.le_of_ble_eq_true rfl, Nat.le_of_ble_eq_true rfl⟩ ml_X11_356 im_X11_headAt se_X11_headAt (by rw [k_a]; rfl) rfl rfl rfl (Nat.le_of_ble_eq_true rfl) ⟨Nat.zero_le _, Nat.zero_le _⟩ (fun r70 σ71 hpo69 hok72 => ?_)
                obtain ⟨rfl, ⟨vu73, rfl, hvu73⟩⟩ := hpo69
                refine sv_same (st2 := [sv_i vu73, sv_i (vu66 + v68), sv_i vu61, sv_i Xg7_l3]) (lv2 := [(0, sv_r a), (1, sv_i v), (2, sv_i w), (3, sv_i Xg7_l3), (4, sv_i Xg1_l4), (5, sv_i Xg7_l5)]) rfl rfl ?_
                refine sv_go C.1 C.2.1 [(.aload_n 0, 1), (.iload_n 2, 1), (.iload 5, 2)] (pc' := 92) (by decide +kernel) rfl (lv' := [(0, sv_r a), (1, sv_i v), (2, sv_i w), (3, sv_i Xg7_l3), (4, sv_i Xg1_l4), (5, sv_i Xg7_l5)]) (st' := [sv_i Xg7_l5, sv_i w, sv_r a, sv_i vu73, sv_i (vu66 + v68), sv_i vu61, sv_i Xg7_l3]) rfl ?_
                refine sv_cv C (index := 356) (k := 2) (rest := [sv_i vu73, sv_i (vu66 + v68), sv_i vu61, sv_i Xg7_l3]) (ci := 10) (r := (RX11, TX11, 47)) (by decide +kernel) (sf_X11_headAt l g A ty σ hok72 hTA hI a k_a (w) ⟨by omega, by omega⟩ (Xg7_l5) ⟨by omega, by omega⟩) ⟨co_X11_headAt, in_X11, ⟨by decide, by decide, by decide +kernel⟩, Nat.le_of_ble_eq_true rfl, Nat.le_of_ble_eq_true rfl⟩ ml_X11_356 im_X11_headAt se_X11_headAt (by rw [k_a]; rfl) rfl rfl rfl (Nat.le_of_ble_eq_true rfl) ⟨Nat.zero_le _, Nat.zero_le _⟩ (fun r75 σ76 hpo74 hok77 => ?_)
                obtain ⟨rfl, ⟨vu78, rfl, hvu78⟩⟩ := hpo74
                refine sv_same (st2 := [sv_i vu78, sv_i vu73, sv_i (vu66 + v68), sv_i vu61, sv_i Xg7_l3]) (lv2 := [(0, sv_r a), (1, sv_i v), (2, sv_i w), (3, sv_i Xg7_l3), (4, sv_i Xg1_l4), (5, sv_i Xg7_l5)]) rfl rfl ?_
                refine sv_go C.1 C.2.1 [(.aload_n 0, 1)] (pc' := 96) (by decide +kernel) rfl (lv' := [(0, sv_r a), (1, sv_i v), (2, sv_i w), (3, sv_i Xg7_l3), (4, sv_i Xg1_l4), (5, sv_i Xg7_l5)]) (st' := [sv_r a, sv_i vu78, sv_i vu73, sv_i (vu66 + v68), sv_i vu61, sv_i Xg7_l3]) rfl ?_
                refine sv_gf C (index := 157) (ci := 10) (k := 44) (r := (RX11, TX11, 47)) (v := sv_r v67) (by decide +kernel) (by rw [k_a]; rfl) rfl (by decide) fl_X11_157 (congrArg sv_a ev67) ?_
                refine sv_go C.1 C.2.1 [(.iload_n 2, 1)] (pc' := 100) (by decide +kernel) rfl (lv' := [(0, sv_r a), (1, sv_i v), (2, sv_i w), (3, sv_i Xg7_l3), (4, sv_i Xg1_l4), (5, sv_i Xg7_l5)]) (st' := [sv_i w, sv_r v67, sv_i vu78, sv_i vu73, sv_i (vu66 + v68), sv_i vu61, sv_i Xg7_l3]) rfl ?_
                refine sv_ia C (n := 12) (by decide +kernel) (by rw [kv67]; rfl) (by decide) (by omega) (by omega) ?_
                obtain ⟨v79, ev79, hv79⟩ := sv_rdn hI (k := (w : Int).toNat) kv67 rfl
                rw [ev79]
                refine sv_go C.1 C.2.1 [(.iadd, 1)] (pc' := 102) (by decide +kernel) rfl (lv' := [(0, sv_r a), (1, sv_i v), (2, sv_i w), (3, sv_i Xg7_l3), (4, sv_i Xg1_l4), (5, sv_i Xg7_l5)]) (st' := [sv_i (vu78 + v79), sv_i vu73, sv_i (vu66 + v68), sv_i vu61, sv_i Xg7_l3]) rfl ?_
                obtain ⟨w80, hw80, ew80⟩ := sv_wr (vu78 + v79)
                refine sv_sameD (st2 := [sv_i w80, sv_i vu73, sv_i (vu66 + v68), sv_i vu61, sv_i Xg7_l3]) (lv2 := [(0, sv_r a), (1, sv_i v), (2, sv_i w), (3, sv_i Xg7_l3), (4, sv_i Xg1_l4), (5, sv_i Xg7_l5)]) (by simp only [List.map_cons, List.map_nil, sv_den_i, ew80]) rfl ?_
                obtain ⟨w81, hw81, ew81⟩ := sv_wr (vu66 + v68)
                refine sv_sameD (st2 := [sv_i w80, sv_i vu73, sv_i w81, sv_i vu61, sv_i Xg7_l3]) (lv2 := [(0, sv_r a), (1, sv_i v), (2, sv_i w), (3, sv_i Xg7_l3), (4, sv_i Xg1_l4), (5, sv_i Xg7_l5)]) (by simp only [List.map_cons, List.map_nil, sv_den_i, ew81]) rfl ?_
                refine sv_cs C (index := 360) (k := 4) (rest := [sv_i Xg7_l3]) (by decide +kernel) (sf_X11_together l g A ty σ hok77 hTA hI (vu61) ⟨by omega, by omega⟩ (w81) ⟨by omega, by omega⟩ (vu73) ⟨by omega, by omega⟩ (w80) ⟨by omega, by omega⟩) ⟨co_X11_together, in_X11, ⟨by decide, by decide, by decide +kernel⟩, Nat.le_of_ble_eq_true rfl, Nat.le_of_ble_eq_true rfl⟩ ml_X11_360 st_X11_together rfl rfl (Nat.le_of_ble_eq_true rfl) ⟨Nat.zero_le _, Nat.zero_le _⟩ (fun r83 σ84 hpo82 hok85 => ?_)
                obtain ⟨rfl, ⟨vu86, rfl, hvu86⟩⟩ := hpo82
                refine sv_same (st2 := [sv_i vu86, sv_i Xg7_l3]) (lv2 := [(0, sv_r a), (1, sv_i v), (2, sv_i w), (3, sv_i Xg7_l3), (4, sv_i Xg1_l4), (5, sv_i Xg7_l5)]) rfl rfl ?_
                refine sv_min C (index := 331) (by decide +kernel) ml_X11_331 ⟨by omega, by omega⟩ ⟨by omega, by omega⟩ (Nat.le_of_ble_eq_true rfl) (Nat.le_of_ble_eq_true rfl) ⟨Nat.zero_le _, Nat.zero_le _⟩ ?_
                obtain ⟨mm87, hmm87⟩ : ∃ q : Int, q = (if (vu86 : Int) < Xg7_l3 then vu86 else Xg7_l3) := ⟨_, rfl⟩
                refine sv_same (st2 := [sv_i mm87]) (lv2 := [(0, sv_r a), (1, sv_i v), (2, sv_i w), (3, sv_i Xg7_l3), (4, sv_i Xg1_l4), (5, sv_i Xg7_l5)]) (by rw [hmm87]) rfl ?_
                refine sv_go C.1 C.2.1 [(.istore_n 3, 1)] (pc' := 109) (by decide +kernel) rfl (lv' := [(0, sv_r a), (1, sv_i v), (2, sv_i w), (3, sv_i mm87), (4, sv_i Xg1_l4), (5, sv_i Xg7_l5)]) (st' := []) rfl ?_
                exact J17 mm87 ⟨by omega, by omega⟩
        exact L8 (((12 - 0 : Int)).toNat + 1) Xg1_l3 0 ⟨by omega, by omega⟩ ⟨by omega, by omega⟩ (by omega)
  exact L2 (((12 - 0 : Int)).toNat + 1) 268435456 0 ⟨by omega, by omega⟩ ⟨by omega, by omega⟩ (by omega)

set_option maxHeartbeats 4000000 in
set_option maxRecDepth 100000 in
theorem sf_X11_isGoing (l : Launch) (g : sv_G) (A : Nat → Prop) (ty : Nat → Nat) (σ : Nat → Nat → Int) (hok : sv_ok ty σ) (hTA : ∀ q, ty q ≠ 0 → A q) (hI : sv_inv sp_1 ty σ) (a : Nat) (k_a : ty a = 10) (v : Int) (h_v : (-2147483648) ≤ v ∧ v ≤ 2147483647) : sv_M l yX11_isGoing cX11_isGoing 2 (some .boolean) { frames := 2, cells := 0, slots := 0, locals := 45 } g A ty σ [sv_r a, sv_i v] (fun r σ' => σ = σ' ∧ ∃ rv : Int, r = [sv_i rv] ∧ (0 ≤ rv ∧ rv ≤ 1) ∧ (1 ≤ rv → rv ≤ 1 → 0 ≤ v ∧ v ≤ 11)) := by
  refine sv_enter (by decide) (Nat.le_of_ble_eq_true rfl) ?_
  intro p e s m args below meth c C hr
  have C : sv_C g A RX11 cX11_isGoing 2 p s m args meth c := C
  have hr : meth.sig.returnType = (some .boolean) := hr
  have hF : sv_ofx [] [] ty σ σ := sv_ofx.rf
  refine sv_same (st2 := []) (lv2 := [(0, sv_r a), (1, sv_i v)]) rfl rfl ?_
  refine sv_go C.1 C.2.1 [(.iload_n 1, 1)] (pc' := 1) (by decide +kernel) rfl (lv' := [(0, sv_r a), (1, sv_i v)]) (st' := [sv_i v]) rfl ?_
  refine sv_cs C (index := 345) (k := 1) (rest := []) (by decide +kernel) (sf_X11_isWalk l g A ty σ hok hTA hI (v) ⟨by omega, by omega⟩) ⟨co_X11_isWalk, in_X11, ⟨by decide, by decide, by decide +kernel⟩, Nat.le_of_ble_eq_true rfl, Nat.le_of_ble_eq_true rfl⟩ ml_X11_345 st_X11_isWalk rfl rfl (Nat.le_of_ble_eq_true rfl) ⟨Nat.zero_le _, Nat.zero_le _⟩ (fun r2 σ3 hpo1 hok4 => ?_)
  obtain ⟨rfl, ⟨vu5, rfl, hvu5, ivu5_0⟩⟩ := hpo1
  refine sv_same (st2 := [sv_i vu5]) (lv2 := [(0, sv_r a), (1, sv_i v)]) rfl rfl ?_
  refine sv_if C.1 C.2.1 (cnd := .eq) (off := 17) (tgt := 21) (by decide +kernel) (by decide) ⟨by omega, by omega⟩ (fun (h6 : vu5 = 0) => ?_) (fun (h6 : ¬ (vu5 = 0)) => ?_)
  · refine sv_go C.1 C.2.1 [(.iconst 0, 1)] (pc' := 22) (by decide +kernel) rfl (lv' := [(0, sv_r a), (1, sv_i v)]) (st' := [sv_i 0]) rfl ?_
    exact sv_zret C hr (by omega) (by decide +kernel) hok4 (⟨rfl, ⟨_, rfl, ⟨by omega, by omega⟩, fun _ _ => (by omega)⟩⟩)
  · have hp7 := ivu5_0 (by omega) (by omega)
    refine sv_go C.1 C.2.1 [(.aload_n 0, 1)] (pc' := 8) (by decide +kernel) rfl (lv' := [(0, sv_r a), (1, sv_i v)]) (st' := [sv_r a]) rfl ?_
    obtain ⟨v8, ev8, kv8⟩ := hI.ref (k := 42) k_a rfl
    refine sv_gf C (index := 151) (ci := 10) (k := 42) (r := (RX11, TX11, 47)) (v := sv_r v8) (by decide +kernel) (by rw [k_a]; rfl) rfl (by decide) fl_X11_151 (congrArg sv_a ev8) ?_
    refine sv_go C.1 C.2.1 [(.iload_n 1, 1)] (pc' := 12) (by decide +kernel) rfl (lv' := [(0, sv_r a), (1, sv_i v)]) (st' := [sv_i v, sv_r v8]) rfl ?_
    refine sv_ia C (n := 12) (by decide +kernel) (by rw [kv8]; rfl) (by decide) (by omega) (by omega) ?_
    obtain ⟨v9, ev9, hv9⟩ := sv_rdn hI (k := (v : Int).toNat) kv8 rfl
    rw [ev9]
    refine sv_go C.1 C.2.1 [(.iconst 1, 1)] (pc' := 14) (by decide +kernel) rfl (lv' := [(0, sv_r a), (1, sv_i v)]) (st' := [sv_i 1, sv_i v9]) rfl ?_
    refine sv_icmp C.1 C.2.1 (cnd := .le) (off := 7) (tgt := 21) (by decide +kernel) (by decide) ⟨by omega, by omega⟩ ⟨by omega, by omega⟩ (fun (h10 : v9 ≤ 1) => ?_) (fun (h10 : ¬ (v9 ≤ 1)) => ?_)
    · refine sv_go C.1 C.2.1 [(.iconst 0, 1)] (pc' := 22) (by decide +kernel) rfl (lv' := [(0, sv_r a), (1, sv_i v)]) (st' := [sv_i 0]) rfl ?_
      exact sv_zret C hr (by omega) (by decide +kernel) hok4 (⟨rfl, ⟨_, rfl, ⟨by omega, by omega⟩, fun _ _ => (by omega)⟩⟩)
    · refine sv_go C.1 C.2.1 [(.iconst 1, 1)] (pc' := 18) (by decide +kernel) rfl (lv' := [(0, sv_r a), (1, sv_i v)]) (st' := [sv_i 1]) rfl ?_
      refine sv_goto C.1 C.2.1 (off := 4) (tgt := 22) (by decide +kernel) (by decide) ?_
      exact sv_zret C hr (by omega) (by decide +kernel) hok4 (⟨rfl, ⟨_, rfl, ⟨by omega, by omega⟩, fun _ _ => (by omega)⟩⟩)

theorem ml_X11_367 : Cond.methodLink RX11 367 yX11_isGoing ∈ lw_good := sv_mem 1486 (by decide +kernel) rfl
theorem co_X11_isGoing : Cond.code yX11_isGoing cX11_isGoing 2 (some .boolean) ∈ lw_good := sv_mem 1489 (by decide +kernel) rfl
theorem im_X11_isGoing : Cond.instanceMethod yX11_isGoing ∈ lw_good := sv_mem 1488 (by decide +kernel) rfl
theorem se_X11_isGoing : Cond.selects RX11 yX11_isGoing yX11_isGoing ∈ lw_good := sv_mem 69 (by decide +kernel) rfl
theorem ml_X11_370 : Cond.methodLink RX11 370 yX11_meet ∈ lw_good := sv_mem 1490 (by decide +kernel) rfl
theorem co_X11_meet : Cond.code yX11_meet cX11_meet 6 (some .int) ∈ lw_good := sv_mem 1493 (by decide +kernel) rfl
theorem im_X11_meet : Cond.instanceMethod yX11_meet ∈ lw_good := sv_mem 1492 (by decide +kernel) rfl
theorem se_X11_meet : Cond.selects RX11 yX11_meet yX11_meet ∈ lw_good := sv_mem 70 (by decide +kernel) rfl
set_option maxHeartbeats 4000000 in
set_option maxRecDepth 100000 in
theorem sf_X11_meeting (l : Launch) (g : sv_G) (A : Nat → Prop) (ty : Nat → Nat) (σ : Nat → Nat → Int) (hok : sv_ok ty σ) (hTA : ∀ q, ty q ≠ 0 → A q) (hI : sv_inv sp_1 ty σ) (a : Nat) (k_a : ty a = 10) (ar1 : Int) (h_ar1 : (-2147483648) ≤ ar1 ∧ ar1 ≤ 2147483647) (ar2 : Int) (h_ar2 : (-2147483648) ≤ ar2 ∧ ar2 ≤ 2147483647) : sv_M l yX11_meeting cX11_meeting 4 (some .int) { frames := 3, cells := 0, slots := 0, locals := 70 } g A ty σ [sv_r a, sv_i ar1, sv_i ar2] (fun r σ' => σ = σ' ∧ ∃ rv : Int, r = [sv_i rv] ∧ ((-2147483648) ≤ rv ∧ rv ≤ 268435455)) := by
  refine sv_enter (by decide) (Nat.le_of_ble_eq_true rfl) ?_
  intro p e s m args below meth c C hr
  have C : sv_C g A RX11 cX11_meeting 4 p s m args meth c := C
  have hr : meth.sig.returnType = (some .int) := hr
  have hF : sv_ofx [] [] ty σ σ := sv_ofx.rf
  refine sv_same (st2 := []) (lv2 := [(0, sv_r a), (1, sv_i ar1), (2, sv_i ar2)]) rfl rfl ?_
  refine sv_go C.1 C.2.1 [(.aload_n 0, 1), (.iload_n 1, 1)] (pc' := 2) (by decide +kernel) rfl (lv' := [(0, sv_r a), (1, sv_i ar1), (2, sv_i ar2)]) (st' := [sv_i ar1, sv_r a]) rfl ?_
  refine sv_cv C (index := 367) (k := 1) (rest := []) (ci := 10) (r := (RX11, TX11, 47)) (by decide +kernel) (sf_X11_isGoing l g A ty σ hok hTA hI a k_a (ar1) ⟨by omega, by omega⟩) ⟨co_X11_isGoing, in_X11, ⟨by decide, by decide, by decide +kernel⟩, Nat.le_of_ble_eq_true rfl, Nat.le_of_ble_eq_true rfl⟩ ml_X11_367 im_X11_isGoing se_X11_isGoing (by rw [k_a]; rfl) rfl rfl rfl (Nat.le_of_ble_eq_true rfl) ⟨Nat.zero_le _, Nat.zero_le _⟩ (fun r2 σ3 hpo1 hok4 => ?_)
  obtain ⟨rfl, ⟨vu5, rfl, hvu5, ivu5_0⟩⟩ := hpo1
  refine sv_same (st2 := [sv_i vu5]) (lv2 := [(0, sv_r a), (1, sv_i ar1), (2, sv_i ar2)]) rfl rfl ?_
  refine sv_if C.1 C.2.1 (cnd := .eq) (off := 16) (tgt := 21) (by decide +kernel) (by decide) ⟨by omega, by omega⟩ (fun (h6 : vu5 = 0) => ?_) (fun (h6 : ¬ (vu5 = 0)) => ?_)
  · refine sv_go C.1 C.2.1 [(.bipush (-2), 2)] (pc' := 23) (by decide +kernel) rfl (lv' := [(0, sv_r a), (1, sv_i ar1), (2, sv_i ar2)]) (st' := [sv_i ((-2))]) rfl ?_
    exact sv_iret C hr (by decide +kernel) hok4 (⟨rfl, ⟨_, rfl, ⟨by omega, by omega⟩⟩⟩)
  · have hp7 := ivu5_0 (by omega) (by omega)
    refine sv_go C.1 C.2.1 [(.aload_n 0, 1), (.iload_n 2, 1)] (pc' := 10) (by decide +kernel) rfl (lv' := [(0, sv_r a), (1, sv_i ar1), (2, sv_i ar2)]) (st' := [sv_i ar2, sv_r a]) rfl ?_
    refine sv_cv C (index := 367) (k := 1) (rest := []) (ci := 10) (r := (RX11, TX11, 47)) (by decide +kernel) (sf_X11_isGoing l g A ty σ hok4 hTA hI a k_a (ar2) ⟨by omega, by omega⟩) ⟨co_X11_isGoing, in_X11, ⟨by decide, by decide, by decide +kernel⟩, Nat.le_of_ble_eq_true rfl, Nat.le_of_ble_eq_true rfl⟩ ml_X11_367 im_X11_isGoing se_X11_isGoing (by rw [k_a]; rfl) rfl rfl rfl (Nat.le_of_ble_eq_true rfl) ⟨Nat.zero_le _, Nat.zero_le _⟩ (fun r9 σ10 hpo8 hok11 => ?_)
    obtain ⟨rfl, ⟨vu12, rfl, hvu12, ivu12_0⟩⟩ := hpo8
    refine sv_same (st2 := [sv_i vu12]) (lv2 := [(0, sv_r a), (1, sv_i ar1), (2, sv_i ar2)]) rfl rfl ?_
    refine sv_if C.1 C.2.1 (cnd := .eq) (off := 8) (tgt := 21) (by decide +kernel) (by decide) ⟨by omega, by omega⟩ (fun (h13 : vu12 = 0) => ?_) (fun (h13 : ¬ (vu12 = 0)) => ?_)
    · refine sv_go C.1 C.2.1 [(.bipush (-2), 2)] (pc' := 23) (by decide +kernel) rfl (lv' := [(0, sv_r a), (1, sv_i ar1), (2, sv_i ar2)]) (st' := [sv_i ((-2))]) rfl ?_
      exact sv_iret C hr (by decide +kernel) hok11 (⟨rfl, ⟨_, rfl, ⟨by omega, by omega⟩⟩⟩)
    · have hp14 := ivu12_0 (by omega) (by omega)
      refine sv_go C.1 C.2.1 [(.iload_n 1, 1), (.iload_n 2, 1)] (pc' := 18) (by decide +kernel) rfl (lv' := [(0, sv_r a), (1, sv_i ar1), (2, sv_i ar2)]) (st' := [sv_i ar2, sv_i ar1]) rfl ?_
      refine sv_icmp C.1 C.2.1 (cnd := .ne) (off := 6) (tgt := 24) (by decide +kernel) (by decide) ⟨by omega, by omega⟩ ⟨by omega, by omega⟩ (fun (h15 : ar1 ≠ ar2) => ?_) (fun (h15 : ¬ (ar1 ≠ ar2)) => ?_)
      · refine sv_go C.1 C.2.1 [(.aload_n 0, 1), (.iload_n 1, 1), (.iload_n 2, 1)] (pc' := 27) (by decide +kernel) rfl (lv' := [(0, sv_r a), (1, sv_i ar1), (2, sv_i ar2)]) (st' := [sv_i ar2, sv_i ar1, sv_r a]) rfl ?_
        refine sv_cv C (index := 370) (k := 2) (rest := []) (ci := 10) (r := (RX11, TX11, 47)) (by decide +kernel) (sf_X11_meet l g A ty σ hok11 hTA hI a k_a (ar1) ⟨by omega, by omega⟩ (ar2) ⟨by omega, by omega⟩) ⟨co_X11_meet, in_X11, ⟨by decide, by decide, by decide +kernel⟩, Nat.le_of_ble_eq_true rfl, Nat.le_of_ble_eq_true rfl⟩ ml_X11_370 im_X11_meet se_X11_meet (by rw [k_a]; rfl) rfl rfl rfl (Nat.le_of_ble_eq_true rfl) ⟨Nat.zero_le _, Nat.zero_le _⟩ (fun r17 σ18 hpo16 hok19 => ?_)
        obtain ⟨rfl, ⟨vu20, rfl, hvu20⟩⟩ := hpo16
        refine sv_same (st2 := [sv_i vu20]) (lv2 := [(0, sv_r a), (1, sv_i ar1), (2, sv_i ar2)]) rfl rfl ?_
        refine sv_go C.1 C.2.1 [(.istore_n 3, 1), (.iload_n 3, 1)] (pc' := 32) (by decide +kernel) rfl (lv' := [(0, sv_r a), (1, sv_i ar1), (2, sv_i ar2), (3, sv_i vu20)]) (st' := [sv_i vu20]) rfl ?_
        refine sv_ldc_w C (index := 359) (z := 268435456) (by decide +kernel) ci_X11_359 (by decide) ?_
        refine sv_icmp C.1 C.2.1 (cnd := .ne) (off := 7) (tgt := 42) (by decide +kernel) (by decide) ⟨by omega, by omega⟩ ⟨by omega, by omega⟩ (fun (h21 : vu20 ≠ 268435456) => ?_) (fun (h21 : ¬ (vu20 ≠ 268435456)) => ?_)
        · refine sv_go C.1 C.2.1 [(.iload_n 3, 1)] (pc' := 43) (by decide +kernel) rfl (lv' := [(0, sv_r a), (1, sv_i ar1), (2, sv_i ar2), (3, sv_i vu20)]) (st' := [sv_i vu20]) rfl ?_
          exact sv_iret C hr (by decide +kernel) hok19 (⟨rfl, ⟨_, rfl, ⟨by omega, by omega⟩⟩⟩)
        · refine sv_go C.1 C.2.1 [(.iconst (-1), 1)] (pc' := 39) (by decide +kernel) rfl (lv' := [(0, sv_r a), (1, sv_i ar1), (2, sv_i ar2), (3, sv_i vu20)]) (st' := [sv_i ((-1))]) rfl ?_
          refine sv_goto C.1 C.2.1 (off := 4) (tgt := 43) (by decide +kernel) (by decide) ?_
          exact sv_iret C hr (by decide +kernel) hok19 (⟨rfl, ⟨_, rfl, ⟨by omega, by omega⟩⟩⟩)
      · refine sv_go C.1 C.2.1 [(.bipush (-2), 2)] (pc' := 23) (by decide +kernel) rfl (lv' := [(0, sv_r a), (1, sv_i ar1), (2, sv_i ar2)]) (st' := [sv_i ((-2))]) rfl ?_
        exact sv_iret C hr (by decide +kernel) hok11 (⟨rfl, ⟨_, rfl, ⟨by omega, by omega⟩⟩⟩)

set_option maxHeartbeats 4000000 in
set_option maxRecDepth 100000 in
theorem sf_X11_meets (l : Launch) (g : sv_G) (A : Nat → Prop) (ty : Nat → Nat) (σ : Nat → Nat → Int) (hok : sv_ok ty σ) (hTA : ∀ q, ty q ≠ 0 → A q) (hI : sv_inv sp_1 ty σ) (a : Nat) (k_a : ty a = 10) : sv_M l yX11_meets cX11_meets 3 (some .int) { frames := 3, cells := 0, slots := 0, locals := 70 } g A ty σ [sv_r a] (fun r σ' => σ = σ' ∧ ∃ rv : Int, r = [sv_i rv] ∧ ((-1) ≤ rv ∧ rv ≤ 1111)) := by
  refine sv_enter (by decide) (Nat.le_of_ble_eq_true rfl) ?_
  intro p e s m args below meth c C hr
  have C : sv_C g A RX11 cX11_meets 3 p s m args meth c := C
  have hr : meth.sig.returnType = (some .int) := hr
  have hF : sv_ofx [] [] ty σ σ := sv_ofx.rf
  refine sv_same (st2 := []) (lv2 := [(0, sv_r a)]) rfl rfl ?_
  refine sv_go C.1 C.2.1 [(.iconst 0, 1), (.istore_n 1, 1)] (pc' := 2) (by decide +kernel) rfl (lv' := [(0, sv_r a), (1, sv_i 0)]) (st' := []) rfl ?_
  have L2 : ∀ (n : Nat) (Xg1_l1 : Int), (0 ≤ Xg1_l1 ∧ Xg1_l1 ≤ 12) → (12 - Xg1_l1) < (n : Int) → sv_E p l e { frames := 3, cells := 0, slots := 0, locals := 70 } s m args below meth c 3 g A ty (fun r σ' => σ = σ' ∧ ∃ rv : Int, r = [sv_i rv] ∧ ((-1) ≤ rv ∧ rv ≤ 1111)) σ 2 [(0, sv_r a), (1, sv_i Xg1_l1)] [] := by
    intro n
    induction n with
    | zero => intro Xg1_l1 hXg1_l1 hmu; exact absurd hmu (by omega)
    | succ n ih3 =>
      intro Xg1_l1 hXg1_l1 hmu
      refine sv_go C.1 C.2.1 [(.iload_n 1, 1), (.bipush 12, 2)] (pc' := 5) (by decide +kernel) rfl (lv' := [(0, sv_r a), (1, sv_i Xg1_l1)]) (st' := [sv_i 12, sv_i Xg1_l1]) rfl ?_
      refine sv_icmp C.1 C.2.1 (cnd := .ge) (off := 60) (tgt := 65) (by decide +kernel) (by decide) ⟨by omega, by omega⟩ ⟨by omega, by omega⟩ (fun (h4 : 12 ≤ Xg1_l1) => ?_) (fun (h4 : ¬ (12 ≤ Xg1_l1)) => ?_)
      · refine sv_go C.1 C.2.1 [(.iconst (-1), 1)] (pc' := 66) (by decide +kernel) rfl (lv' := [(0, sv_r a), (1, sv_i Xg1_l1)]) (st' := [sv_i ((-1))]) rfl ?_
        exact sv_iret C hr (by decide +kernel) hok (⟨rfl, ⟨_, rfl, ⟨by omega, by omega⟩⟩⟩)
      · refine sv_go C.1 C.2.1 [(.iload_n 1, 1), (.iconst 1, 1), (.iadd, 1), (.istore_n 2, 1)] (pc' := 12) (by decide +kernel) rfl (lv' := [(0, sv_r a), (1, sv_i Xg1_l1), (2, sv_i (Xg1_l1 + 1))]) (st' := []) rfl ?_
        have L6 : ∀ (n : Nat) (Xg5_l2 : Int), (1 ≤ Xg5_l2 ∧ Xg5_l2 ≤ 12) → (12 - Xg5_l2) < (n : Int) → sv_E p l e { frames := 3, cells := 0, slots := 0, locals := 70 } s m args below meth c 3 g A ty (fun r σ' => σ = σ' ∧ ∃ rv : Int, r = [sv_i rv] ∧ ((-1) ≤ rv ∧ rv ≤ 1111)) σ 12 [(0, sv_r a), (1, sv_i Xg1_l1), (2, sv_i Xg5_l2)] [] := by
          intro n
          induction n with
          | zero => intro Xg5_l2 hXg5_l2 hmu; exact absurd hmu (by omega)
          | succ n ih7 =>
            intro Xg5_l2 hXg5_l2 hmu
            refine sv_go C.1 C.2.1 [(.iload_n 2, 1), (.bipush 12, 2)] (pc' := 15) (by decide +kernel) rfl (lv' := [(0, sv_r a), (1, sv_i Xg1_l1), (2, sv_i Xg5_l2)]) (st' := [sv_i 12, sv_i Xg5_l2]) rfl ?_
            refine sv_icmp C.1 C.2.1 (cnd := .ge) (off := 44) (tgt := 59) (by decide +kernel) (by decide) ⟨by omega, by omega⟩ ⟨by omega, by omega⟩ (fun (h8 : 12 ≤ Xg5_l2) => ?_) (fun (h8 : ¬ (12 ≤ Xg5_l2)) => ?_)
            · refine sv_go C.1 C.2.1 [(.iinc 1 1, 3)] (pc' := 62) (by decide +kernel) rfl (lv' := [(0, sv_r a), (1, sv_i (Xg1_l1 + 1)), (2, sv_i Xg5_l2)]) (st' := []) rfl ?_
              refine sv_goto C.1 C.2.1 (off := (-60)) (tgt := 2) (by decide +kernel) (by decide) ?_
              refine sv_pick [0, 1] (lv2 := [(0, sv_r a), (1, sv_i (Xg1_l1 + 1))]) rfl ?_
              exact ih3 (Xg1_l1 + 1) ⟨by omega, by omega⟩ (by omega)
            · refine sv_go C.1 C.2.1 [(.aload_n 0, 1), (.iload_n 1, 1)] (pc' := 20) (by decide +kernel) rfl (lv' := [(0, sv_r a), (1, sv_i Xg1_l1), (2, sv_i Xg5_l2)]) (st' := [sv_i Xg1_l1, sv_r a]) rfl ?_
              refine sv_cv C (index := 367) (k := 1) (rest := []) (ci := 10) (r := (RX11, TX11, 47)) (by decide +kernel) (sf_X11_isGoing l g A ty σ hok hTA hI a k_a (Xg1_l1) ⟨by omega, by omega⟩) ⟨co_X11_isGoing, in_X11, ⟨by decide, by decide, by decide +kernel⟩, Nat.le_of_ble_eq_true rfl, Nat.le_of_ble_eq_true rfl⟩ ml_X11_367 im_X11_isGoing se_X11_isGoing (by rw [k_a]; rfl) rfl rfl rfl (Nat.le_of_ble_eq_true rfl) ⟨Nat.zero_le _, Nat.zero_le _⟩ (fun r10 σ11 hpo9 hok12 => ?_)
              obtain ⟨rfl, ⟨vu13, rfl, hvu13, ivu13_0⟩⟩ := hpo9
              refine sv_same (st2 := [sv_i vu13]) (lv2 := [(0, sv_r a), (1, sv_i Xg1_l1), (2, sv_i Xg5_l2)]) rfl rfl ?_
              refine sv_if C.1 C.2.1 (cnd := .eq) (off := 30) (tgt := 53) (by decide +kernel) (by decide) ⟨by omega, by omega⟩ (fun (h14 : vu13 = 0) => ?_) (fun (h14 : ¬ (vu13 = 0)) => ?_)
              · refine sv_go C.1 C.2.1 [(.iinc 2 1, 3)] (pc' := 56) (by decide +kernel) rfl (lv' := [(0, sv_r a), (1, sv_i Xg1_l1), (2, sv_i (Xg5_l2 + 1))]) (st' := []) rfl ?_
                refine sv_goto C.1 C.2.1 (off := (-44)) (tgt := 12) (by decide +kernel) (by decide) ?_
                exact ih7 (Xg5_l2 + 1) ⟨by omega, by omega⟩ (by omega)
              · have hp15 := ivu13_0 (by omega) (by omega)
                refine sv_go C.1 C.2.1 [(.aload_n 0, 1), (.iload_n 2, 1)] (pc' := 28) (by decide +kernel) rfl (lv' := [(0, sv_r a), (1, sv_i Xg1_l1), (2, sv_i Xg5_l2)]) (st' := [sv_i Xg5_l2, sv_r a]) rfl ?_
                refine sv_cv C (index := 367) (k := 1) (rest := []) (ci := 10) (r := (RX11, TX11, 47)) (by decide +kernel) (sf_X11_isGoing l g A ty σ hok12 hTA hI a k_a (Xg5_l2) ⟨by omega, by omega⟩) ⟨co_X11_isGoing, in_X11, ⟨by decide, by decide, by decide +kernel⟩, Nat.le_of_ble_eq_true rfl, Nat.le_of_ble_eq_true rfl⟩ ml_X11_367 im_X11_isGoing se_X11_isGoing (by rw [k_a]; rfl) rfl rfl rfl (Nat.le_of_ble_eq_true rfl) ⟨Nat.zero_le _, Nat.zero_le _⟩ (fun r17 σ18 hpo16 hok19 => ?_)
                obtain ⟨rfl, ⟨vu20, rfl, hvu20, ivu20_0⟩⟩ := hpo16
                refine sv_same (st2 := [sv_i vu20]) (lv2 := [(0, sv_r a), (1, sv_i Xg1_l1), (2, sv_i Xg5_l2)]) rfl rfl ?_
                refine sv_if C.1 C.2.1 (cnd := .eq) (off := 22) (tgt := 53) (by decide +kernel) (by decide) ⟨by omega, by omega⟩ (fun (h21 : vu20 = 0) => ?_) (fun (h21 : ¬ (vu20 = 0)) => ?_)
                · refine sv_go C.1 C.2.1 [(.iinc 2 1, 3)] (pc' := 56) (by decide +kernel) rfl (lv' := [(0, sv_r a), (1, sv_i Xg1_l1), (2, sv_i (Xg5_l2 + 1))]) (st' := []) rfl ?_
                  refine sv_goto C.1 C.2.1 (off := (-44)) (tgt := 12) (by decide +kernel) (by decide) ?_
                  exact ih7 (Xg5_l2 + 1) ⟨by omega, by omega⟩ (by omega)
                · have hp22 := ivu20_0 (by omega) (by omega)
                  refine sv_go C.1 C.2.1 [(.aload_n 0, 1), (.iload_n 1, 1), (.iload_n 2, 1)] (pc' := 37) (by decide +kernel) rfl (lv' := [(0, sv_r a), (1, sv_i Xg1_l1), (2, sv_i Xg5_l2)]) (st' := [sv_i Xg5_l2, sv_i Xg1_l1, sv_r a]) rfl ?_
                  refine sv_cv C (index := 370) (k := 2) (rest := []) (ci := 10) (r := (RX11, TX11, 47)) (by decide +kernel) (sf_X11_meet l g A ty σ hok19 hTA hI a k_a (Xg1_l1) ⟨by omega, by omega⟩ (Xg5_l2) ⟨by omega, by omega⟩) ⟨co_X11_meet, in_X11, ⟨by decide, by decide, by decide +kernel⟩, Nat.le_of_ble_eq_true rfl, Nat.le_of_ble_eq_true rfl⟩ ml_X11_370 im_X11_meet se_X11_meet (by rw [k_a]; rfl) rfl rfl rfl (Nat.le_of_ble_eq_true rfl) ⟨Nat.zero_le _, Nat.zero_le _⟩ (fun r24 σ25 hpo23 hok26 => ?_)
                  obtain ⟨rfl, ⟨vu27, rfl, hvu27⟩⟩ := hpo23
                  refine sv_same (st2 := [sv_i vu27]) (lv2 := [(0, sv_r a), (1, sv_i Xg1_l1), (2, sv_i Xg5_l2)]) rfl rfl ?_
                  refine sv_ldc_w C (index := 359) (z := 268435456) (by decide +kernel) ci_X11_359 (by decide) ?_
                  refine sv_icmp C.1 C.2.1 (cnd := .ge) (off := 10) (tgt := 53) (by decide +kernel) (by decide) ⟨by omega, by omega⟩ ⟨by omega, by omega⟩ (fun (h28 : 268435456 ≤ vu27) => ?_) (fun (h28 : ¬ (268435456 ≤ vu27)) => ?_)
                  · refine sv_go C.1 C.2.1 [(.iinc 2 1, 3)] (pc' := 56) (by decide +kernel) rfl (lv' := [(0, sv_r a), (1, sv_i Xg1_l1), (2, sv_i (Xg5_l2 + 1))]) (st' := []) rfl ?_
                    refine sv_goto C.1 C.2.1 (off := (-44)) (tgt := 12) (by decide +kernel) (by decide) ?_
                    exact ih7 (Xg5_l2 + 1) ⟨by omega, by omega⟩ (by omega)
                  · refine sv_go C.1 C.2.1 [(.bipush 100, 2), (.iload_n 1, 1), (.imul, 1), (.iload_n 2, 1), (.iadd, 1)] (pc' := 52) (by decide +kernel) rfl (lv' := [(0, sv_r a), (1, sv_i Xg1_l1), (2, sv_i Xg5_l2)]) (st' := [sv_i ((100 * Xg1_l1) + Xg5_l2)]) rfl ?_
                    exact sv_iret C hr (by decide +kernel) hok26 (⟨rfl, ⟨_, rfl, ⟨by omega, by omega⟩⟩⟩)
        exact L6 (((12 - (Xg1_l1 + 1) : Int)).toNat + 1) (Xg1_l1 + 1) ⟨by omega, by omega⟩ (by omega)
  exact L2 (((12 - 0 : Int)).toNat + 1) 0 ⟨by omega, by omega⟩ (by omega)

set_option maxHeartbeats 4000000 in
set_option maxRecDepth 100000 in
theorem sf_X11_timed (l : Launch) (g : sv_G) (A : Nat → Prop) (ty : Nat → Nat) (σ : Nat → Nat → Int) (hok : sv_ok ty σ) (hTA : ∀ q, ty q ≠ 0 → A q) (hI : sv_inv sp_1 ty σ) (a : Nat) (k_a : ty a = 10) (ar1 : Int) (h_ar1 : (-2147483648) ≤ ar1 ∧ ar1 ≤ 2147483647) (ar2 : Int) (h_ar2 : (-2147483648) ≤ ar2 ∧ ar2 ≤ 2147483647) : sv_M l yX11_timed cX11_timed 8 (some .int) { frames := 3, cells := 0, slots := 0, locals := 70 } g A ty σ [sv_r a, sv_i ar1, sv_i ar2] (fun r σ' => (∃ rv : Int, r = [sv_i rv] ∧ ((-2) ≤ rv ∧ rv ≤ 1440)) ∧ sv_inv sp_1 ty σ' ∧ sv_ofx [] [103] ty σ σ') := by
  refine sv_enter (by decide) (Nat.le_of_ble_eq_true rfl) ?_
  intro p e s m args below meth c C hr
  have C : sv_C g A RX11 cX11_timed 8 p s m args meth c := C
  have hr : meth.sig.returnType = (some .int) := hr
  have hF : sv_ofx [] [103] ty σ σ := sv_ofx.rf
  refine sv_same (st2 := []) (lv2 := [(0, sv_r a), (1, sv_i ar1), (2, sv_i ar2)]) rfl rfl ?_
  refine sv_go C.1 C.2.1 [(.aload_n 0, 1), (.iload_n 1, 1)] (pc' := 2) (by decide +kernel) rfl (lv' := [(0, sv_r a), (1, sv_i ar1), (2, sv_i ar2)]) (st' := [sv_i ar1, sv_r a]) rfl ?_
  refine sv_cv C (index := 367) (k := 1) (rest := []) (ci := 10) (r := (RX11, TX11, 47)) (by decide +kernel) (sf_X11_isGoing l g A ty σ hok hTA hI a k_a (ar1) ⟨by omega, by omega⟩) ⟨co_X11_isGoing, in_X11, ⟨by decide, by decide, by decide +kernel⟩, Nat.le_of_ble_eq_true rfl, Nat.le_of_ble_eq_true rfl⟩ ml_X11_367 im_X11_isGoing se_X11_isGoing (by rw [k_a]; rfl) rfl rfl rfl (Nat.le_of_ble_eq_true rfl) ⟨Nat.zero_le _, Nat.zero_le _⟩ (fun r2 σ3 hpo1 hok4 => ?_)
  obtain ⟨rfl, ⟨vu5, rfl, hvu5, ivu5_0⟩⟩ := hpo1
  refine sv_same (st2 := [sv_i vu5]) (lv2 := [(0, sv_r a), (1, sv_i ar1), (2, sv_i ar2)]) rfl rfl ?_
  refine sv_if C.1 C.2.1 (cnd := .eq) (off := 15) (tgt := 20) (by decide +kernel) (by decide) ⟨by omega, by omega⟩ (fun (h6 : vu5 = 0) => ?_) (fun (h6 : ¬ (vu5 = 0)) => ?_)
  · refine sv_go C.1 C.2.1 [(.bipush (-2), 2)] (pc' := 22) (by decide +kernel) rfl (lv' := [(0, sv_r a), (1, sv_i ar1), (2, sv_i ar2)]) (st' := [sv_i ((-2))]) rfl ?_
    exact sv_iret C hr (by decide +kernel) hok4 (⟨⟨_, rfl, ⟨by omega, by omega⟩⟩, hI, hF⟩)
  · have hp7 := ivu5_0 (by omega) (by omega)
    refine sv_go C.1 C.2.1 [(.iload_n 2, 1)] (pc' := 9) (by decide +kernel) rfl (lv' := [(0, sv_r a), (1, sv_i ar1), (2, sv_i ar2)]) (st' := [sv_i ar2]) rfl ?_
    refine sv_i2l C.1 C.2.1 (by decide +kernel) ⟨by omega, by omega⟩ ?_
    refine sv_go C.1 C.2.1 [(.lconst 0, 1)] (pc' := 11) (by decide +kernel) rfl (lv' := [(0, sv_r a), (1, sv_i ar1), (2, sv_i ar2)]) (st' := [sv_l 0, sv_l ar2]) rfl ?_
    refine sv_ldc2 C (index := 348) (z := 1440) (by decide +kernel) cl_X11_348 (by decide) ?_
    refine sv_cs C (index := 9) (k := 3) (rest := []) (by decide +kernel) (ct_X11_in l g A ty σ hok4 (ar2) ⟨by omega, by omega⟩ (0) ⟨by omega, by omega⟩ (1440) ⟨by omega, by omega⟩) ⟨co_X11_in, in_X11, ⟨by decide, by decide, by decide +kernel⟩, Nat.le_of_ble_eq_true rfl, Nat.le_of_ble_eq_true rfl⟩ ml_X11_9 st_X11_in rfl rfl (Nat.le_of_ble_eq_true rfl) ⟨Nat.zero_le _, Nat.zero_le _⟩ (fun r9 σ10 hpo8 hok11 => ?_)
    obtain ⟨rfl, ⟨h12, rfl⟩ | ⟨h12, rfl⟩⟩ := hpo8
    · refine sv_same (st2 := [sv_i 1]) (lv2 := [(0, sv_r a), (1, sv_i ar1), (2, sv_i ar2)]) rfl rfl ?_
      refine sv_if_t C.1 C.2.1 (cnd := .ne) (off := 6) (tgt := 23) (by decide +kernel) (by decide) ⟨by omega, by omega⟩ (show 1 ≠ 0 by omega) ?_
      refine sv_go C.1 C.2.1 [(.aload_n 0, 1)] (pc' := 24) (by decide +kernel) rfl (lv' := [(0, sv_r a), (1, sv_i ar1), (2, sv_i ar2)]) (st' := [sv_r a]) rfl ?_
      obtain ⟨v13, ev13, kv13⟩ := hI.ref (k := 43) k_a rfl
      refine sv_gf C (index := 154) (ci := 10) (k := 43) (r := (RX11, TX11, 47)) (v := sv_r v13) (by decide +kernel) (by rw [k_a]; rfl) rfl (by decide) fl_X11_154 (congrArg sv_a ev13) ?_
      refine sv_go C.1 C.2.1 [(.iload_n 1, 1)] (pc' := 28) (by decide +kernel) rfl (lv' := [(0, sv_r a), (1, sv_i ar1), (2, sv_i ar2)]) (st' := [sv_i ar1, sv_r v13]) rfl ?_
      refine sv_ia C (n := 12) (by decide +kernel) (by rw [kv13]; rfl) (by decide) (by omega) (by omega) ?_
      obtain ⟨v14, ev14, hv14⟩ := sv_rdn hI (k := (ar1 : Int).toNat) kv13 rfl
      rw [ev14]
      refine sv_go C.1 C.2.1 [(.istore_n 3, 1), (.iconst (-1), 1), (.istore 4, 2), (.iload_n 2, 1), (.istore 5, 2)] (pc' := 36) (by decide +kernel) rfl (lv' := [(0, sv_r a), (1, sv_i ar1), (2, sv_i ar2), (3, sv_i v14), (4, sv_i ((-1))), (5, sv_i ar2)]) (st' := []) rfl ?_
      have J17 : ∀ (Yg15_l4 : Int) (Yg15_e1 : Int) (σ16 : Nat → Nat → Int), ((-1) ≤ Yg15_l4 ∧ Yg15_l4 ≤ 1440) → (0 ≤ Yg15_e1 ∧ Yg15_e1 ≤ 1440) → (sv_ok ty σ16) → (sv_inv sp_1 ty σ16) → (sv_ofx [] [103] ty σ σ16) → (σ16 a 43 = (v13 : Int) + 1) → (σ16 v13 (ar1 : Int).toNat = Yg15_e1) → sv_E p l e { frames := 3, cells := 0, slots := 0, locals := 70 } s m args below meth c 8 g A ty (fun r σ' => (∃ rv : Int, r = [sv_i rv] ∧ ((-2) ≤ rv ∧ rv ≤ 1440)) ∧ sv_inv sp_1 ty σ' ∧ sv_ofx [] [103] ty σ σ') σ16 132 [(0, sv_r a), (1, sv_i ar1), (3, sv_i v14), (4, sv_i Yg15_l4)] [] := by
        intro Yg15_l4 Yg15_e1 σ16 hYg15_l4 hYg15_e1 okσ16 Iσ16 Fσ16 eσ16_0 eσ16_1
        refine sv_go C.1 C.2.1 [(.aload_n 0, 1)] (pc' := 133) (by decide +kernel) rfl (lv' := [(0, sv_r a), (1, sv_i ar1), (3, sv_i v14), (4, sv_i Yg15_l4)]) (st' := [sv_r a]) rfl ?_
        refine sv_gf C (index := 154) (ci := 10) (k := 43) (r := (RX11, TX11, 47)) (v := sv_r v13) (by decide +kernel) (by rw [k_a]; rfl) rfl (by decide) fl_X11_154 (congrArg sv_a eσ16_0) ?_
        refine sv_go C.1 C.2.1 [(.iload_n 1, 1), (.iload_n 3, 1)] (pc' := 138) (by decide +kernel) rfl (lv' := [(0, sv_r a), (1, sv_i ar1), (3, sv_i v14), (4, sv_i Yg15_l4)]) (st' := [sv_i v14, sv_i ar1, sv_r v13]) rfl ?_
        refine sv_is C (n := 12) (by decide +kernel) (by rw [kv13]; rfl) (by decide) (by omega) (by omega) ⟨by omega, by omega⟩ (hTA _ (by rw [kv13]; decide)) okσ16 (fun hok18 => ?_)
        have hI20 := Iσ16.up (a := v13) (k := (ar1 : Int).toNat) (z := v14) (by rw [kv13]; exact ⟨by omega, by omega⟩)
        have hF21 := Fσ16.up (a := v13) (k := (ar1 : Int).toNat) (z := v14) (Or.inl (by rw [kv13]; decide))
        generalize eσ19 : sv_up σ16 v13 (ar1 : Int).toNat v14 = σ19 at hok18 hI20 hF21 ⊢
        have t22 : σ19 a 43 = (v13 : Int) + 1 := by rw [← eσ19, sv_up_a (sv_ne k_a kv13 (by decide))]; exact eσ16_0
        have t24 : σ19 v13 (ar1 : Int).toNat = v14 := by rw [← eσ19]; exact sv_up_s _ _ _ _
        refine sv_go C.1 C.2.1 [(.iload 4, 2)] (pc' := 141) (by decide +kernel) rfl (lv' := [(0, sv_r a), (1, sv_i ar1), (3, sv_i v14), (4, sv_i Yg15_l4)]) (st' := [sv_i Yg15_l4]) rfl ?_
        exact sv_iret C hr (by decide +kernel) hok18 (⟨⟨_, rfl, ⟨by omega, by omega⟩⟩, hI20, hF21⟩)
      have L27 : ∀ (n : Nat) (Xg25_l4 : Int) (Xg25_l5 : Int) (Xg25_e1 : Int) (σ26 : Nat → Nat → Int), ((-1) ≤ Xg25_l4 ∧ Xg25_l4 ≤ 1440) → (0 ≤ Xg25_l5 ∧ Xg25_l5 ≤ 1441) → (0 ≤ Xg25_e1 ∧ Xg25_e1 ≤ 1440) → (sv_ok ty σ26) → (sv_inv sp_1 ty σ26) → (sv_ofx [] [103] ty σ σ26) → (σ26 a 43 = (v13 : Int) + 1) → (σ26 v13 (ar1 : Int).toNat = Xg25_e1) → (1441 - Xg25_l5) < (n : Int) → sv_E p l e { frames := 3, cells := 0, slots := 0, locals := 70 } s m args below meth c 8 g A ty (fun r σ' => (∃ rv : Int, r = [sv_i rv] ∧ ((-2) ≤ rv ∧ rv ≤ 1440)) ∧ sv_inv sp_1 ty σ' ∧ sv_ofx [] [103] ty σ σ') σ26 36 [(0, sv_r a), (1, sv_i ar1), (3, sv_i v14), (4, sv_i Xg25_l4), (5, sv_i Xg25_l5)] [] := by
        intro n
        induction n with
        | zero => intro Xg25_l4 Xg25_l5 Xg25_e1 σ26 hXg25_l4 hXg25_l5 hXg25_e1 okσ26 Iσ26 Fσ26 eσ26_0 eσ26_1 hmu; exact absurd hmu (by omega)
        | succ n ih28 =>
          intro Xg25_l4 Xg25_l5 Xg25_e1 σ26 hXg25_l4 hXg25_l5 hXg25_e1 okσ26 Iσ26 Fσ26 eσ26_0 eσ26_1 hmu
          refine sv_go C.1 C.2.1 [(.iload 5, 2), (.sipush 1440, 3)] (pc' := 41) (by decide +kernel) rfl (lv' := [(0, sv_r a), (1, sv_i ar1), (3, sv_i v14), (4, sv_i Xg25_l4), (5, sv_i Xg25_l5)]) (st' := [sv_i 1440, sv_i Xg25_l5]) rfl ?_
          refine sv_icmp C.1 C.2.1 (cnd := .gt) (off := 91) (tgt := 132) (by decide +kernel) (by decide) ⟨by omega, by omega⟩ ⟨by omega, by omega⟩ (fun (h29 : 1440 < Xg25_l5) => ?_) (fun (h29 : ¬ (1440 < Xg25_l5)) => ?_)
          · refine sv_pick [0, 1, 2, 3] (lv2 := [(0, sv_r a), (1, sv_i ar1), (3, sv_i v14), (4, sv_i Xg25_l4)]) rfl ?_
            exact J17 Xg25_l4 Xg25_e1 σ26 ⟨by omega, by omega⟩ ⟨by omega, by omega⟩ okσ26 Iσ26 Fσ26 eσ26_0 eσ26_1
          · refine sv_go C.1 C.2.1 [(.iload 4, 2), (.iconst (-1), 1)] (pc' := 47) (by decide +kernel) rfl (lv' := [(0, sv_r a), (1, sv_i ar1), (3, sv_i v14), (4, sv_i Xg25_l4), (5, sv_i Xg25_l5)]) (st' := [sv_i ((-1)), sv_i Xg25_l4]) rfl ?_
            refine sv_icmp C.1 C.2.1 (cnd := .ne) (off := 85) (tgt := 132) (by decide +kernel) (by decide) ⟨by omega, by omega⟩ ⟨by omega, by omega⟩ (fun (h30 : Xg25_l4 ≠ ((-1))) => ?_) (fun (h30 : ¬ (Xg25_l4 ≠ ((-1)))) => ?_)
            · refine sv_pick [0, 1, 2, 3] (lv2 := [(0, sv_r a), (1, sv_i ar1), (3, sv_i v14), (4, sv_i Xg25_l4)]) rfl ?_
              exact J17 Xg25_l4 Xg25_e1 σ26 ⟨by omega, by omega⟩ ⟨by omega, by omega⟩ okσ26 Iσ26 Fσ26 eσ26_0 eσ26_1
            · refine sv_go C.1 C.2.1 [(.aload_n 0, 1)] (pc' := 51) (by decide +kernel) rfl (lv' := [(0, sv_r a), (1, sv_i ar1), (3, sv_i v14), (4, sv_i Xg25_l4), (5, sv_i Xg25_l5)]) (st' := [sv_r a]) rfl ?_
              refine sv_gf C (index := 154) (ci := 10) (k := 43) (r := (RX11, TX11, 47)) (v := sv_r v13) (by decide +kernel) (by rw [k_a]; rfl) rfl (by decide) fl_X11_154 (congrArg sv_a eσ26_0) ?_
              refine sv_go C.1 C.2.1 [(.iload_n 1, 1), (.iload 5, 2)] (pc' := 57) (by decide +kernel) rfl (lv' := [(0, sv_r a), (1, sv_i ar1), (3, sv_i v14), (4, sv_i Xg25_l4), (5, sv_i Xg25_l5)]) (st' := [sv_i Xg25_l5, sv_i ar1, sv_r v13]) rfl ?_
              refine sv_is C (n := 12) (by decide +kernel) (by rw [kv13]; rfl) (by decide) (by omega) (by omega) ⟨by omega, by omega⟩ (hTA _ (by rw [kv13]; decide)) okσ26 (fun hok31 => ?_)
              have hI33 := Iσ26.up (a := v13) (k := (ar1 : Int).toNat) (z := Xg25_l5) (by rw [kv13]; exact ⟨by omega, by omega⟩)
              have hF34 := Fσ26.up (a := v13) (k := (ar1 : Int).toNat) (z := Xg25_l5) (Or.inl (by rw [kv13]; decide))
              generalize eσ32 : sv_up σ26 v13 (ar1 : Int).toNat Xg25_l5 = σ32 at hok31 hI33 hF34 ⊢
              have t35 : σ32 a 43 = (v13 : Int) + 1 := by rw [← eσ32, sv_up_a (sv_ne k_a kv13 (by decide))]; exact eσ26_0
              have t37 : σ32 v13 (ar1 : Int).toNat = Xg25_l5 := by rw [← eσ32]; exact sv_up_s _ _ _ _
              refine sv_go C.1 C.2.1 [(.iconst 1, 1), (.istore 6, 2), (.iconst 0, 1), (.istore 7, 2)] (pc' := 64) (by decide +kernel) rfl (lv' := [(0, sv_r a), (1, sv_i ar1), (3, sv_i v14), (4, sv_i Xg25_l4), (5, sv_i Xg25_l5), (6, sv_i 1), (7, sv_i 0)]) (st' := []) rfl ?_
              have J39 : ∀ (Yg38_l6 : Int), (0 ≤ Yg38_l6 ∧ Yg38_l6 ≤ 1) → sv_E p l e { frames := 3, cells := 0, slots := 0, locals := 70 } s m args below meth c 8 g A ty (fun r σ' => (∃ rv : Int, r = [sv_i rv] ∧ ((-2) ≤ rv ∧ rv ≤ 1440)) ∧ sv_inv sp_1 ty σ' ∧ sv_ofx [] [103] ty σ σ') σ32 117 [(0, sv_r a), (1, sv_i ar1), (3, sv_i v14), (4, sv_i Xg25_l4), (5, sv_i Xg25_l5), (6, sv_i Yg38_l6)] [] := by
                intro Yg38_l6 hYg38_l6
                refine sv_go C.1 C.2.1 [(.iload 6, 2)] (pc' := 119) (by decide +kernel) rfl (lv' := [(0, sv_r a), (1, sv_i ar1), (3, sv_i v14), (4, sv_i Xg25_l4), (5, sv_i Xg25_l5), (6, sv_i Yg38_l6)]) (st' := [sv_i Yg38_l6]) rfl ?_
                have J42 : ∀ (Jg41_l4 : Int), ((-1) ≤ Jg41_l4 ∧ Jg41_l4 ≤ 1440) → sv_E p l e { frames := 3, cells := 0, slots := 0, locals := 70 } s m args below meth c 8 g A ty (fun r σ' => (∃ rv : Int, r = [sv_i rv] ∧ ((-2) ≤ rv ∧ rv ≤ 1440)) ∧ sv_inv sp_1 ty σ' ∧ sv_ofx [] [103] ty σ σ') σ32 126 [(0, sv_r a), (1, sv_i ar1), (3, sv_i v14), (4, sv_i Jg41_l4), (5, sv_i Xg25_l5)] [] := by
                  intro Jg41_l4 hJg41_l4
                  refine sv_go C.1 C.2.1 [(.iinc 5 1, 3)] (pc' := 129) (by decide +kernel) rfl (lv' := [(0, sv_r a), (1, sv_i ar1), (3, sv_i v14), (4, sv_i Jg41_l4), (5, sv_i (Xg25_l5 + 1))]) (st' := []) rfl ?_
                  refine sv_goto C.1 C.2.1 (off := (-93)) (tgt := 36) (by decide +kernel) (by decide) ?_
                  exact ih28 Jg41_l4 (Xg25_l5 + 1) Xg25_l5 σ32 ⟨by omega, by omega⟩ ⟨by omega, by omega⟩ ⟨by omega, by omega⟩ hok31 hI33 hF34 t35 t37 (by omega)
                refine sv_if C.1 C.2.1 (cnd := .eq) (off := 7) (tgt := 126) (by decide +kernel) (by decide) ⟨by omega, by omega⟩ (fun (h40 : Yg38_l6 = 0) => ?_) (fun (h40 : ¬ (Yg38_l6 = 0)) => ?_)
                · refine sv_pick [0, 1, 2, 3, 4] (lv2 := [(0, sv_r a), (1, sv_i ar1), (3, sv_i v14), (4, sv_i Xg25_l4), (5, sv_i Xg25_l5)]) rfl ?_
                  exact J42 Xg25_l4 ⟨by omega, by omega⟩
                · refine sv_go C.1 C.2.1 [(.iload 5, 2), (.istore 4, 2)] (pc' := 126) (by decide +kernel) rfl (lv' := [(0, sv_r a), (1, sv_i ar1), (3, sv_i v14), (4, sv_i Xg25_l5), (5, sv_i Xg25_l5), (6, sv_i Yg38_l6)]) (st' := []) rfl ?_
                  refine sv_pick [0, 1, 2, 3, 4] (lv2 := [(0, sv_r a), (1, sv_i ar1), (3, sv_i v14), (4, sv_i Xg25_l5), (5, sv_i Xg25_l5)]) rfl ?_
                  exact J42 Xg25_l5 ⟨by omega, by omega⟩
              have L44 : ∀ (n : Nat) (Xg43_l6 : Int) (Xg43_l7 : Int), (0 ≤ Xg43_l6 ∧ Xg43_l6 ≤ 1) → (0 ≤ Xg43_l7 ∧ Xg43_l7 ≤ 12) → (12 - Xg43_l7) < (n : Int) → sv_E p l e { frames := 3, cells := 0, slots := 0, locals := 70 } s m args below meth c 8 g A ty (fun r σ' => (∃ rv : Int, r = [sv_i rv] ∧ ((-2) ≤ rv ∧ rv ≤ 1440)) ∧ sv_inv sp_1 ty σ' ∧ sv_ofx [] [103] ty σ σ') σ32 64 [(0, sv_r a), (1, sv_i ar1), (3, sv_i v14), (4, sv_i Xg25_l4), (5, sv_i Xg25_l5), (6, sv_i Xg43_l6), (7, sv_i Xg43_l7)] [] := by
                intro n
                induction n with
                | zero => intro Xg43_l6 Xg43_l7 hXg43_l6 hXg43_l7 hmu; exact absurd hmu (by omega)
                | succ n ih45 =>
                  intro Xg43_l6 Xg43_l7 hXg43_l6 hXg43_l7 hmu
                  refine sv_go C.1 C.2.1 [(.iload 7, 2), (.bipush 12, 2)] (pc' := 68) (by decide +kernel) rfl (lv' := [(0, sv_r a), (1, sv_i ar1), (3, sv_i v14), (4, sv_i Xg25_l4), (5, sv_i Xg25_l5), (6, sv_i Xg43_l6), (7, sv_i Xg43_l7)]) (st' := [sv_i 12, sv_i Xg43_l7]) rfl ?_
                  refine sv_icmp C.1 C.2.1 (cnd := .ge) (off := 49) (tgt := 117) (by decide +kernel) (by decide) ⟨by omega, by omega⟩ ⟨by omega, by omega⟩ (fun (h46 : 12 ≤ Xg43_l7) => ?_) (fun (h46 : ¬ (12 ≤ Xg43_l7)) => ?_)
                  · refine sv_pick [0, 1, 2, 3, 4, 5] (lv2 := [(0, sv_r a), (1, sv_i ar1), (3, sv_i v14), (4, sv_i Xg25_l4), (5, sv_i Xg25_l5), (6, sv_i Xg43_l6)]) rfl ?_
                    exact J39 Xg43_l6 ⟨by omega, by omega⟩
                  · refine sv_go C.1 C.2.1 [(.iload 6, 2)] (pc' := 73) (by decide +kernel) rfl (lv' := [(0, sv_r a), (1, sv_i ar1), (3, sv_i v14), (4, sv_i Xg25_l4), (5, sv_i Xg25_l5), (6, sv_i Xg43_l6), (7, sv_i Xg43_l7)]) (st' := [sv_i Xg43_l6]) rfl ?_
                    refine sv_if C.1 C.2.1 (cnd := .eq) (off := 44) (tgt := 117) (by decide +kernel) (by decide) ⟨by omega, by omega⟩ (fun (h47 : Xg43_l6 = 0) => ?_) (fun (h47 : ¬ (Xg43_l6 = 0)) => ?_)
                    · refine sv_pick [0, 1, 2, 3, 4, 5] (lv2 := [(0, sv_r a), (1, sv_i ar1), (3, sv_i v14), (4, sv_i Xg25_l4), (5, sv_i Xg25_l5), (6, sv_i Xg43_l6)]) rfl ?_
                      exact J39 Xg43_l6 ⟨by omega, by omega⟩
                    · refine sv_go C.1 C.2.1 [(.iload 7, 2), (.iload_n 1, 1)] (pc' := 79) (by decide +kernel) rfl (lv' := [(0, sv_r a), (1, sv_i ar1), (3, sv_i v14), (4, sv_i Xg25_l4), (5, sv_i Xg25_l5), (6, sv_i Xg43_l6), (7, sv_i Xg43_l7)]) (st' := [sv_i ar1, sv_i Xg43_l7]) rfl ?_
                      have J50 : ∀ (Jg49_s0 : Int), (0 ≤ Jg49_s0 ∧ Jg49_s0 ≤ 1) → sv_E p l e { frames := 3, cells := 0, slots := 0, locals := 70 } s m args below meth c 8 g A ty (fun r σ' => (∃ rv : Int, r = [sv_i rv] ∧ ((-2) ≤ rv ∧ rv ≤ 1440)) ∧ sv_inv sp_1 ty σ' ∧ sv_ofx [] [103] ty σ σ') σ32 109 [(0, sv_r a), (1, sv_i ar1), (3, sv_i v14), (4, sv_i Xg25_l4), (5, sv_i Xg25_l5), (7, sv_i Xg43_l7)] [sv_i Jg49_s0] := by
                        intro Jg49_s0 hJg49_s0
                        refine sv_go C.1 C.2.1 [(.istore 6, 2), (.iinc 7 1, 3)] (pc' := 114) (by decide +kernel) rfl (lv' := [(0, sv_r a), (1, sv_i ar1), (3, sv_i v14), (4, sv_i Xg25_l4), (5, sv_i Xg25_l5), (6, sv_i Jg49_s0), (7, sv_i (Xg43_l7 + 1))]) (st' := []) rfl ?_
                        refine sv_goto C.1 C.2.1 (off := (-50)) (tgt := 64) (by decide +kernel) (by decide) ?_
                        exact ih45 Jg49_s0 (Xg43_l7 + 1) ⟨by omega, by omega⟩ ⟨by omega, by omega⟩ (by omega)
                      refine sv_icmp C.1 C.2.1 (cnd := .eq) (off := 25) (tgt := 104) (by decide +kernel) (by decide) ⟨by omega, by omega⟩ ⟨by omega, by omega⟩ (fun (h48 : Xg43_l7 = ar1) => ?_) (fun (h48 : ¬ (Xg43_l7 = ar1)) => ?_)
                      · refine sv_go C.1 C.2.1 [(.iconst 1, 1)] (pc' := 105) (by decide +kernel) rfl (lv' := [(0, sv_r a), (1, sv_i ar1), (3, sv_i v14), (4, sv_i Xg25_l4), (5, sv_i Xg25_l5), (6, sv_i Xg43_l6), (7, sv_i Xg43_l7)]) (st' := [sv_i 1]) rfl ?_
                        refine sv_goto C.1 C.2.1 (off := 4) (tgt := 109) (by decide +kernel) (by decide) ?_
                        refine sv_pick [0, 1, 2, 3, 4, 6] (lv2 := [(0, sv_r a), (1, sv_i ar1), (3, sv_i v14), (4, sv_i Xg25_l4), (5, sv_i Xg25_l5), (7, sv_i Xg43_l7)]) rfl ?_
                        exact J50 1 ⟨by omega, by omega⟩
                      · refine sv_go C.1 C.2.1 [(.aload_n 0, 1), (.iload 7, 2)] (pc' := 85) (by decide +kernel) rfl (lv' := [(0, sv_r a), (1, sv_i ar1), (3, sv_i v14), (4, sv_i Xg25_l4), (5, sv_i Xg25_l5), (6, sv_i Xg43_l6), (7, sv_i Xg43_l7)]) (st' := [sv_i Xg43_l7, sv_r a]) rfl ?_
                        refine sv_cv C (index := 367) (k := 1) (rest := []) (ci := 10) (r := (RX11, TX11, 47)) (by decide +kernel) (sf_X11_isGoing l g A ty σ32 hok31 hTA hI33 a k_a (Xg43_l7) ⟨by omega, by omega⟩) ⟨co_X11_isGoing, in_X11, ⟨by decide, by decide, by decide +kernel⟩, Nat.le_of_ble_eq_true rfl, Nat.le_of_ble_eq_true rfl⟩ ml_X11_367 im_X11_isGoing se_X11_isGoing (by rw [k_a]; rfl) rfl rfl rfl (Nat.le_of_ble_eq_true rfl) ⟨Nat.zero_le _, Nat.zero_le _⟩ (fun r52 σ53 hpo51 hok54 => ?_)
                        obtain ⟨rfl, ⟨vu55, rfl, hvu55, ivu55_0⟩⟩ := hpo51
                        refine sv_same (st2 := [sv_i vu55]) (lv2 := [(0, sv_r a), (1, sv_i ar1), (3, sv_i v14), (4, sv_i Xg25_l4), (5, sv_i Xg25_l5), (6, sv_i Xg43_l6), (7, sv_i Xg43_l7)]) rfl rfl ?_
                        refine sv_if C.1 C.2.1 (cnd := .eq) (off := 16) (tgt := 104) (by decide +kernel) (by decide) ⟨by omega, by omega⟩ (fun (h56 : vu55 = 0) => ?_) (fun (h56 : ¬ (vu55 = 0)) => ?_)
                        · refine sv_go C.1 C.2.1 [(.iconst 1, 1)] (pc' := 105) (by decide +kernel) rfl (lv' := [(0, sv_r a), (1, sv_i ar1), (3, sv_i v14), (4, sv_i Xg25_l4), (5, sv_i Xg25_l5), (6, sv_i Xg43_l6), (7, sv_i Xg43_l7)]) (st' := [sv_i 1]) rfl ?_
                          refine sv_goto C.1 C.2.1 (off := 4) (tgt := 109) (by decide +kernel) (by decide) ?_
                          refine sv_pick [0, 1, 2, 3, 4, 6] (lv2 := [(0, sv_r a), (1, sv_i ar1), (3, sv_i v14), (4, sv_i Xg25_l4), (5, sv_i Xg25_l5), (7, sv_i Xg43_l7)]) rfl ?_
                          exact J50 1 ⟨by omega, by omega⟩
                        · have hp57 := ivu55_0 (by omega) (by omega)
                          refine sv_go C.1 C.2.1 [(.aload_n 0, 1), (.iload_n 1, 1), (.iload 7, 2)] (pc' := 95) (by decide +kernel) rfl (lv' := [(0, sv_r a), (1, sv_i ar1), (3, sv_i v14), (4, sv_i Xg25_l4), (5, sv_i Xg25_l5), (6, sv_i Xg43_l6), (7, sv_i Xg43_l7)]) (st' := [sv_i Xg43_l7, sv_i ar1, sv_r a]) rfl ?_
                          refine sv_cv C (index := 370) (k := 2) (rest := []) (ci := 10) (r := (RX11, TX11, 47)) (by decide +kernel) (sf_X11_meet l g A ty σ32 hok54 hTA hI33 a k_a (ar1) ⟨by omega, by omega⟩ (Xg43_l7) ⟨by omega, by omega⟩) ⟨co_X11_meet, in_X11, ⟨by decide, by decide, by decide +kernel⟩, Nat.le_of_ble_eq_true rfl, Nat.le_of_ble_eq_true rfl⟩ ml_X11_370 im_X11_meet se_X11_meet (by rw [k_a]; rfl) rfl rfl rfl (Nat.le_of_ble_eq_true rfl) ⟨Nat.zero_le _, Nat.zero_le _⟩ (fun r59 σ60 hpo58 hok61 => ?_)
                          obtain ⟨rfl, ⟨vu62, rfl, hvu62⟩⟩ := hpo58
                          refine sv_same (st2 := [sv_i vu62]) (lv2 := [(0, sv_r a), (1, sv_i ar1), (3, sv_i v14), (4, sv_i Xg25_l4), (5, sv_i Xg25_l5), (6, sv_i Xg43_l6), (7, sv_i Xg43_l7)]) rfl rfl ?_
                          refine sv_ldc_w C (index := 359) (z := 268435456) (by decide +kernel) ci_X11_359 (by decide) ?_
                          refine sv_icmp C.1 C.2.1 (cnd := .ne) (off := 7) (tgt := 108) (by decide +kernel) (by decide) ⟨by omega, by omega⟩ ⟨by omega, by omega⟩ (fun (h63 : vu62 ≠ 268435456) => ?_) (fun (h63 : ¬ (vu62 ≠ 268435456)) => ?_)
                          · refine sv_go C.1 C.2.1 [(.iconst 0, 1)] (pc' := 109) (by decide +kernel) rfl (lv' := [(0, sv_r a), (1, sv_i ar1), (3, sv_i v14), (4, sv_i Xg25_l4), (5, sv_i Xg25_l5), (6, sv_i Xg43_l6), (7, sv_i Xg43_l7)]) (st' := [sv_i 0]) rfl ?_
                            refine sv_pick [0, 1, 2, 3, 4, 6] (lv2 := [(0, sv_r a), (1, sv_i ar1), (3, sv_i v14), (4, sv_i Xg25_l4), (5, sv_i Xg25_l5), (7, sv_i Xg43_l7)]) rfl ?_
                            exact J50 0 ⟨by omega, by omega⟩
                          · refine sv_go C.1 C.2.1 [(.iconst 1, 1)] (pc' := 105) (by decide +kernel) rfl (lv' := [(0, sv_r a), (1, sv_i ar1), (3, sv_i v14), (4, sv_i Xg25_l4), (5, sv_i Xg25_l5), (6, sv_i Xg43_l6), (7, sv_i Xg43_l7)]) (st' := [sv_i 1]) rfl ?_
                            refine sv_goto C.1 C.2.1 (off := 4) (tgt := 109) (by decide +kernel) (by decide) ?_
                            refine sv_pick [0, 1, 2, 3, 4, 6] (lv2 := [(0, sv_r a), (1, sv_i ar1), (3, sv_i v14), (4, sv_i Xg25_l4), (5, sv_i Xg25_l5), (7, sv_i Xg43_l7)]) rfl ?_
                            exact J50 1 ⟨by omega, by omega⟩
              exact L44 (((12 - 0 : Int)).toNat + 1) 1 0 ⟨by omega, by omega⟩ ⟨by omega, by omega⟩ (by omega)
      refine sv_pick [0, 1, 3, 4, 5] (lv2 := [(0, sv_r a), (1, sv_i ar1), (3, sv_i v14), (4, sv_i ((-1))), (5, sv_i ar2)]) rfl ?_
      exact L27 (((1441 - ar2 : Int)).toNat + 1) ((-1)) ar2 v14 σ ⟨by omega, by omega⟩ ⟨by omega, by omega⟩ ⟨by omega, by omega⟩ hok11 hI hF ev13 ev14 (by omega)
    · refine sv_same (st2 := [sv_i 0]) (lv2 := [(0, sv_r a), (1, sv_i ar1), (2, sv_i ar2)]) rfl rfl ?_
      refine sv_if_f C.1 C.2.1 (cnd := .ne) (off := 6) (tgt := 23) (by decide +kernel) (by decide) ⟨by omega, by omega⟩ (show ¬ (0 ≠ 0) by omega) ?_
      refine sv_go C.1 C.2.1 [(.bipush (-2), 2)] (pc' := 22) (by decide +kernel) rfl (lv' := [(0, sv_r a), (1, sv_i ar1), (2, sv_i ar2)]) (st' := [sv_i ((-2))]) rfl ?_
      exact sv_iret C hr (by decide +kernel) hok11 (⟨⟨_, rfl, ⟨by omega, by omega⟩⟩, hI, hF⟩)

theorem cl_X11_373 : Cond.constantLong RX11 373 (13) ∈ lw_good := sv_mem 1511 (by decide +kernel) rfl
set_option maxHeartbeats 4000000 in
set_option maxRecDepth 100000 in
theorem sf_X11_count (l : Launch) (g : sv_G) (A : Nat → Prop) (ty : Nat → Nat) (σ : Nat → Nat → Int) (hok : sv_ok ty σ) (hTA : ∀ q, ty q ≠ 0 → A q) (hI : sv_inv sp_1 ty σ) (a : Nat) (k_a : ty a = 10) (ar1 : Int) (h_ar1 : (-2147483648) ≤ ar1 ∧ ar1 ≤ 2147483647) : sv_M l yX11_count cX11_count 5 (some .int) { frames := 1, cells := 0, slots := 0, locals := 25 } g A ty σ [sv_r a, sv_i ar1] (fun r σ' => σ = σ' ∧ ∃ rv : Int, r = [sv_i rv] ∧ ((-2147483648) ≤ rv ∧ rv ≤ 2147483647)) := by
  refine sv_enter (by decide) (Nat.le_of_ble_eq_true rfl) ?_
  intro p e s m args below meth c C hr
  have C : sv_C g A RX11 cX11_count 5 p s m args meth c := C
  have hr : meth.sig.returnType = (some .int) := hr
  have hF : sv_ofx [] [] ty σ σ := sv_ofx.rf
  refine sv_same (st2 := []) (lv2 := [(0, sv_r a), (1, sv_i ar1)]) rfl rfl ?_
  refine sv_go C.1 C.2.1 [(.iload_n 1, 1)] (pc' := 1) (by decide +kernel) rfl (lv' := [(0, sv_r a), (1, sv_i ar1)]) (st' := [sv_i ar1]) rfl ?_
  refine sv_i2l C.1 C.2.1 (by decide +kernel) ⟨by omega, by omega⟩ ?_
  refine sv_ldc2 C (index := 290) (z := 10) (by decide +kernel) cl_X11_290 (by decide) ?_
  refine sv_ldc2 C (index := 373) (z := 13) (by decide +kernel) cl_X11_373 (by decide) ?_
  refine sv_cs C (index := 9) (k := 3) (rest := []) (by decide +kernel) (ct_X11_in l g A ty σ hok (ar1) ⟨by omega, by omega⟩ (10) ⟨by omega, by omega⟩ (13) ⟨by omega, by omega⟩) ⟨co_X11_in, in_X11, ⟨by decide, by decide, by decide +kernel⟩, Nat.le_of_ble_eq_true rfl, Nat.le_of_ble_eq_true rfl⟩ ml_X11_9 st_X11_in rfl rfl (Nat.le_of_ble_eq_true rfl) ⟨Nat.zero_le _, Nat.zero_le _⟩ (fun r2 σ3 hpo1 hok4 => ?_)
  obtain ⟨rfl, ⟨h5, rfl⟩ | ⟨h5, rfl⟩⟩ := hpo1
  · refine sv_same (st2 := [sv_i 1]) (lv2 := [(0, sv_r a), (1, sv_i ar1)]) rfl rfl ?_
    refine sv_if_f C.1 C.2.1 (cnd := .eq) (off := 13) (tgt := 24) (by decide +kernel) (by decide) ⟨by omega, by omega⟩ (show ¬ (1 = 0) by omega) ?_
    refine sv_go C.1 C.2.1 [(.aload_n 0, 1)] (pc' := 15) (by decide +kernel) rfl (lv' := [(0, sv_r a), (1, sv_i ar1)]) (st' := [sv_r a]) rfl ?_
    obtain ⟨v6, ev6, kv6⟩ := hI.ref (k := 0) k_a rfl
    refine sv_gf C (index := 47) (ci := 10) (k := 0) (r := (RX11, TX11, 47)) (v := sv_r v6) (by decide +kernel) (by rw [k_a]; rfl) rfl (by decide) fl_X11_47 (congrArg sv_a ev6) ?_
    refine sv_go C.1 C.2.1 [(.iload_n 1, 1), (.bipush 10, 2), (.isub, 1)] (pc' := 22) (by decide +kernel) rfl (lv' := [(0, sv_r a), (1, sv_i ar1)]) (st' := [sv_i (ar1 - 10), sv_r v6]) rfl ?_
    refine sv_ia C (n := 5) (by decide +kernel) (by rw [kv6]; rfl) (by decide) (by omega) (by omega) ?_
    obtain ⟨v7, ev7, hv7⟩ := sv_rdn hI (k := (ar1 - 10 : Int).toNat) kv6 rfl
    rw [ev7]
    exact sv_iret C hr (by decide +kernel) hok4 (⟨rfl, ⟨_, rfl, ⟨by omega, by omega⟩⟩⟩)
  · refine sv_same (st2 := [sv_i 0]) (lv2 := [(0, sv_r a), (1, sv_i ar1)]) rfl rfl ?_
    refine sv_if_t C.1 C.2.1 (cnd := .eq) (off := 13) (tgt := 24) (by decide +kernel) (by decide) ⟨by omega, by omega⟩ (show 0 = 0 by omega) ?_
    refine sv_go C.1 C.2.1 [(.iconst 0, 1), (.istore_n 2, 1), (.iload_n 1, 1)] (pc' := 27) (by decide +kernel) rfl (lv' := [(0, sv_r a), (1, sv_i ar1), (2, sv_i 0)]) (st' := [sv_i ar1]) rfl ?_
    rcases (show ar1 = 0 ∨ ar1 = 1 ∨ ar1 = 2 ∨ ar1 = 3 ∨ (ar1 ≠ 0 ∧ ar1 ≠ 1 ∧ ar1 ≠ 2 ∧ ar1 ≠ 3) by omega) with h8 | h8 | h8 | h8 | h8
    · refine sv_tsI C.1 C.2.1 (dflt := 175) (lo := 0) (hi := 3) (offs := #[29, 34, 88, 142]) (len := 29) (off := 29) (tgt := 56) (by decide +kernel) 0 h8 (by decide) rfl (by decide) ?_
      refine sv_go C.1 C.2.1 [(.aload_n 0, 1)] (pc' := 57) (by decide +kernel) rfl (lv' := [(0, sv_r a), (1, sv_i ar1), (2, sv_i 0)]) (st' := [sv_r a]) rfl ?_
      obtain ⟨v9, ev9, hv9⟩ := sv_rdn hI (k := 17) k_a rfl
      refine sv_gf C (index := 269) (ci := 10) (k := 17) (r := (RX11, TX11, 47)) (v := sv_i v9) (by decide +kernel) (by rw [k_a]; rfl) rfl (by decide) fl_X11_269 (congrArg sv_i ev9) ?_
      exact sv_iret C hr (by decide +kernel) hok4 (⟨rfl, ⟨_, rfl, ⟨by omega, by omega⟩⟩⟩)
    · refine sv_tsI C.1 C.2.1 (dflt := 175) (lo := 0) (hi := 3) (offs := #[29, 34, 88, 142]) (len := 29) (off := 34) (tgt := 61) (by decide +kernel) 1 h8 (by decide) rfl (by decide) ?_
      refine sv_go C.1 C.2.1 [(.iconst 0, 1), (.istore_n 3, 1)] (pc' := 63) (by decide +kernel) rfl (lv' := [(0, sv_r a), (1, sv_i ar1), (2, sv_i 0), (3, sv_i 0)]) (st' := []) rfl ?_
      have L11 : ∀ (n : Nat) (Xg10_l2 : Int) (Xg10_l3 : Int), ((-2147483648) ≤ Xg10_l2 ∧ Xg10_l2 ≤ 2147483647) → (0 ≤ Xg10_l3 ∧ Xg10_l3 ≤ 20) → (20 - Xg10_l3) < (n : Int) → sv_E p l e { frames := 1, cells := 0, slots := 0, locals := 25 } s m args below meth c 5 g A ty (fun r σ' => σ = σ' ∧ ∃ rv : Int, r = [sv_i rv] ∧ ((-2147483648) ≤ rv ∧ rv ≤ 2147483647)) σ 63 [(0, sv_r a), (2, sv_i Xg10_l2), (3, sv_i Xg10_l3)] [] := by
        intro n
        induction n with
        | zero => intro Xg10_l2 Xg10_l3 hXg10_l2 hXg10_l3 hmu; exact absurd hmu (by omega)
        | succ n ih12 =>
          intro Xg10_l2 Xg10_l3 hXg10_l2 hXg10_l3 hmu
          refine sv_go C.1 C.2.1 [(.iload_n 3, 1), (.bipush 20, 2)] (pc' := 66) (by decide +kernel) rfl (lv' := [(0, sv_r a), (2, sv_i Xg10_l2), (3, sv_i Xg10_l3)]) (st' := [sv_i 20, sv_i Xg10_l3]) rfl ?_
          refine sv_icmp C.1 C.2.1 (cnd := .ge) (off := 47) (tgt := 113) (by decide +kernel) (by decide) ⟨by omega, by omega⟩ ⟨by omega, by omega⟩ (fun (h13 : 20 ≤ Xg10_l3) => ?_) (fun (h13 : ¬ (20 ≤ Xg10_l3)) => ?_)
          · refine sv_go C.1 C.2.1 [(.iload_n 2, 1)] (pc' := 114) (by decide +kernel) rfl (lv' := [(0, sv_r a), (2, sv_i Xg10_l2), (3, sv_i Xg10_l3)]) (st' := [sv_i Xg10_l2]) rfl ?_
            exact sv_iret C hr (by decide +kernel) hok4 (⟨rfl, ⟨_, rfl, ⟨by omega, by omega⟩⟩⟩)
          · refine sv_go C.1 C.2.1 [(.iconst 0, 1), (.istore 4, 2)] (pc' := 72) (by decide +kernel) rfl (lv' := [(0, sv_r a), (2, sv_i Xg10_l2), (3, sv_i Xg10_l3), (4, sv_i 0)]) (st' := []) rfl ?_
            have L15 : ∀ (n : Nat) (Xg14_l2 : Int) (Xg14_l4 : Int), ((-2147483648) ≤ Xg14_l2 ∧ Xg14_l2 ≤ 2147483647) → (0 ≤ Xg14_l4 ∧ Xg14_l4 ≤ 19) → (19 - Xg14_l4) < (n : Int) → sv_E p l e { frames := 1, cells := 0, slots := 0, locals := 25 } s m args below meth c 5 g A ty (fun r σ' => σ = σ' ∧ ∃ rv : Int, r = [sv_i rv] ∧ ((-2147483648) ≤ rv ∧ rv ≤ 2147483647)) σ 72 [(0, sv_r a), (2, sv_i Xg14_l2), (3, sv_i Xg10_l3), (4, sv_i Xg14_l4)] [] := by
              intro n
              induction n with
              | zero => intro Xg14_l2 Xg14_l4 hXg14_l2 hXg14_l4 hmu; exact absurd hmu (by omega)
              | succ n ih16 =>
                intro Xg14_l2 Xg14_l4 hXg14_l2 hXg14_l4 hmu
                refine sv_go C.1 C.2.1 [(.iload 4, 2), (.iload_n 3, 1)] (pc' := 75) (by decide +kernel) rfl (lv' := [(0, sv_r a), (2, sv_i Xg14_l2), (3, sv_i Xg10_l3), (4, sv_i Xg14_l4)]) (st' := [sv_i Xg10_l3, sv_i Xg14_l4]) rfl ?_
                refine sv_icmp C.1 C.2.1 (cnd := .ge) (off := 32) (tgt := 107) (by decide +kernel) (by decide) ⟨by omega, by omega⟩ ⟨by omega, by omega⟩ (fun (h17 : Xg10_l3 ≤ Xg14_l4) => ?_) (fun (h17 : ¬ (Xg10_l3 ≤ Xg14_l4)) => ?_)
                · refine sv_go C.1 C.2.1 [(.iinc 3 1, 3)] (pc' := 110) (by decide +kernel) rfl (lv' := [(0, sv_r a), (2, sv_i Xg14_l2), (3, sv_i (Xg10_l3 + 1)), (4, sv_i Xg14_l4)]) (st' := []) rfl ?_
                  refine sv_goto C.1 C.2.1 (off := (-47)) (tgt := 63) (by decide +kernel) (by decide) ?_
                  refine sv_pick [0, 1, 2] (lv2 := [(0, sv_r a), (2, sv_i Xg14_l2), (3, sv_i (Xg10_l3 + 1))]) rfl ?_
                  exact ih12 Xg14_l2 (Xg10_l3 + 1) ⟨by omega, by omega⟩ ⟨by omega, by omega⟩ (by omega)
                · refine sv_go C.1 C.2.1 [(.iload_n 2, 1), (.aload_n 0, 1)] (pc' := 80) (by decide +kernel) rfl (lv' := [(0, sv_r a), (2, sv_i Xg14_l2), (3, sv_i Xg10_l3), (4, sv_i Xg14_l4)]) (st' := [sv_r a, sv_i Xg14_l2]) rfl ?_
                  obtain ⟨v18, ev18, kv18⟩ := hI.ref (k := 41) k_a rfl
                  refine sv_gf C (index := 148) (ci := 10) (k := 41) (r := (RX11, TX11, 47)) (v := sv_r v18) (by decide +kernel) (by rw [k_a]; rfl) rfl (by decide) fl_X11_148 (congrArg sv_a ev18) ?_
                  refine sv_go C.1 C.2.1 [(.bipush 20, 2), (.iload_n 3, 1), (.imul, 1), (.iload 4, 2), (.iadd, 1)] (pc' := 90) (by decide +kernel) rfl (lv' := [(0, sv_r a), (2, sv_i Xg14_l2), (3, sv_i Xg10_l3), (4, sv_i Xg14_l4)]) (st' := [sv_i ((20 * Xg10_l3) + Xg14_l4), sv_r v18, sv_i Xg14_l2]) rfl ?_
                  refine sv_ia C (n := 400) (by decide +kernel) (by rw [kv18]; rfl) (by decide) (by omega) (by omega) ?_
                  obtain ⟨v19, ev19, hv19⟩ := sv_rdn hI (k := ((20 * Xg10_l3) + Xg14_l4 : Int).toNat) kv18 rfl
                  rw [ev19]
                  have J22 : ∀ (Jg21_s0 : Int), (0 ≤ Jg21_s0 ∧ Jg21_s0 ≤ 1) → sv_E p l e { frames := 1, cells := 0, slots := 0, locals := 25 } s m args below meth c 5 g A ty (fun r σ' => σ = σ' ∧ ∃ rv : Int, r = [sv_i rv] ∧ ((-2147483648) ≤ rv ∧ rv ≤ 2147483647)) σ 99 [(0, sv_r a), (3, sv_i Xg10_l3), (4, sv_i Xg14_l4)] [sv_i Jg21_s0, sv_i Xg14_l2] := by
                    intro Jg21_s0 hJg21_s0
                    refine sv_go C.1 C.2.1 [(.iadd, 1), (.istore_n 2, 1), (.iinc 4 1, 3)] (pc' := 104) (by decide +kernel) rfl (lv' := [(0, sv_r a), (2, sv_i (Xg14_l2 + Jg21_s0)), (3, sv_i Xg10_l3), (4, sv_i (Xg14_l4 + 1))]) (st' := []) rfl ?_
                    refine sv_goto C.1 C.2.1 (off := (-32)) (tgt := 72) (by decide +kernel) (by decide) ?_
                    obtain ⟨w23, hw23, ew23⟩ := sv_wr (Xg14_l2 + Jg21_s0)
                    refine sv_sameD (st2 := []) (lv2 := [(0, sv_r a), (2, sv_i w23), (3, sv_i Xg10_l3), (4, sv_i (Xg14_l4 + 1))]) (by simp only [List.map_cons, List.map_nil, sv_den_i, ew23]) (by simp only [sv_lm, List.map_cons, List.map_nil, sv_den_i, ew23]) ?_
                    exact ih16 w23 (Xg14_l4 + 1) ⟨by omega, by omega⟩ ⟨by omega, by omega⟩ (by omega)
                  refine sv_if C.1 C.2.1 (cnd := .le) (off := 7) (tgt := 98) (by decide +kernel) (by decide) ⟨by omega, by omega⟩ (fun (h20 : v19 ≤ 0) => ?_) (fun (h20 : ¬ (v19 ≤ 0)) => ?_)
                  · refine sv_go C.1 C.2.1 [(.iconst 0, 1)] (pc' := 99) (by decide +kernel) rfl (lv' := [(0, sv_r a), (2, sv_i Xg14_l2), (3, sv_i Xg10_l3), (4, sv_i Xg14_l4)]) (st' := [sv_i 0, sv_i Xg14_l2]) rfl ?_
                    refine sv_pick [0, 2, 3] (lv2 := [(0, sv_r a), (3, sv_i Xg10_l3), (4, sv_i Xg14_l4)]) rfl ?_
                    exact J22 0 ⟨by omega, by omega⟩
                  · refine sv_go C.1 C.2.1 [(.iconst 1, 1)] (pc' := 95) (by decide +kernel) rfl (lv' := [(0, sv_r a), (2, sv_i Xg14_l2), (3, sv_i Xg10_l3), (4, sv_i Xg14_l4)]) (st' := [sv_i 1, sv_i Xg14_l2]) rfl ?_
                    refine sv_goto C.1 C.2.1 (off := 4) (tgt := 99) (by decide +kernel) (by decide) ?_
                    refine sv_pick [0, 2, 3] (lv2 := [(0, sv_r a), (3, sv_i Xg10_l3), (4, sv_i Xg14_l4)]) rfl ?_
                    exact J22 1 ⟨by omega, by omega⟩
            exact L15 (((19 - 0 : Int)).toNat + 1) Xg10_l2 0 ⟨by omega, by omega⟩ ⟨by omega, by omega⟩ (by omega)
      refine sv_pick [0, 2, 3] (lv2 := [(0, sv_r a), (2, sv_i 0), (3, sv_i 0)]) rfl ?_
      exact L11 (((20 - 0 : Int)).toNat + 1) 0 0 ⟨by omega, by omega⟩ ⟨by omega, by omega⟩ (by omega)
    · refine sv_tsI C.1 C.2.1 (dflt := 175) (lo := 0) (hi := 3) (offs := #[29, 34, 88, 142]) (len := 29) (off := 88) (tgt := 115) (by decide +kernel) 2 h8 (by decide) rfl (by decide) ?_
      refine sv_go C.1 C.2.1 [(.iconst 0, 1), (.istore_n 3, 1)] (pc' := 117) (by decide +kernel) rfl (lv' := [(0, sv_r a), (1, sv_i ar1), (2, sv_i 0), (3, sv_i 0)]) (st' := []) rfl ?_
      have L25 : ∀ (n : Nat) (Xg24_l2 : Int) (Xg24_l3 : Int), ((-2147483648) ≤ Xg24_l2 ∧ Xg24_l2 ≤ 2147483647) → (0 ≤ Xg24_l3 ∧ Xg24_l3 ≤ 10) → (10 - Xg24_l3) < (n : Int) → sv_E p l e { frames := 1, cells := 0, slots := 0, locals := 25 } s m args below meth c 5 g A ty (fun r σ' => σ = σ' ∧ ∃ rv : Int, r = [sv_i rv] ∧ ((-2147483648) ≤ rv ∧ rv ≤ 2147483647)) σ 117 [(0, sv_r a), (2, sv_i Xg24_l2), (3, sv_i Xg24_l3)] [] := by
        intro n
        induction n with
        | zero => intro Xg24_l2 Xg24_l3 hXg24_l2 hXg24_l3 hmu; exact absurd hmu (by omega)
        | succ n ih26 =>
          intro Xg24_l2 Xg24_l3 hXg24_l2 hXg24_l3 hmu
          refine sv_go C.1 C.2.1 [(.iload_n 3, 1), (.bipush 10, 2)] (pc' := 120) (by decide +kernel) rfl (lv' := [(0, sv_r a), (2, sv_i Xg24_l2), (3, sv_i Xg24_l3)]) (st' := [sv_i 10, sv_i Xg24_l3]) rfl ?_
          refine sv_icmp C.1 C.2.1 (cnd := .ge) (off := 47) (tgt := 167) (by decide +kernel) (by decide) ⟨by omega, by omega⟩ ⟨by omega, by omega⟩ (fun (h27 : 10 ≤ Xg24_l3) => ?_) (fun (h27 : ¬ (10 ≤ Xg24_l3)) => ?_)
          · refine sv_go C.1 C.2.1 [(.iload_n 2, 1)] (pc' := 168) (by decide +kernel) rfl (lv' := [(0, sv_r a), (2, sv_i Xg24_l2), (3, sv_i Xg24_l3)]) (st' := [sv_i Xg24_l2]) rfl ?_
            exact sv_iret C hr (by decide +kernel) hok4 (⟨rfl, ⟨_, rfl, ⟨by omega, by omega⟩⟩⟩)
          · refine sv_go C.1 C.2.1 [(.iconst 0, 1), (.istore 4, 2)] (pc' := 126) (by decide +kernel) rfl (lv' := [(0, sv_r a), (2, sv_i Xg24_l2), (3, sv_i Xg24_l3), (4, sv_i 0)]) (st' := []) rfl ?_
            have L29 : ∀ (n : Nat) (Xg28_l2 : Int) (Xg28_l4 : Int), ((-2147483648) ≤ Xg28_l2 ∧ Xg28_l2 ≤ 2147483647) → (0 ≤ Xg28_l4 ∧ Xg28_l4 ≤ 9) → (9 - Xg28_l4) < (n : Int) → sv_E p l e { frames := 1, cells := 0, slots := 0, locals := 25 } s m args below meth c 5 g A ty (fun r σ' => σ = σ' ∧ ∃ rv : Int, r = [sv_i rv] ∧ ((-2147483648) ≤ rv ∧ rv ≤ 2147483647)) σ 126 [(0, sv_r a), (2, sv_i Xg28_l2), (3, sv_i Xg24_l3), (4, sv_i Xg28_l4)] [] := by
              intro n
              induction n with
              | zero => intro Xg28_l2 Xg28_l4 hXg28_l2 hXg28_l4 hmu; exact absurd hmu (by omega)
              | succ n ih30 =>
                intro Xg28_l2 Xg28_l4 hXg28_l2 hXg28_l4 hmu
                refine sv_go C.1 C.2.1 [(.iload 4, 2), (.iload_n 3, 1)] (pc' := 129) (by decide +kernel) rfl (lv' := [(0, sv_r a), (2, sv_i Xg28_l2), (3, sv_i Xg24_l3), (4, sv_i Xg28_l4)]) (st' := [sv_i Xg24_l3, sv_i Xg28_l4]) rfl ?_
                refine sv_icmp C.1 C.2.1 (cnd := .ge) (off := 32) (tgt := 161) (by decide +kernel) (by decide) ⟨by omega, by omega⟩ ⟨by omega, by omega⟩ (fun (h31 : Xg24_l3 ≤ Xg28_l4) => ?_) (fun (h31 : ¬ (Xg24_l3 ≤ Xg28_l4)) => ?_)
                · refine sv_go C.1 C.2.1 [(.iinc 3 1, 3)] (pc' := 164) (by decide +kernel) rfl (lv' := [(0, sv_r a), (2, sv_i Xg28_l2), (3, sv_i (Xg24_l3 + 1)), (4, sv_i Xg28_l4)]) (st' := []) rfl ?_
                  refine sv_goto C.1 C.2.1 (off := (-47)) (tgt := 117) (by decide +kernel) (by decide) ?_
                  refine sv_pick [0, 1, 2] (lv2 := [(0, sv_r a), (2, sv_i Xg28_l2), (3, sv_i (Xg24_l3 + 1))]) rfl ?_
                  exact ih26 Xg28_l2 (Xg24_l3 + 1) ⟨by omega, by omega⟩ ⟨by omega, by omega⟩ (by omega)
                · refine sv_go C.1 C.2.1 [(.iload_n 2, 1), (.aload_n 0, 1)] (pc' := 134) (by decide +kernel) rfl (lv' := [(0, sv_r a), (2, sv_i Xg28_l2), (3, sv_i Xg24_l3), (4, sv_i Xg28_l4)]) (st' := [sv_r a, sv_i Xg28_l2]) rfl ?_
                  obtain ⟨v32, ev32, kv32⟩ := hI.ref (k := 33) k_a rfl
                  refine sv_gf C (index := 127) (ci := 10) (k := 33) (r := (RX11, TX11, 47)) (v := sv_r v32) (by decide +kernel) (by rw [k_a]; rfl) rfl (by decide) fl_X11_127 (congrArg sv_a ev32) ?_
                  refine sv_go C.1 C.2.1 [(.bipush 10, 2), (.iload_n 3, 1), (.imul, 1), (.iload 4, 2), (.iadd, 1)] (pc' := 144) (by decide +kernel) rfl (lv' := [(0, sv_r a), (2, sv_i Xg28_l2), (3, sv_i Xg24_l3), (4, sv_i Xg28_l4)]) (st' := [sv_i ((10 * Xg24_l3) + Xg28_l4), sv_r v32, sv_i Xg28_l2]) rfl ?_
                  refine sv_za C (n := 100) (by decide +kernel) (by rw [kv32]; rfl) (by decide) (by omega) (by omega) ?_
                  obtain ⟨v33, ev33, hv33⟩ := sv_rdez hok4 (a := v32) (k := ((10 * Xg24_l3) + Xg28_l4 : Int).toNat) (n := 100) (by rw [kv32]; rfl) (by omega)
                  rw [ev33]
                  have J36 : ∀ (Jg35_s0 : Int), (0 ≤ Jg35_s0 ∧ Jg35_s0 ≤ 1) → sv_E p l e { frames := 1, cells := 0, slots := 0, locals := 25 } s m args below meth c 5 g A ty (fun r σ' => σ = σ' ∧ ∃ rv : Int, r = [sv_i rv] ∧ ((-2147483648) ≤ rv ∧ rv ≤ 2147483647)) σ 153 [(0, sv_r a), (3, sv_i Xg24_l3), (4, sv_i Xg28_l4)] [sv_i Jg35_s0, sv_i Xg28_l2] := by
                    intro Jg35_s0 hJg35_s0
                    refine sv_go C.1 C.2.1 [(.iadd, 1), (.istore_n 2, 1), (.iinc 4 1, 3)] (pc' := 158) (by decide +kernel) rfl (lv' := [(0, sv_r a), (2, sv_i (Xg28_l2 + Jg35_s0)), (3, sv_i Xg24_l3), (4, sv_i (Xg28_l4 + 1))]) (st' := []) rfl ?_
                    refine sv_goto C.1 C.2.1 (off := (-32)) (tgt := 126) (by decide +kernel) (by decide) ?_
                    obtain ⟨w37, hw37, ew37⟩ := sv_wr (Xg28_l2 + Jg35_s0)
                    refine sv_sameD (st2 := []) (lv2 := [(0, sv_r a), (2, sv_i w37), (3, sv_i Xg24_l3), (4, sv_i (Xg28_l4 + 1))]) (by simp only [List.map_cons, List.map_nil, sv_den_i, ew37]) (by simp only [sv_lm, List.map_cons, List.map_nil, sv_den_i, ew37]) ?_
                    exact ih30 w37 (Xg28_l4 + 1) ⟨by omega, by omega⟩ ⟨by omega, by omega⟩ (by omega)
                  refine sv_if C.1 C.2.1 (cnd := .eq) (off := 7) (tgt := 152) (by decide +kernel) (by decide) ⟨by omega, by omega⟩ (fun (h34 : v33 = 0) => ?_) (fun (h34 : ¬ (v33 = 0)) => ?_)
                  · refine sv_go C.1 C.2.1 [(.iconst 0, 1)] (pc' := 153) (by decide +kernel) rfl (lv' := [(0, sv_r a), (2, sv_i Xg28_l2), (3, sv_i Xg24_l3), (4, sv_i Xg28_l4)]) (st' := [sv_i 0, sv_i Xg28_l2]) rfl ?_
                    refine sv_pick [0, 2, 3] (lv2 := [(0, sv_r a), (3, sv_i Xg24_l3), (4, sv_i Xg28_l4)]) rfl ?_
                    exact J36 0 ⟨by omega, by omega⟩
                  · refine sv_go C.1 C.2.1 [(.iconst 1, 1)] (pc' := 149) (by decide +kernel) rfl (lv' := [(0, sv_r a), (2, sv_i Xg28_l2), (3, sv_i Xg24_l3), (4, sv_i Xg28_l4)]) (st' := [sv_i 1, sv_i Xg28_l2]) rfl ?_
                    refine sv_goto C.1 C.2.1 (off := 4) (tgt := 153) (by decide +kernel) (by decide) ?_
                    refine sv_pick [0, 2, 3] (lv2 := [(0, sv_r a), (3, sv_i Xg24_l3), (4, sv_i Xg28_l4)]) rfl ?_
                    exact J36 1 ⟨by omega, by omega⟩
            exact L29 (((9 - 0 : Int)).toNat + 1) Xg24_l2 0 ⟨by omega, by omega⟩ ⟨by omega, by omega⟩ (by omega)
      refine sv_pick [0, 2, 3] (lv2 := [(0, sv_r a), (2, sv_i 0), (3, sv_i 0)]) rfl ?_
      exact L25 (((10 - 0 : Int)).toNat + 1) 0 0 ⟨by omega, by omega⟩ ⟨by omega, by omega⟩ (by omega)
    · refine sv_tsI C.1 C.2.1 (dflt := 175) (lo := 0) (hi := 3) (offs := #[29, 34, 88, 142]) (len := 29) (off := 142) (tgt := 169) (by decide +kernel) 3 h8 (by decide) rfl (by decide) ?_
      refine sv_go C.1 C.2.1 [(.iconst 0, 1), (.istore_n 3, 1)] (pc' := 171) (by decide +kernel) rfl (lv' := [(0, sv_r a), (1, sv_i ar1), (2, sv_i 0), (3, sv_i 0)]) (st' := []) rfl ?_
      have L39 : ∀ (n : Nat) (Xg38_l2 : Int) (Xg38_l3 : Int), ((-2147483648) ≤ Xg38_l2 ∧ Xg38_l2 ≤ 2147483647) → (0 ≤ Xg38_l3 ∧ Xg38_l3 ≤ 12) → (12 - Xg38_l3) < (n : Int) → sv_E p l e { frames := 1, cells := 0, slots := 0, locals := 25 } s m args below meth c 5 g A ty (fun r σ' => σ = σ' ∧ ∃ rv : Int, r = [sv_i rv] ∧ ((-2147483648) ≤ rv ∧ rv ≤ 2147483647)) σ 171 [(0, sv_r a), (2, sv_i Xg38_l2), (3, sv_i Xg38_l3)] [] := by
        intro n
        induction n with
        | zero => intro Xg38_l2 Xg38_l3 hXg38_l2 hXg38_l3 hmu; exact absurd hmu (by omega)
        | succ n ih40 =>
          intro Xg38_l2 Xg38_l3 hXg38_l2 hXg38_l3 hmu
          refine sv_go C.1 C.2.1 [(.iload_n 3, 1), (.bipush 12, 2)] (pc' := 174) (by decide +kernel) rfl (lv' := [(0, sv_r a), (2, sv_i Xg38_l2), (3, sv_i Xg38_l3)]) (st' := [sv_i 12, sv_i Xg38_l3]) rfl ?_
          refine sv_icmp C.1 C.2.1 (cnd := .ge) (off := 26) (tgt := 200) (by decide +kernel) (by decide) ⟨by omega, by omega⟩ ⟨by omega, by omega⟩ (fun (h41 : 12 ≤ Xg38_l3) => ?_) (fun (h41 : ¬ (12 ≤ Xg38_l3)) => ?_)
          · refine sv_go C.1 C.2.1 [(.iload_n 2, 1)] (pc' := 201) (by decide +kernel) rfl (lv' := [(0, sv_r a), (2, sv_i Xg38_l2), (3, sv_i Xg38_l3)]) (st' := [sv_i Xg38_l2]) rfl ?_
            exact sv_iret C hr (by decide +kernel) hok4 (⟨rfl, ⟨_, rfl, ⟨by omega, by omega⟩⟩⟩)
          · refine sv_go C.1 C.2.1 [(.iload_n 2, 1), (.aload_n 0, 1)] (pc' := 179) (by decide +kernel) rfl (lv' := [(0, sv_r a), (2, sv_i Xg38_l2), (3, sv_i Xg38_l3)]) (st' := [sv_r a, sv_i Xg38_l2]) rfl ?_
            obtain ⟨v42, ev42, kv42⟩ := hI.ref (k := 42) k_a rfl
            refine sv_gf C (index := 151) (ci := 10) (k := 42) (r := (RX11, TX11, 47)) (v := sv_r v42) (by decide +kernel) (by rw [k_a]; rfl) rfl (by decide) fl_X11_151 (congrArg sv_a ev42) ?_
            refine sv_go C.1 C.2.1 [(.iload_n 3, 1)] (pc' := 183) (by decide +kernel) rfl (lv' := [(0, sv_r a), (2, sv_i Xg38_l2), (3, sv_i Xg38_l3)]) (st' := [sv_i Xg38_l3, sv_r v42, sv_i Xg38_l2]) rfl ?_
            refine sv_ia C (n := 12) (by decide +kernel) (by rw [kv42]; rfl) (by decide) (by omega) (by omega) ?_
            obtain ⟨v43, ev43, hv43⟩ := sv_rdn hI (k := (Xg38_l3 : Int).toNat) kv42 rfl
            rw [ev43]
            have J46 : ∀ (Jg45_s0 : Int), (0 ≤ Jg45_s0 ∧ Jg45_s0 ≤ 1) → sv_E p l e { frames := 1, cells := 0, slots := 0, locals := 25 } s m args below meth c 5 g A ty (fun r σ' => σ = σ' ∧ ∃ rv : Int, r = [sv_i rv] ∧ ((-2147483648) ≤ rv ∧ rv ≤ 2147483647)) σ 192 [(0, sv_r a), (3, sv_i Xg38_l3)] [sv_i Jg45_s0, sv_i Xg38_l2] := by
              intro Jg45_s0 hJg45_s0
              refine sv_go C.1 C.2.1 [(.iadd, 1), (.istore_n 2, 1), (.iinc 3 1, 3)] (pc' := 197) (by decide +kernel) rfl (lv' := [(0, sv_r a), (2, sv_i (Xg38_l2 + Jg45_s0)), (3, sv_i (Xg38_l3 + 1))]) (st' := []) rfl ?_
              refine sv_goto C.1 C.2.1 (off := (-26)) (tgt := 171) (by decide +kernel) (by decide) ?_
              obtain ⟨w47, hw47, ew47⟩ := sv_wr (Xg38_l2 + Jg45_s0)
              refine sv_sameD (st2 := []) (lv2 := [(0, sv_r a), (2, sv_i w47), (3, sv_i (Xg38_l3 + 1))]) (by simp only [List.map_cons, List.map_nil, sv_den_i, ew47]) (by simp only [sv_lm, List.map_cons, List.map_nil, sv_den_i, ew47]) ?_
              exact ih40 w47 (Xg38_l3 + 1) ⟨by omega, by omega⟩ ⟨by omega, by omega⟩ (by omega)
            refine sv_if C.1 C.2.1 (cnd := .le) (off := 7) (tgt := 191) (by decide +kernel) (by decide) ⟨by omega, by omega⟩ (fun (h44 : v43 ≤ 0) => ?_) (fun (h44 : ¬ (v43 ≤ 0)) => ?_)
            · refine sv_go C.1 C.2.1 [(.iconst 0, 1)] (pc' := 192) (by decide +kernel) rfl (lv' := [(0, sv_r a), (2, sv_i Xg38_l2), (3, sv_i Xg38_l3)]) (st' := [sv_i 0, sv_i Xg38_l2]) rfl ?_
              refine sv_pick [0, 2] (lv2 := [(0, sv_r a), (3, sv_i Xg38_l3)]) rfl ?_
              exact J46 0 ⟨by omega, by omega⟩
            · refine sv_go C.1 C.2.1 [(.iconst 1, 1)] (pc' := 188) (by decide +kernel) rfl (lv' := [(0, sv_r a), (2, sv_i Xg38_l2), (3, sv_i Xg38_l3)]) (st' := [sv_i 1, sv_i Xg38_l2]) rfl ?_
              refine sv_goto C.1 C.2.1 (off := 4) (tgt := 192) (by decide +kernel) (by decide) ?_
              refine sv_pick [0, 2] (lv2 := [(0, sv_r a), (3, sv_i Xg38_l3)]) rfl ?_
              exact J46 1 ⟨by omega, by omega⟩
      refine sv_pick [0, 2, 3] (lv2 := [(0, sv_r a), (2, sv_i 0), (3, sv_i 0)]) rfl ?_
      exact L39 (((12 - 0 : Int)).toNat + 1) 0 0 ⟨by omega, by omega⟩ ⟨by omega, by omega⟩ (by omega)
    · refine sv_tsO C.1 C.2.1 (dflt := 175) (lo := 0) (hi := 3) (offs := #[29, 34, 88, 142]) (len := 29) (tgt := 202) (by decide +kernel) ⟨by omega, by omega⟩ (by omega) (by decide) ?_
      refine sv_go C.1 C.2.1 [(.iconst (-1), 1)] (pc' := 203) (by decide +kernel) rfl (lv' := [(0, sv_r a), (1, sv_i ar1), (2, sv_i 0)]) (st' := [sv_i ((-1))]) rfl ?_
      exact sv_iret C hr (by decide +kernel) hok4 (⟨rfl, ⟨_, rfl, ⟨by omega, by omega⟩⟩⟩)
