theorem cl_X11_275 : Cond.constantLong RX11 275 (3) ∈ lw_good := sv_mem 1265 (by decide +kernel) rfl
set_option maxHeartbeats 4000000 in
set_option maxRecDepth 100000 in
theorem ct_X11_isPlace (l : Launch) (g : sv_G) (A : Nat → Prop) (ty : Nat → Nat) (σ : Nat → Nat → Int) (hok : sv_ok ty σ) (v : Int) (hv : sv_in v) : sv_M l yX11_isPlace cX11_isPlace 1 (some .boolean) { frames := 1, cells := 0, slots := 0, locals := 25 } g A ty σ [sv_i v] (fun r σ' => σ = σ' ∧ sv_bo (0 ≤ v ∧ v ≤ 3) r) := by
  refine sv_enter (by decide) (Nat.le_of_ble_eq_true rfl) ?_
  intro p e s m args below meth c C hr
  have C : sv_C g A RX11 cX11_isPlace 1 p s m args meth c := C
  have hr : meth.sig.returnType = (some .boolean) := hr
  refine sv_same (st2 := []) (lv2 := [(0, sv_i v)]) rfl rfl ?_
  refine sv_go C.1 C.2.1 [(.iload_n 0, 1)] (pc' := 1) (by decide +kernel) rfl (lv' := [(0, sv_i v)]) (st' := [sv_i v]) rfl ?_
  refine sv_i2l C.1 C.2.1 (by decide +kernel) ⟨by omega, by omega⟩ ?_
  refine sv_go C.1 C.2.1 [(.lconst 0, 1)] (pc' := 3) (by decide +kernel) rfl (lv' := [(0, sv_i v)]) (st' := [sv_l 0, sv_l v]) rfl ?_
  refine sv_ldc2 C (index := 275) (z := 3) (by decide +kernel) cl_X11_275 (by decide) ?_
  refine sv_cs C (index := 9) (k := 3) (rest := []) (by decide +kernel) (ct_X11_in l g A ty σ hok (v) ⟨by omega, by omega⟩ (0) ⟨by omega, by omega⟩ (3) ⟨by omega, by omega⟩) ⟨co_X11_in, in_X11, ⟨by decide, by decide, by decide +kernel⟩, Nat.le_of_ble_eq_true rfl, Nat.le_of_ble_eq_true rfl⟩ ml_X11_9 st_X11_in rfl rfl (Nat.le_of_ble_eq_true rfl) ⟨Nat.zero_le _, Nat.zero_le _⟩ (fun r2 σ3 hpo1 hok4 => ?_)
  obtain ⟨rfl, ⟨h5, rfl⟩ | ⟨h5, rfl⟩⟩ := hpo1
  · refine sv_same (st2 := [sv_i 1]) (lv2 := [(0, sv_i v)]) rfl rfl ?_
    exact sv_zret C hr (by first | exact Or.inl rfl | exact Or.inr rfl | omega) (by decide +kernel) hok4 (by first | exact ⟨rfl, Or.inl ⟨by omega, rfl⟩⟩ | exact ⟨rfl, Or.inr ⟨by omega, rfl⟩⟩)
  · refine sv_same (st2 := [sv_i 0]) (lv2 := [(0, sv_i v)]) rfl rfl ?_
    exact sv_zret C hr (by first | exact Or.inl rfl | exact Or.inr rfl | omega) (by decide +kernel) hok4 (by first | exact ⟨rfl, Or.inl ⟨by omega, rfl⟩⟩ | exact ⟨rfl, Or.inr ⟨by omega, rfl⟩⟩)

theorem cl_X11_292 : Cond.constantLong RX11 292 (9) ∈ lw_good := sv_mem 1361 (by decide +kernel) rfl
set_option maxHeartbeats 4000000 in
set_option maxRecDepth 100000 in
theorem ct_X11_isBrotherhood (l : Launch) (g : sv_G) (A : Nat → Prop) (ty : Nat → Nat) (σ : Nat → Nat → Int) (hok : sv_ok ty σ) (v : Int) (hv : sv_in v) : sv_M l yX11_isBrotherhood cX11_isBrotherhood 1 (some .boolean) { frames := 1, cells := 0, slots := 0, locals := 25 } g A ty σ [sv_i v] (fun r σ' => σ = σ' ∧ sv_bo (0 ≤ v ∧ v ≤ 9) r) := by
  refine sv_enter (by decide) (Nat.le_of_ble_eq_true rfl) ?_
  intro p e s m args below meth c C hr
  have C : sv_C g A RX11 cX11_isBrotherhood 1 p s m args meth c := C
  have hr : meth.sig.returnType = (some .boolean) := hr
  refine sv_same (st2 := []) (lv2 := [(0, sv_i v)]) rfl rfl ?_
  refine sv_go C.1 C.2.1 [(.iload_n 0, 1)] (pc' := 1) (by decide +kernel) rfl (lv' := [(0, sv_i v)]) (st' := [sv_i v]) rfl ?_
  refine sv_i2l C.1 C.2.1 (by decide +kernel) ⟨by omega, by omega⟩ ?_
  refine sv_go C.1 C.2.1 [(.lconst 0, 1)] (pc' := 3) (by decide +kernel) rfl (lv' := [(0, sv_i v)]) (st' := [sv_l 0, sv_l v]) rfl ?_
  refine sv_ldc2 C (index := 292) (z := 9) (by decide +kernel) cl_X11_292 (by decide) ?_
  refine sv_cs C (index := 9) (k := 3) (rest := []) (by decide +kernel) (ct_X11_in l g A ty σ hok (v) ⟨by omega, by omega⟩ (0) ⟨by omega, by omega⟩ (9) ⟨by omega, by omega⟩) ⟨co_X11_in, in_X11, ⟨by decide, by decide, by decide +kernel⟩, Nat.le_of_ble_eq_true rfl, Nat.le_of_ble_eq_true rfl⟩ ml_X11_9 st_X11_in rfl rfl (Nat.le_of_ble_eq_true rfl) ⟨Nat.zero_le _, Nat.zero_le _⟩ (fun r2 σ3 hpo1 hok4 => ?_)
  obtain ⟨rfl, ⟨h5, rfl⟩ | ⟨h5, rfl⟩⟩ := hpo1
  · refine sv_same (st2 := [sv_i 1]) (lv2 := [(0, sv_i v)]) rfl rfl ?_
    exact sv_zret C hr (by first | exact Or.inl rfl | exact Or.inr rfl | omega) (by decide +kernel) hok4 (by first | exact ⟨rfl, Or.inl ⟨by omega, rfl⟩⟩ | exact ⟨rfl, Or.inr ⟨by omega, rfl⟩⟩)
  · refine sv_same (st2 := [sv_i 0]) (lv2 := [(0, sv_i v)]) rfl rfl ?_
    exact sv_zret C hr (by first | exact Or.inl rfl | exact Or.inr rfl | omega) (by decide +kernel) hok4 (by first | exact ⟨rfl, Or.inl ⟨by omega, rfl⟩⟩ | exact ⟨rfl, Or.inr ⟨by omega, rfl⟩⟩)

theorem cl_X11_336 : Cond.constantLong RX11 336 (19) ∈ lw_good := sv_mem 1452 (by decide +kernel) rfl
set_option maxHeartbeats 4000000 in
set_option maxRecDepth 100000 in
theorem ct_X11_isCorner (l : Launch) (g : sv_G) (A : Nat → Prop) (ty : Nat → Nat) (σ : Nat → Nat → Int) (hok : sv_ok ty σ) (v : Int) (hv : sv_in v) : sv_M l yX11_isCorner cX11_isCorner 1 (some .boolean) { frames := 1, cells := 0, slots := 0, locals := 25 } g A ty σ [sv_i v] (fun r σ' => σ = σ' ∧ sv_bo (0 ≤ v ∧ v ≤ 19) r) := by
  refine sv_enter (by decide) (Nat.le_of_ble_eq_true rfl) ?_
  intro p e s m args below meth c C hr
  have C : sv_C g A RX11 cX11_isCorner 1 p s m args meth c := C
  have hr : meth.sig.returnType = (some .boolean) := hr
  refine sv_same (st2 := []) (lv2 := [(0, sv_i v)]) rfl rfl ?_
  refine sv_go C.1 C.2.1 [(.iload_n 0, 1)] (pc' := 1) (by decide +kernel) rfl (lv' := [(0, sv_i v)]) (st' := [sv_i v]) rfl ?_
  refine sv_i2l C.1 C.2.1 (by decide +kernel) ⟨by omega, by omega⟩ ?_
  refine sv_go C.1 C.2.1 [(.lconst 0, 1)] (pc' := 3) (by decide +kernel) rfl (lv' := [(0, sv_i v)]) (st' := [sv_l 0, sv_l v]) rfl ?_
  refine sv_ldc2 C (index := 336) (z := 19) (by decide +kernel) cl_X11_336 (by decide) ?_
  refine sv_cs C (index := 9) (k := 3) (rest := []) (by decide +kernel) (ct_X11_in l g A ty σ hok (v) ⟨by omega, by omega⟩ (0) ⟨by omega, by omega⟩ (19) ⟨by omega, by omega⟩) ⟨co_X11_in, in_X11, ⟨by decide, by decide, by decide +kernel⟩, Nat.le_of_ble_eq_true rfl, Nat.le_of_ble_eq_true rfl⟩ ml_X11_9 st_X11_in rfl rfl (Nat.le_of_ble_eq_true rfl) ⟨Nat.zero_le _, Nat.zero_le _⟩ (fun r2 σ3 hpo1 hok4 => ?_)
  obtain ⟨rfl, ⟨h5, rfl⟩ | ⟨h5, rfl⟩⟩ := hpo1
  · refine sv_same (st2 := [sv_i 1]) (lv2 := [(0, sv_i v)]) rfl rfl ?_
    exact sv_zret C hr (by first | exact Or.inl rfl | exact Or.inr rfl | omega) (by decide +kernel) hok4 (by first | exact ⟨rfl, Or.inl ⟨by omega, rfl⟩⟩ | exact ⟨rfl, Or.inr ⟨by omega, rfl⟩⟩)
  · refine sv_same (st2 := [sv_i 0]) (lv2 := [(0, sv_i v)]) rfl rfl ?_
    exact sv_zret C hr (by first | exact Or.inl rfl | exact Or.inr rfl | omega) (by decide +kernel) hok4 (by first | exact ⟨rfl, Or.inl ⟨by omega, rfl⟩⟩ | exact ⟨rfl, Or.inr ⟨by omega, rfl⟩⟩)

theorem cl_X11_343 : Cond.constantLong RX11 343 (11) ∈ lw_good := sv_mem 1461 (by decide +kernel) rfl
set_option maxHeartbeats 4000000 in
set_option maxRecDepth 100000 in
theorem ct_X11_isWalk (l : Launch) (g : sv_G) (A : Nat → Prop) (ty : Nat → Nat) (σ : Nat → Nat → Int) (hok : sv_ok ty σ) (v : Int) (hv : sv_in v) : sv_M l yX11_isWalk cX11_isWalk 1 (some .boolean) { frames := 1, cells := 0, slots := 0, locals := 25 } g A ty σ [sv_i v] (fun r σ' => σ = σ' ∧ sv_bo (0 ≤ v ∧ v ≤ 11) r) := by
  refine sv_enter (by decide) (Nat.le_of_ble_eq_true rfl) ?_
  intro p e s m args below meth c C hr
  have C : sv_C g A RX11 cX11_isWalk 1 p s m args meth c := C
  have hr : meth.sig.returnType = (some .boolean) := hr
  refine sv_same (st2 := []) (lv2 := [(0, sv_i v)]) rfl rfl ?_
  refine sv_go C.1 C.2.1 [(.iload_n 0, 1)] (pc' := 1) (by decide +kernel) rfl (lv' := [(0, sv_i v)]) (st' := [sv_i v]) rfl ?_
  refine sv_i2l C.1 C.2.1 (by decide +kernel) ⟨by omega, by omega⟩ ?_
  refine sv_go C.1 C.2.1 [(.lconst 0, 1)] (pc' := 3) (by decide +kernel) rfl (lv' := [(0, sv_i v)]) (st' := [sv_l 0, sv_l v]) rfl ?_
  refine sv_ldc2 C (index := 343) (z := 11) (by decide +kernel) cl_X11_343 (by decide) ?_
  refine sv_cs C (index := 9) (k := 3) (rest := []) (by decide +kernel) (ct_X11_in l g A ty σ hok (v) ⟨by omega, by omega⟩ (0) ⟨by omega, by omega⟩ (11) ⟨by omega, by omega⟩) ⟨co_X11_in, in_X11, ⟨by decide, by decide, by decide +kernel⟩, Nat.le_of_ble_eq_true rfl, Nat.le_of_ble_eq_true rfl⟩ ml_X11_9 st_X11_in rfl rfl (Nat.le_of_ble_eq_true rfl) ⟨Nat.zero_le _, Nat.zero_le _⟩ (fun r2 σ3 hpo1 hok4 => ?_)
  obtain ⟨rfl, ⟨h5, rfl⟩ | ⟨h5, rfl⟩⟩ := hpo1
  · refine sv_same (st2 := [sv_i 1]) (lv2 := [(0, sv_i v)]) rfl rfl ?_
    exact sv_zret C hr (by first | exact Or.inl rfl | exact Or.inr rfl | omega) (by decide +kernel) hok4 (by first | exact ⟨rfl, Or.inl ⟨by omega, rfl⟩⟩ | exact ⟨rfl, Or.inr ⟨by omega, rfl⟩⟩)
  · refine sv_same (st2 := [sv_i 0]) (lv2 := [(0, sv_i v)]) rfl rfl ?_
    exact sv_zret C hr (by first | exact Or.inl rfl | exact Or.inr rfl | omega) (by decide +kernel) hok4 (by first | exact ⟨rfl, Or.inl ⟨by omega, rfl⟩⟩ | exact ⟨rfl, Or.inr ⟨by omega, rfl⟩⟩)

theorem ml_X11_277 : Cond.methodLink RX11 277 yX11_isPlace ∈ lw_good := sv_mem 1262 (by decide +kernel) rfl
theorem co_X11_isPlace : Cond.code yX11_isPlace cX11_isPlace 1 (some .boolean) ∈ lw_good := sv_mem 1264 (by decide +kernel) rfl
theorem st_X11_isPlace : Cond.static yX11_isPlace ∈ lw_good := sv_mem 1263 (by decide +kernel) rfl
theorem fl_X11_47 : Cond.fieldLink RX11 47 "SaintsRoadModel" "feasts" "[I" ∈ lw_good := sv_mem 1104 (by decide +kernel) rfl
set_option maxHeartbeats 4000000 in
set_option maxRecDepth 100000 in
theorem ct_X11_isFeast (l : Launch) (g : sv_G) (A : Nat → Prop) (ty : Nat → Nat) (σ : Nat → Nat → Int) (hok : sv_ok ty σ) (hI : sv_inv sp_1 ty σ) (a : Nat) (k_a : ty a = 10) (v1 : Int) (hv1 : sv_in v1) (v2 : Int) (hv2 : sv_in v2) : sv_M l yX11_isFeast cX11_isFeast 3 (some .boolean) { frames := 2, cells := 0, slots := 0, locals := 45 } g A ty σ [sv_r a, sv_i v1, sv_i v2] (fun r σ' => σ = σ' ∧ sv_bo False r) := by
  refine sv_enter (by decide) (Nat.le_of_ble_eq_true rfl) ?_
  intro p e s m args below meth c C hr
  have C : sv_C g A RX11 cX11_isFeast 3 p s m args meth c := C
  have hr : meth.sig.returnType = (some .boolean) := hr
  refine sv_same (st2 := []) (lv2 := [(0, sv_r a), (1, sv_i v1), (2, sv_i v2)]) rfl rfl ?_
  refine sv_go C.1 C.2.1 [(.iload_n 1, 1)] (pc' := 1) (by decide +kernel) rfl (lv' := [(0, sv_r a), (1, sv_i v1), (2, sv_i v2)]) (st' := [sv_i v1]) rfl ?_
  refine sv_cs C (index := 277) (k := 1) (rest := []) (by decide +kernel) (ct_X11_isPlace l g A ty σ hok (v1) ⟨by omega, by omega⟩) ⟨co_X11_isPlace, in_X11, ⟨by decide, by decide, by decide +kernel⟩, Nat.le_of_ble_eq_true rfl, Nat.le_of_ble_eq_true rfl⟩ ml_X11_277 st_X11_isPlace rfl rfl (Nat.le_of_ble_eq_true rfl) ⟨Nat.zero_le _, Nat.zero_le _⟩ (fun r2 σ3 hpo1 hok4 => ?_)
  obtain ⟨rfl, ⟨h5, rfl⟩ | ⟨h5, rfl⟩⟩ := hpo1
  · refine sv_same (st2 := [sv_i 1]) (lv2 := [(0, sv_r a), (1, sv_i v1), (2, sv_i v2)]) rfl rfl ?_
    refine sv_if_f C.1 C.2.1 (cnd := .eq) (off := 25) (tgt := 29) (by decide +kernel) (by decide) ⟨by omega, by omega⟩ (show ¬ (1 = 0) by omega) ?_
    refine sv_go C.1 C.2.1 [(.iload_n 2, 1)] (pc' := 8) (by decide +kernel) rfl (lv' := [(0, sv_r a), (1, sv_i v1), (2, sv_i v2)]) (st' := [sv_i v2]) rfl ?_
    refine sv_i2l C.1 C.2.1 (by decide +kernel) ⟨by omega, by omega⟩ ?_
    refine sv_go C.1 C.2.1 [(.lconst 0, 1), (.aload_n 0, 1)] (pc' := 11) (by decide +kernel) rfl (lv' := [(0, sv_r a), (1, sv_i v1), (2, sv_i v2)]) (st' := [sv_r a, sv_l 0, sv_l v2]) rfl ?_
    obtain ⟨q6, eq6, kq6⟩ := hI.ref (k := 0) k_a rfl
    refine sv_gf C (index := 47) (ci := 10) (k := 0) (r := (RX11, TX11, 47)) (v := sv_r q6) (by decide +kernel) (by rw [k_a]; rfl) rfl (by decide) fl_X11_47 (congrArg sv_a eq6) ?_
    refine sv_go C.1 C.2.1 [(.iload_n 1, 1)] (pc' := 15) (by decide +kernel) rfl (lv' := [(0, sv_r a), (1, sv_i v1), (2, sv_i v2)]) (st' := [sv_i v1, sv_r q6, sv_l 0, sv_l v2]) rfl ?_
    refine sv_ia C (n := 5) (by decide +kernel) (by rw [kq6]; rfl) (by decide) (by omega) (by omega) ?_
    have w7 : σ q6 v1.toNat = 0 := by have q := hI.num (k := (v1 : Int).toNat) kq6 rfl; omega
    rw [w7]
    refine sv_i2l C.1 C.2.1 (by decide +kernel) ⟨by omega, by omega⟩ ?_
    refine sv_go C.1 C.2.1 [(.lconst 1, 1), (.lsub, 1)] (pc' := 19) (by decide +kernel) rfl (lv' := [(0, sv_r a), (1, sv_i v1), (2, sv_i v2)]) (st' := [sv_l (0 - 1), sv_l 0, sv_l v2]) rfl ?_
    refine sv_cs C (index := 9) (k := 3) (rest := []) (by decide +kernel) (ct_X11_in l g A ty σ hok4 (v2) ⟨by omega, by omega⟩ (0) ⟨by omega, by omega⟩ (0 - 1) ⟨by omega, by omega⟩) ⟨co_X11_in, in_X11, ⟨by decide, by decide, by decide +kernel⟩, Nat.le_of_ble_eq_true rfl, Nat.le_of_ble_eq_true rfl⟩ ml_X11_9 st_X11_in rfl rfl (Nat.le_of_ble_eq_true rfl) ⟨Nat.zero_le _, Nat.zero_le _⟩ (fun r9 σ10 hpo8 hok11 => ?_)
    obtain ⟨rfl, ⟨h12, rfl⟩ | ⟨h12, rfl⟩⟩ := hpo8
    · refine sv_same (st2 := [sv_i 1]) (lv2 := [(0, sv_r a), (1, sv_i v1), (2, sv_i v2)]) rfl rfl ?_
      refine sv_if_f C.1 C.2.1 (cnd := .eq) (off := 7) (tgt := 29) (by decide +kernel) (by decide) ⟨by omega, by omega⟩ (show ¬ (1 = 0) by omega) ?_
      refine sv_go C.1 C.2.1 [(.iconst 1, 1)] (pc' := 26) (by decide +kernel) rfl (lv' := [(0, sv_r a), (1, sv_i v1), (2, sv_i v2)]) (st' := [sv_i 1]) rfl ?_
      refine sv_goto C.1 C.2.1 (off := 4) (tgt := 30) (by decide +kernel) (by decide) ?_
      exact sv_zret C hr (by first | exact Or.inl rfl | exact Or.inr rfl | omega) (by decide +kernel) hok11 (⟨rfl, Or.inl ⟨by omega, rfl⟩⟩)
    · refine sv_same (st2 := [sv_i 0]) (lv2 := [(0, sv_r a), (1, sv_i v1), (2, sv_i v2)]) rfl rfl ?_
      refine sv_if_t C.1 C.2.1 (cnd := .eq) (off := 7) (tgt := 29) (by decide +kernel) (by decide) ⟨by omega, by omega⟩ (show 0 = 0 by omega) ?_
      refine sv_go C.1 C.2.1 [(.iconst 0, 1)] (pc' := 30) (by decide +kernel) rfl (lv' := [(0, sv_r a), (1, sv_i v1), (2, sv_i v2)]) (st' := [sv_i 0]) rfl ?_
      exact sv_zret C hr (by first | exact Or.inl rfl | exact Or.inr rfl | omega) (by decide +kernel) hok11 (⟨rfl, Or.inr ⟨id, rfl⟩⟩)
  · refine sv_same (st2 := [sv_i 0]) (lv2 := [(0, sv_r a), (1, sv_i v1), (2, sv_i v2)]) rfl rfl ?_
    refine sv_if_t C.1 C.2.1 (cnd := .eq) (off := 25) (tgt := 29) (by decide +kernel) (by decide) ⟨by omega, by omega⟩ (show 0 = 0 by omega) ?_
    refine sv_go C.1 C.2.1 [(.iconst 0, 1)] (pc' := 30) (by decide +kernel) rfl (lv' := [(0, sv_r a), (1, sv_i v1), (2, sv_i v2)]) (st' := [sv_i 0]) rfl ?_
    exact sv_zret C hr (by first | exact Or.inl rfl | exact Or.inr rfl | omega) (by decide +kernel) hok4 (⟨rfl, Or.inr ⟨id, rfl⟩⟩)

theorem ml_X11_37 : Cond.methodLink RX11 37 yX11_isDay ∈ lw_good := sv_mem 1032 (by decide +kernel) rfl
theorem co_X11_isDay : Cond.code yX11_isDay cX11_isDay 2 (some .boolean) ∈ lw_good := sv_mem 1034 (by decide +kernel) rfl
theorem st_X11_isDay : Cond.static yX11_isDay ∈ lw_good := sv_mem 1033 (by decide +kernel) rfl
set_option maxHeartbeats 4000000 in
set_option maxRecDepth 100000 in
theorem ct_X11_isPlaced (l : Launch) (g : sv_G) (A : Nat → Prop) (ty : Nat → Nat) (σ : Nat → Nat → Int) (hok : sv_ok ty σ) (v1 : Int) (hv1 : sv_in v1) (y : Int) (hy : sv_in y) (d : Int) (hd : sv_in d) (a : Nat) : sv_M l yX11_isPlaced cX11_isPlaced 4 (some .boolean) { frames := 3, cells := 0, slots := 0, locals := 66 } g A ty σ [sv_r a, sv_i v1, sv_i y, sv_i d] (fun r σ' => σ = σ' ∧ sv_bo ((0 ≤ v1 ∧ v1 ≤ 3) ∧ (1 ≤ y ∧ y ≤ 2000) ∧ 0 ≤ d ∧ d < 365 + dy_lp y) r) := by
  refine sv_enter (by decide) (Nat.le_of_ble_eq_true rfl) ?_
  intro p e s m args below meth c C hr
  have C : sv_C g A RX11 cX11_isPlaced 4 p s m args meth c := C
  have hr : meth.sig.returnType = (some .boolean) := hr
  refine sv_same (st2 := []) (lv2 := [(0, sv_r a), (1, sv_i v1), (2, sv_i y), (3, sv_i d)]) rfl rfl ?_
  refine sv_go C.1 C.2.1 [(.iload_n 1, 1)] (pc' := 1) (by decide +kernel) rfl (lv' := [(0, sv_r a), (1, sv_i v1), (2, sv_i y), (3, sv_i d)]) (st' := [sv_i v1]) rfl ?_
  refine sv_cs C (index := 277) (k := 1) (rest := []) (by decide +kernel) (ct_X11_isPlace l g A ty σ hok (v1) ⟨by omega, by omega⟩) ⟨co_X11_isPlace, in_X11, ⟨by decide, by decide, by decide +kernel⟩, Nat.le_of_ble_eq_true rfl, Nat.le_of_ble_eq_true rfl⟩ ml_X11_277 st_X11_isPlace rfl rfl (Nat.le_of_ble_eq_true rfl) ⟨Nat.zero_le _, Nat.zero_le _⟩ (fun r2 σ3 hpo1 hok4 => ?_)
  obtain ⟨rfl, ⟨h5, rfl⟩ | ⟨h5, rfl⟩⟩ := hpo1
  · refine sv_same (st2 := [sv_i 1]) (lv2 := [(0, sv_r a), (1, sv_i v1), (2, sv_i y), (3, sv_i d)]) rfl rfl ?_
    refine sv_if_f C.1 C.2.1 (cnd := .eq) (off := 15) (tgt := 19) (by decide +kernel) (by decide) ⟨by omega, by omega⟩ (show ¬ (1 = 0) by omega) ?_
    refine sv_go C.1 C.2.1 [(.iload_n 2, 1), (.iload_n 3, 1)] (pc' := 9) (by decide +kernel) rfl (lv' := [(0, sv_r a), (1, sv_i v1), (2, sv_i y), (3, sv_i d)]) (st' := [sv_i d, sv_i y]) rfl ?_
    refine sv_cs C (index := 37) (k := 2) (rest := []) (by decide +kernel) (ct_X11_isDay l g A ty σ hok4 (y) ⟨by omega, by omega⟩ (d) ⟨by omega, by omega⟩) ⟨co_X11_isDay, in_X11, ⟨by decide, by decide, by decide +kernel⟩, Nat.le_of_ble_eq_true rfl, Nat.le_of_ble_eq_true rfl⟩ ml_X11_37 st_X11_isDay rfl rfl (Nat.le_of_ble_eq_true rfl) ⟨Nat.zero_le _, Nat.zero_le _⟩ (fun r7 σ8 hpo6 hok9 => ?_)
    obtain ⟨rfl, ⟨h10, rfl⟩ | ⟨h10, rfl⟩⟩ := hpo6
    · refine sv_same (st2 := [sv_i 1]) (lv2 := [(0, sv_r a), (1, sv_i v1), (2, sv_i y), (3, sv_i d)]) rfl rfl ?_
      refine sv_if_f C.1 C.2.1 (cnd := .eq) (off := 7) (tgt := 19) (by decide +kernel) (by decide) ⟨by omega, by omega⟩ (show ¬ (1 = 0) by omega) ?_
      refine sv_go C.1 C.2.1 [(.iconst 1, 1)] (pc' := 16) (by decide +kernel) rfl (lv' := [(0, sv_r a), (1, sv_i v1), (2, sv_i y), (3, sv_i d)]) (st' := [sv_i 1]) rfl ?_
      refine sv_goto C.1 C.2.1 (off := 4) (tgt := 20) (by decide +kernel) (by decide) ?_
      exact sv_zret C hr (by first | exact Or.inl rfl | exact Or.inr rfl | omega) (by decide +kernel) hok9 (by first | exact ⟨rfl, Or.inl ⟨by omega, rfl⟩⟩ | exact ⟨rfl, Or.inr ⟨by omega, rfl⟩⟩)
    · refine sv_same (st2 := [sv_i 0]) (lv2 := [(0, sv_r a), (1, sv_i v1), (2, sv_i y), (3, sv_i d)]) rfl rfl ?_
      refine sv_if_t C.1 C.2.1 (cnd := .eq) (off := 7) (tgt := 19) (by decide +kernel) (by decide) ⟨by omega, by omega⟩ (show 0 = 0 by omega) ?_
      refine sv_go C.1 C.2.1 [(.iconst 0, 1)] (pc' := 20) (by decide +kernel) rfl (lv' := [(0, sv_r a), (1, sv_i v1), (2, sv_i y), (3, sv_i d)]) (st' := [sv_i 0]) rfl ?_
      exact sv_zret C hr (by first | exact Or.inl rfl | exact Or.inr rfl | omega) (by decide +kernel) hok9 (by first | exact ⟨rfl, Or.inl ⟨by omega, rfl⟩⟩ | exact ⟨rfl, Or.inr ⟨by omega, rfl⟩⟩)
  · refine sv_same (st2 := [sv_i 0]) (lv2 := [(0, sv_r a), (1, sv_i v1), (2, sv_i y), (3, sv_i d)]) rfl rfl ?_
    refine sv_if_t C.1 C.2.1 (cnd := .eq) (off := 15) (tgt := 19) (by decide +kernel) (by decide) ⟨by omega, by omega⟩ (show 0 = 0 by omega) ?_
    refine sv_go C.1 C.2.1 [(.iconst 0, 1)] (pc' := 20) (by decide +kernel) rfl (lv' := [(0, sv_r a), (1, sv_i v1), (2, sv_i y), (3, sv_i d)]) (st' := [sv_i 0]) rfl ?_
    exact sv_zret C hr (by first | exact Or.inl rfl | exact Or.inr rfl | omega) (by decide +kernel) hok4 (by first | exact ⟨rfl, Or.inl ⟨by omega, rfl⟩⟩ | exact ⟨rfl, Or.inr ⟨by omega, rfl⟩⟩)

theorem fl_X11_102 : Cond.fieldLink RX11 102 "SaintsRoadModel" "tape" "[B" ∈ lw_good := sv_mem 1120 (by decide +kernel) rfl
theorem fl_X11_269 : Cond.fieldLink RX11 269 "SaintsRoadModel" "taped" "I" ∈ lw_good := sv_mem 1121 (by decide +kernel) rfl
set_option maxHeartbeats 4000000 in
set_option maxRecDepth 100000 in
theorem ct_X11_lay (l : Launch) (g : sv_G) (A : Nat → Prop) (ty : Nat → Nat) (σ : Nat → Nat → Int) (hok : sv_ok ty σ) (hTA : ∀ q, ty q ≠ 0 → A q) (hI : sv_inv sp_1 ty σ) (a : Nat) (k_a : ty a = 10) (four : Int) (h4 : sv_in four) (hL : 0 ≤ σ a 17 ∧ σ a 17 + 4 ≤ 4000) : sv_M l yX11_lay cX11_lay 3 none { frames := 0, cells := 0, slots := 0, locals := 0 } g A ty σ [sv_r a, sv_i four] (fun r σ' => r = [] ∧ sv_inv sp_1 ty σ' ∧ sv_off [10, 76] ty σ σ' ∧ σ' a 17 = σ a 17 + 4) := by
  refine sv_enter (by decide) (Nat.le_of_ble_eq_true rfl) ?_
  intro p e s m args below meth c C hr
  have C : sv_C g A RX11 cX11_lay 3 p s m args meth c := C
  have hr : meth.sig.returnType = none := hr
  have hF : sv_off [10, 76] ty σ σ := sv_off.rf
  refine sv_same (st2 := []) (lv2 := [(0, sv_r a), (1, sv_i four)]) rfl rfl ?_
  refine sv_go C.1 C.2.1 [(.bipush 24, 2), (.istore_n 2, 1)] (pc' := 3) (by decide +kernel) rfl (lv' := [(0, sv_r a), (1, sv_i four), (2, sv_i 24)]) (st' := []) rfl ?_
  have L1 : ∀ (n : Nat) (X : Int) (σ1 : Nat → Nat → Int), (sv_ok ty σ1) → (sv_inv sp_1 ty σ1) → (sv_off [10, 76] ty σ σ1) → (-8 ≤ X ∧ X ≤ 24 ∧ X % 8 = 0) → (σ1 a 17 = σ a 17 + (24 - X) / 8) → (X + 8) < (n : Int) → sv_E p l e { frames := 0, cells := 0, slots := 0, locals := 0 } s m args below meth c 3 g A ty (fun r σ' => r = [] ∧ sv_inv sp_1 ty σ' ∧ sv_off [10, 76] ty σ σ' ∧ σ' a 17 = σ a 17 + 4) σ1 3 [(0, sv_r a), (1, sv_i four), (2, sv_i X)] [] := by
    intro n
    induction n with
    | zero => intro X σ1 hok1 hI1 hF1 hX hT hmu; exact absurd hmu (by omega)
    | succ n ih2 =>
      intro X σ1 hok1 hI1 hF1 hX hT hmu
      refine sv_go C.1 C.2.1 [(.iload_n 2, 1)] (pc' := 4) (by decide +kernel) rfl (lv' := [(0, sv_r a), (1, sv_i four), (2, sv_i X)]) (st' := [sv_i X]) rfl ?_
      refine sv_if C.1 C.2.1 (cnd := .lt) (off := 32) (tgt := 36) (by decide +kernel) (by decide) ⟨by omega, by omega⟩ (fun (h3 : X < 0) => ?_) (fun (h3 : ¬ (X < 0)) => ?_)
      · exact sv_vret C hr (by decide +kernel) hok1 (⟨rfl, hI1, hF1, by rw [hT]; omega⟩)
      · refine sv_go C.1 C.2.1 [(.aload_n 0, 1)] (pc' := 8) (by decide +kernel) rfl (lv' := [(0, sv_r a), (1, sv_i four), (2, sv_i X)]) (st' := [sv_r a]) rfl ?_
        obtain ⟨q4, eq4, kq4⟩ := hI1.ref (k := 16) k_a rfl
        refine sv_gf C (index := 102) (ci := 10) (k := 16) (r := (RX11, TX11, 47)) (v := sv_r q4) (by decide +kernel) (by rw [k_a]; rfl) rfl (by decide) fl_X11_102 (congrArg sv_a eq4) ?_
        refine sv_go C.1 C.2.1 [(.aload_n 0, 1)] (pc' := 12) (by decide +kernel) rfl (lv' := [(0, sv_r a), (1, sv_i four), (2, sv_i X)]) (st' := [sv_r a, sv_r q4]) rfl ?_
        refine sv_gf C (index := 269) (ci := 10) (k := 17) (r := (RX11, TX11, 47)) (v := sv_i (σ a 17 + (24 - X) / 8)) (by decide +kernel) (by rw [k_a]; rfl) rfl (by decide) fl_X11_269 (congrArg sv_i hT) ?_
        refine sv_go C.1 C.2.1 [(.iload_n 1, 1), (.iload_n 2, 1), (.ishr, 1), (.i2b, 1)] (pc' := 19) (by decide +kernel) rfl (lv' := [(0, sv_r a), (1, sv_i four), (2, sv_i X)]) (st' := [sv_i ((Int32.ofInt ((Int32.ofInt four >>> (Int32.ofInt X &&& 31)).toInt)).toInt8.toInt32.toInt), sv_i (σ a 17 + (24 - X) / 8), sv_r q4]) rfl ?_
        have hby := sv_by (Int32.ofInt ((Int32.ofInt four >>> (Int32.ofInt X &&& 31)).toInt))
        refine sv_bs C (n := 4000) (by decide +kernel) (by rw [kq4]; rfl) (by decide) (by omega) (by omega) ⟨by omega, by omega⟩ (hTA _ (by rw [kq4]; decide)) hok1 (fun hok5 => ?_)
        have hI7 := hI1.up (a := q4) (k := (σ a 17 + (24 - X) / 8 : Int).toNat) (z := (Int32.ofInt ((Int32.ofInt four >>> (Int32.ofInt X &&& 31)).toInt)).toInt8.toInt32.toInt) (by rw [kq4]; exact trivial)
        have hF8 := hF1.up (a := q4) (k := (σ a 17 + (24 - X) / 8 : Int).toNat) (z := (Int32.ofInt ((Int32.ofInt four >>> (Int32.ofInt X &&& 31)).toInt)).toInt8.toInt32.toInt) (by rw [kq4]; decide)
        generalize eσ6 : sv_up σ1 q4 (σ a 17 + (24 - X) / 8 : Int).toNat ((Int32.ofInt ((Int32.ofInt four >>> (Int32.ofInt X &&& 31)).toInt)).toInt8.toInt32.toInt) = σ6 at hok5 hI7 hF8 ⊢
        have t9 : σ6 a 17 = σ a 17 + (24 - X) / 8 := by rw [← eσ6, sv_up_a (sv_ne k_a kq4 (by decide))]; exact hT
        have t10 : σ6 a 16 = (q4 : Int) + 1 := by rw [← eσ6, sv_up_a (sv_ne k_a kq4 (by decide))]; exact eq4
        refine sv_go C.1 C.2.1 [(.aload_n 0, 1), (.dup, 1)] (pc' := 22) (by decide +kernel) rfl (lv' := [(0, sv_r a), (1, sv_i four), (2, sv_i X)]) (st' := [sv_r a, sv_r a]) rfl ?_
        refine sv_gf C (index := 269) (ci := 10) (k := 17) (r := (RX11, TX11, 47)) (v := sv_i (σ a 17 + (24 - X) / 8)) (by decide +kernel) (by rw [k_a]; rfl) rfl (by decide) fl_X11_269 (congrArg sv_i t9) ?_
        refine sv_go C.1 C.2.1 [(.iconst 1, 1), (.iadd, 1)] (pc' := 27) (by decide +kernel) rfl (lv' := [(0, sv_r a), (1, sv_i four), (2, sv_i X)]) (st' := [sv_i ((σ a 17 + (24 - X) / 8) + 1), sv_r a]) rfl ?_
        refine sv_pf C (index := 269) (ci := 10) (k := 17) (r := (RX11, TX11, 47)) (z := (σ a 17 + (24 - X) / 8) + 1) (by decide +kernel) (by rw [k_a]; rfl) rfl (by decide) rfl fl_X11_269 rfl (Or.inl rfl) ⟨by omega, by omega⟩ (hTA _ (by rw [k_a]; decide)) hok5 (fun hok11 => ?_)
        have hI13 := hI7.up (a := a) (k := 17) (z := (σ a 17 + (24 - X) / 8) + 1) (by rw [k_a]; exact trivial)
        have hF14 := hF8.up (a := a) (k := 17) (z := (σ a 17 + (24 - X) / 8) + 1) (by rw [k_a]; decide)
        generalize eσ12 : sv_up σ6 a 17 ((σ a 17 + (24 - X) / 8) + 1) = σ12 at hok11 hI13 hF14 ⊢
        have t15 : σ12 a 16 = (q4 : Int) + 1 := by rw [← eσ12, sv_up_k (by decide)]; exact t10
        have t16 : σ12 a 17 = (σ a 17 + (24 - X) / 8) + 1 := by rw [← eσ12]; exact sv_up_s _ _ _ _
        refine sv_go C.1 C.2.1 [(.iinc 2 (-8), 3)] (pc' := 33) (by decide +kernel) rfl (lv' := [(0, sv_r a), (1, sv_i four), (2, sv_i (X + (-8)))]) (st' := []) rfl ?_
        refine sv_goto C.1 C.2.1 (off := (-30)) (tgt := 3) (by decide +kernel) (by decide) ?_
        exact ih2 (X + (-8)) σ12 hok11 hI13 hF14 (by omega) (by rw [t16]; omega) (by omega)
  exact L1 (((24 + 8 : Int)).toNat + 1) 24 σ hok hI hF (by omega) (by omega) (by omega)

theorem ml_X11_272 : Cond.methodLink RX11 272 yX11_lay ∈ lw_good := sv_mem 1250 (by decide +kernel) rfl
theorem co_X11_lay : Cond.code yX11_lay cX11_lay 3 none ∈ lw_good := sv_mem 1253 (by decide +kernel) rfl
theorem im_X11_lay : Cond.instanceMethod yX11_lay ∈ lw_good := sv_mem 1252 (by decide +kernel) rfl
theorem se_X11_lay : Cond.selects RX11 yX11_lay yX11_lay ∈ lw_good := sv_mem 43 (by decide +kernel) rfl
set_option maxHeartbeats 4000000 in
set_option maxRecDepth 100000 in
theorem ct_X11_feed (l : Launch) (g : sv_G) (A : Nat → Prop) (ty : Nat → Nat) (σ : Nat → Nat → Int) (hok : sv_ok ty σ) (hTA : ∀ q, ty q ≠ 0 → A q) (hI : sv_inv sp_1 ty σ) (hZ : sv_inv sp_0 ty σ) (a : Nat) (k_a : ty a = 10) (a1 : Int) (ha1 : sv_in a1) (a2 : Int) (ha2 : sv_in a2) (a3 : Int) (ha3 : sv_in a3) (a4 : Int) (ha4 : sv_in a4) (a5 : Int) (ha5 : sv_in a5) : sv_M l yX11_feed cX11_feed 6 (some .int) { frames := 1, cells := 0, slots := 0, locals := 22 } g A ty σ [sv_r a, sv_i a1, sv_i a2, sv_i a3, sv_i a4, sv_i a5] (fun r σ' => r = [sv_i (20)] ∧ sv_off [10, 76] ty σ σ') := by
  refine sv_enter (by decide) (Nat.le_of_ble_eq_true rfl) ?_
  intro p e s m args below meth c C hr
  have C : sv_C g A RX11 cX11_feed 6 p s m args meth c := C
  have hr : meth.sig.returnType = (some .int) := hr
  have hF : sv_off [10, 76] ty σ σ := sv_off.rf
  refine sv_same (st2 := []) (lv2 := [(0, sv_r a), (1, sv_i a1), (2, sv_i a2), (3, sv_i a3), (4, sv_i a4), (5, sv_i a5)]) rfl rfl ?_
  refine sv_go C.1 C.2.1 [(.aload_n 0, 1)] (pc' := 1) (by decide +kernel) rfl (lv' := [(0, sv_r a), (1, sv_i a1), (2, sv_i a2), (3, sv_i a3), (4, sv_i a4), (5, sv_i a5)]) (st' := [sv_r a]) rfl ?_
  have t1 : σ a 17 = 0 := by have q := hZ.num (k := 17) k_a rfl; omega
  refine sv_gf C (index := 269) (ci := 10) (k := 17) (r := (RX11, TX11, 47)) (v := sv_i 0) (by decide +kernel) (by rw [k_a]; rfl) rfl (by decide) fl_X11_269 (congrArg sv_i t1) ?_
  refine sv_go C.1 C.2.1 [(.bipush 20, 2), (.iadd, 1), (.sipush 4000, 3)] (pc' := 10) (by decide +kernel) rfl (lv' := [(0, sv_r a), (1, sv_i a1), (2, sv_i a2), (3, sv_i a3), (4, sv_i a4), (5, sv_i a5)]) (st' := [sv_i 4000, sv_i (0 + 20)]) rfl ?_
  refine sv_icmp_t C.1 C.2.1 (cnd := .le) (off := 6) (tgt := 16) (by decide +kernel) (by decide) ⟨by omega, by omega⟩ ⟨by omega, by omega⟩ (show (0 + 20) ≤ 4000 by omega) ?_
  refine sv_go C.1 C.2.1 [(.aload_n 0, 1), (.iload_n 1, 1)] (pc' := 18) (by decide +kernel) rfl (lv' := [(0, sv_r a), (1, sv_i a1), (2, sv_i a2), (3, sv_i a3), (4, sv_i a4), (5, sv_i a5)]) (st' := [sv_i a1, sv_r a]) rfl ?_
  refine sv_cv C (index := 272) (k := 1) (rest := []) (ci := 10) (r := (RX11, TX11, 47)) (by decide +kernel) (ct_X11_lay l g A ty σ hok hTA hI a k_a (a1) ⟨by omega, by omega⟩ (by rw [t1]; omega)) ⟨co_X11_lay, in_X11, ⟨by decide, by decide, by decide +kernel⟩, Nat.le_of_ble_eq_true rfl, Nat.le_of_ble_eq_true rfl⟩ ml_X11_272 im_X11_lay se_X11_lay (by rw [k_a]; rfl) rfl rfl rfl (Nat.le_of_ble_eq_true rfl) ⟨Nat.zero_le _, Nat.zero_le _⟩ (fun r3 σ4 hpo2 hok5 => ?_)
  obtain ⟨rfl, hIu6, hFu6, xu6⟩ := hpo2
  have hGu6 := hF.tr hFu6 (by decide)
  have t7 : σ4 a 17 = 0 + 4 := by rw [xu6, t1]
  refine sv_same (st2 := []) (lv2 := [(0, sv_r a), (1, sv_i a1), (2, sv_i a2), (3, sv_i a3), (4, sv_i a4), (5, sv_i a5)]) rfl rfl ?_
  refine sv_go C.1 C.2.1 [(.aload_n 0, 1), (.iload_n 2, 1)] (pc' := 23) (by decide +kernel) rfl (lv' := [(0, sv_r a), (1, sv_i a1), (2, sv_i a2), (3, sv_i a3), (4, sv_i a4), (5, sv_i a5)]) (st' := [sv_i a2, sv_r a]) rfl ?_
  refine sv_cv C (index := 272) (k := 1) (rest := []) (ci := 10) (r := (RX11, TX11, 47)) (by decide +kernel) (ct_X11_lay l g A ty σ4 hok5 hTA hIu6 a k_a (a2) ⟨by omega, by omega⟩ (by rw [t7]; omega)) ⟨co_X11_lay, in_X11, ⟨by decide, by decide, by decide +kernel⟩, Nat.le_of_ble_eq_true rfl, Nat.le_of_ble_eq_true rfl⟩ ml_X11_272 im_X11_lay se_X11_lay (by rw [k_a]; rfl) rfl rfl rfl (Nat.le_of_ble_eq_true rfl) ⟨Nat.zero_le _, Nat.zero_le _⟩ (fun r9 σ10 hpo8 hok11 => ?_)
  obtain ⟨rfl, hIu12, hFu12, xu12⟩ := hpo8
  have hGu12 := hGu6.tr hFu12 (by decide)
  have t13 : σ10 a 17 = 0 + 4 + 4 := by rw [xu12, t7]
  refine sv_same (st2 := []) (lv2 := [(0, sv_r a), (1, sv_i a1), (2, sv_i a2), (3, sv_i a3), (4, sv_i a4), (5, sv_i a5)]) rfl rfl ?_
  refine sv_go C.1 C.2.1 [(.aload_n 0, 1), (.iload_n 3, 1)] (pc' := 28) (by decide +kernel) rfl (lv' := [(0, sv_r a), (1, sv_i a1), (2, sv_i a2), (3, sv_i a3), (4, sv_i a4), (5, sv_i a5)]) (st' := [sv_i a3, sv_r a]) rfl ?_
  refine sv_cv C (index := 272) (k := 1) (rest := []) (ci := 10) (r := (RX11, TX11, 47)) (by decide +kernel) (ct_X11_lay l g A ty σ10 hok11 hTA hIu12 a k_a (a3) ⟨by omega, by omega⟩ (by rw [t13]; omega)) ⟨co_X11_lay, in_X11, ⟨by decide, by decide, by decide +kernel⟩, Nat.le_of_ble_eq_true rfl, Nat.le_of_ble_eq_true rfl⟩ ml_X11_272 im_X11_lay se_X11_lay (by rw [k_a]; rfl) rfl rfl rfl (Nat.le_of_ble_eq_true rfl) ⟨Nat.zero_le _, Nat.zero_le _⟩ (fun r15 σ16 hpo14 hok17 => ?_)
  obtain ⟨rfl, hIu18, hFu18, xu18⟩ := hpo14
  have hGu18 := hGu12.tr hFu18 (by decide)
  have t19 : σ16 a 17 = 0 + 4 + 4 + 4 := by rw [xu18, t13]
  refine sv_same (st2 := []) (lv2 := [(0, sv_r a), (1, sv_i a1), (2, sv_i a2), (3, sv_i a3), (4, sv_i a4), (5, sv_i a5)]) rfl rfl ?_
  refine sv_go C.1 C.2.1 [(.aload_n 0, 1), (.iload 4, 2)] (pc' := 34) (by decide +kernel) rfl (lv' := [(0, sv_r a), (1, sv_i a1), (2, sv_i a2), (3, sv_i a3), (4, sv_i a4), (5, sv_i a5)]) (st' := [sv_i a4, sv_r a]) rfl ?_
  refine sv_cv C (index := 272) (k := 1) (rest := []) (ci := 10) (r := (RX11, TX11, 47)) (by decide +kernel) (ct_X11_lay l g A ty σ16 hok17 hTA hIu18 a k_a (a4) ⟨by omega, by omega⟩ (by rw [t19]; omega)) ⟨co_X11_lay, in_X11, ⟨by decide, by decide, by decide +kernel⟩, Nat.le_of_ble_eq_true rfl, Nat.le_of_ble_eq_true rfl⟩ ml_X11_272 im_X11_lay se_X11_lay (by rw [k_a]; rfl) rfl rfl rfl (Nat.le_of_ble_eq_true rfl) ⟨Nat.zero_le _, Nat.zero_le _⟩ (fun r21 σ22 hpo20 hok23 => ?_)
  obtain ⟨rfl, hIu24, hFu24, xu24⟩ := hpo20
  have hGu24 := hGu18.tr hFu24 (by decide)
  have t25 : σ22 a 17 = 0 + 4 + 4 + 4 + 4 := by rw [xu24, t19]
  refine sv_same (st2 := []) (lv2 := [(0, sv_r a), (1, sv_i a1), (2, sv_i a2), (3, sv_i a3), (4, sv_i a4), (5, sv_i a5)]) rfl rfl ?_
  refine sv_go C.1 C.2.1 [(.aload_n 0, 1), (.iload 5, 2)] (pc' := 40) (by decide +kernel) rfl (lv' := [(0, sv_r a), (1, sv_i a1), (2, sv_i a2), (3, sv_i a3), (4, sv_i a4), (5, sv_i a5)]) (st' := [sv_i a5, sv_r a]) rfl ?_
  refine sv_cv C (index := 272) (k := 1) (rest := []) (ci := 10) (r := (RX11, TX11, 47)) (by decide +kernel) (ct_X11_lay l g A ty σ22 hok23 hTA hIu24 a k_a (a5) ⟨by omega, by omega⟩ (by rw [t25]; omega)) ⟨co_X11_lay, in_X11, ⟨by decide, by decide, by decide +kernel⟩, Nat.le_of_ble_eq_true rfl, Nat.le_of_ble_eq_true rfl⟩ ml_X11_272 im_X11_lay se_X11_lay (by rw [k_a]; rfl) rfl rfl rfl (Nat.le_of_ble_eq_true rfl) ⟨Nat.zero_le _, Nat.zero_le _⟩ (fun r27 σ28 hpo26 hok29 => ?_)
  obtain ⟨rfl, hIu30, hFu30, xu30⟩ := hpo26
  have hGu30 := hGu24.tr hFu30 (by decide)
  have t31 : σ28 a 17 = 0 + 4 + 4 + 4 + 4 + 4 := by rw [xu30, t25]
  refine sv_same (st2 := []) (lv2 := [(0, sv_r a), (1, sv_i a1), (2, sv_i a2), (3, sv_i a3), (4, sv_i a4), (5, sv_i a5)]) rfl rfl ?_
  refine sv_go C.1 C.2.1 [(.aload_n 0, 1)] (pc' := 44) (by decide +kernel) rfl (lv' := [(0, sv_r a), (1, sv_i a1), (2, sv_i a2), (3, sv_i a3), (4, sv_i a4), (5, sv_i a5)]) (st' := [sv_r a]) rfl ?_
  refine sv_gf C (index := 269) (ci := 10) (k := 17) (r := (RX11, TX11, 47)) (v := sv_i (0 + 4 + 4 + 4 + 4 + 4)) (by decide +kernel) (by rw [k_a]; rfl) rfl (by decide) fl_X11_269 (congrArg sv_i t31) ?_
  exact sv_iret C hr (by decide +kernel) hok29 (⟨congrArg (fun q => [sv_i q]) (by first | omega | (unfold fx_20; omega)), hGu30⟩)

set_option maxHeartbeats 4000000 in
set_option maxRecDepth 100000 in
theorem ct_X11_end (l : Launch) (g : sv_G) (A : Nat → Prop) (ty : Nat → Nat) (σ : Nat → Nat → Int) (hok : sv_ok ty σ) (hTA : ∀ q, ty q ≠ 0 → A q) (hI : sv_inv sp_1 ty σ) (hZ : sv_inv sp_0 ty σ) (a : Nat) (k_a : ty a = 10) (n1 : Int) (hn1 : sv_in n1) : sv_M l yX11_end cX11_end 2 (some .int) { frames := 1, cells := 0, slots := 0, locals := 25 } g A ty σ [sv_r a, sv_i n1] (fun r σ' => r = [sv_i (fx_end n1)] ∧ sv_off [10] ty σ σ') := by
  refine sv_enter (by decide) (Nat.le_of_ble_eq_true rfl) ?_
  intro p e s m args below meth c C hr
  have C : sv_C g A RX11 cX11_end 2 p s m args meth c := C
  have hr : meth.sig.returnType = (some .int) := hr
  have hF : sv_off [10] ty σ σ := sv_off.rf
  refine sv_same (st2 := []) (lv2 := [(0, sv_r a), (1, sv_i n1)]) rfl rfl ?_
  refine sv_go C.1 C.2.1 [(.iload_n 1, 1)] (pc' := 1) (by decide +kernel) rfl (lv' := [(0, sv_r a), (1, sv_i n1)]) (st' := [sv_i n1]) rfl ?_
  refine sv_i2l C.1 C.2.1 (by decide +kernel) ⟨by omega, by omega⟩ ?_
  refine sv_go C.1 C.2.1 [(.lconst 0, 1), (.aload_n 0, 1)] (pc' := 4) (by decide +kernel) rfl (lv' := [(0, sv_r a), (1, sv_i n1)]) (st' := [sv_r a, sv_l 0, sv_l n1]) rfl ?_
  have t1 : σ a 17 = 0 := by have q := hZ.num (k := 17) k_a rfl; omega
  refine sv_gf C (index := 269) (ci := 10) (k := 17) (r := (RX11, TX11, 47)) (v := sv_i 0) (by decide +kernel) (by rw [k_a]; rfl) rfl (by decide) fl_X11_269 (congrArg sv_i t1) ?_
  refine sv_i2l C.1 C.2.1 (by decide +kernel) ⟨by omega, by omega⟩ ?_
  refine sv_cs C (index := 9) (k := 3) (rest := []) (by decide +kernel) (ct_X11_in l g A ty σ hok (n1) ⟨by omega, by omega⟩ (0) ⟨by omega, by omega⟩ (0) ⟨by omega, by omega⟩) ⟨co_X11_in, in_X11, ⟨by decide, by decide, by decide +kernel⟩, Nat.le_of_ble_eq_true rfl, Nat.le_of_ble_eq_true rfl⟩ ml_X11_9 st_X11_in rfl rfl (Nat.le_of_ble_eq_true rfl) ⟨Nat.zero_le _, Nat.zero_le _⟩ (fun r3 σ4 hpo2 hok5 => ?_)
  obtain ⟨rfl, ⟨h6, rfl⟩ | ⟨h6, rfl⟩⟩ := hpo2
  · refine sv_same (st2 := [sv_i 1]) (lv2 := [(0, sv_r a), (1, sv_i n1)]) rfl rfl ?_
    refine sv_if_t C.1 C.2.1 (cnd := .ne) (off := 5) (tgt := 16) (by decide +kernel) (by decide) ⟨by omega, by omega⟩ (show 1 ≠ 0 by omega) ?_
    refine sv_go C.1 C.2.1 [(.aload_n 0, 1), (.iload_n 1, 1)] (pc' := 18) (by decide +kernel) rfl (lv' := [(0, sv_r a), (1, sv_i n1)]) (st' := [sv_i n1, sv_r a]) rfl ?_
    refine sv_pf C (index := 269) (ci := 10) (k := 17) (r := (RX11, TX11, 47)) (z := n1) (by decide +kernel) (by rw [k_a]; rfl) rfl (by decide) rfl fl_X11_269 rfl (Or.inl rfl) ⟨by omega, by omega⟩ (hTA _ (by rw [k_a]; decide)) hok5 (fun hok7 => ?_)
    have hI9 := hI.up (a := a) (k := 17) (z := n1) (by rw [k_a]; exact trivial)
    have hF10 := hF.up (a := a) (k := 17) (z := n1) (by rw [k_a]; decide)
    generalize eσ8 : sv_up σ a 17 n1 = σ8 at hok7 hI9 hF10 ⊢
    have t11 : σ8 a 17 = n1 := by rw [← eσ8]; exact sv_up_s _ _ _ _
    refine sv_go C.1 C.2.1 [(.iload_n 1, 1)] (pc' := 22) (by decide +kernel) rfl (lv' := [(0, sv_r a), (1, sv_i n1)]) (st' := [sv_i n1]) rfl ?_
    exact sv_iret C hr (by decide +kernel) hok7 (⟨congrArg (fun q => [sv_i q]) (by first | omega | (unfold fx_end; omega)), hF10⟩)
  · refine sv_same (st2 := [sv_i 0]) (lv2 := [(0, sv_r a), (1, sv_i n1)]) rfl rfl ?_
    refine sv_if_f C.1 C.2.1 (cnd := .ne) (off := 5) (tgt := 16) (by decide +kernel) (by decide) ⟨by omega, by omega⟩ (show ¬ (0 ≠ 0) by omega) ?_
    refine sv_go C.1 C.2.1 [(.iconst (-1), 1)] (pc' := 15) (by decide +kernel) rfl (lv' := [(0, sv_r a), (1, sv_i n1)]) (st' := [sv_i ((-1))]) rfl ?_
    exact sv_iret C hr (by decide +kernel) hok5 (⟨congrArg (fun q => [sv_i q]) (by first | omega | (unfold fx_end; omega)), hF⟩)

theorem fl_X11_105 : Cond.fieldLink RX11 105 "SaintsRoadModel" "faultAt" "I" ∈ lw_good := sv_mem 1128 (by decide +kernel) rfl
theorem fl_X11_169 : Cond.fieldLink RX11 169 "SaintsRoadModel" "fault" "I" ∈ lw_good := sv_mem 1127 (by decide +kernel) rfl
set_option maxHeartbeats 4000000 in
set_option maxRecDepth 100000 in
theorem ct_X11_fault (l : Launch) (g : sv_G) (A : Nat → Prop) (ty : Nat → Nat) (σ : Nat → Nat → Int) (hok : sv_ok ty σ) (hTA : ∀ q, ty q ≠ 0 → A q) (hI : sv_inv sp_1 ty σ) (hZ : sv_inv sp_0 ty σ) (a : Nat) (k_a : ty a = 10) (w1 : Int) (hw1 : sv_in w1) : sv_M l yX11_fault cX11_fault 2 (some .int) { frames := 0, cells := 0, slots := 0, locals := 0 } g A ty σ [sv_r a, sv_i w1] (fun r σ' => r = [sv_i (fx_fault w1)] ∧ sv_off [] ty σ σ') := by
  refine sv_enter (by decide) (Nat.le_of_ble_eq_true rfl) ?_
  intro p e s m args below meth c C hr
  have C : sv_C g A RX11 cX11_fault 2 p s m args meth c := C
  have hr : meth.sig.returnType = (some .int) := hr
  have hF : sv_off [] ty σ σ := sv_off.rf
  refine sv_same (st2 := []) (lv2 := [(0, sv_r a), (1, sv_i w1)]) rfl rfl ?_
  refine sv_go C.1 C.2.1 [(.iload_n 1, 1)] (pc' := 1) (by decide +kernel) rfl (lv' := [(0, sv_r a), (1, sv_i w1)]) (st' := [sv_i w1]) rfl ?_
  refine sv_if C.1 C.2.1 (cnd := .ne) (off := 10) (tgt := 11) (by decide +kernel) (by decide) ⟨by omega, by omega⟩ (fun (h1 : w1 ≠ 0) => ?_) (fun (h1 : ¬ (w1 ≠ 0)) => ?_)
  · refine sv_go C.1 C.2.1 [(.iload_n 1, 1), (.iconst 1, 1)] (pc' := 13) (by decide +kernel) rfl (lv' := [(0, sv_r a), (1, sv_i w1)]) (st' := [sv_i 1, sv_i w1]) rfl ?_
    refine sv_icmp C.1 C.2.1 (cnd := .ne) (off := 10) (tgt := 23) (by decide +kernel) (by decide) ⟨by omega, by omega⟩ ⟨by omega, by omega⟩ (fun (h2 : w1 ≠ 1) => ?_) (fun (h2 : ¬ (w1 ≠ 1)) => ?_)
    · refine sv_go C.1 C.2.1 [(.iconst (-1), 1)] (pc' := 24) (by decide +kernel) rfl (lv' := [(0, sv_r a), (1, sv_i w1)]) (st' := [sv_i ((-1))]) rfl ?_
      exact sv_iret C hr (by decide +kernel) hok (⟨congrArg (fun q => [sv_i q]) (by first | omega | (unfold fx_fault; omega)), hF⟩)
    · refine sv_go C.1 C.2.1 [(.aload_n 0, 1)] (pc' := 17) (by decide +kernel) rfl (lv' := [(0, sv_r a), (1, sv_i w1)]) (st' := [sv_r a]) rfl ?_
      have t3 : σ a 24 = (-1) := by have q := hZ.num (k := 24) k_a rfl; omega
      refine sv_gf C (index := 105) (ci := 10) (k := 24) (r := (RX11, TX11, 47)) (v := sv_i ((-1))) (by decide +kernel) (by rw [k_a]; rfl) rfl (by decide) fl_X11_105 (congrArg sv_i t3) ?_
      refine sv_goto C.1 C.2.1 (off := 4) (tgt := 24) (by decide +kernel) (by decide) ?_
      exact sv_iret C hr (by decide +kernel) hok (⟨congrArg (fun q => [sv_i q]) (by first | omega | (unfold fx_fault; omega)), hF⟩)
  · refine sv_go C.1 C.2.1 [(.aload_n 0, 1)] (pc' := 5) (by decide +kernel) rfl (lv' := [(0, sv_r a), (1, sv_i w1)]) (st' := [sv_r a]) rfl ?_
    have t4 : σ a 23 = 0 := by have q := hZ.num (k := 23) k_a rfl; omega
    refine sv_gf C (index := 169) (ci := 10) (k := 23) (r := (RX11, TX11, 47)) (v := sv_i 0) (by decide +kernel) (by rw [k_a]; rfl) rfl (by decide) fl_X11_169 (congrArg sv_i t4) ?_
    refine sv_goto C.1 C.2.1 (off := 16) (tgt := 24) (by decide +kernel) (by decide) ?_
    exact sv_iret C hr (by decide +kernel) hok (⟨congrArg (fun q => [sv_i q]) (by first | omega | (unfold fx_fault; omega)), hF⟩)

theorem ml_X11_287 : Cond.methodLink RX11 287 yX11_isFeast ∈ lw_good := sv_mem 1356 (by decide +kernel) rfl
theorem co_X11_isFeast : Cond.code yX11_isFeast cX11_isFeast 3 (some .boolean) ∈ lw_good := sv_mem 1359 (by decide +kernel) rfl
theorem im_X11_isFeast : Cond.instanceMethod yX11_isFeast ∈ lw_good := sv_mem 1358 (by decide +kernel) rfl
theorem se_X11_isFeast : Cond.selects RX11 yX11_isFeast yX11_isFeast ∈ lw_good := sv_mem 59 (by decide +kernel) rfl
set_option maxHeartbeats 4000000 in
set_option maxRecDepth 100000 in
theorem ct_X11_feast (l : Launch) (g : sv_G) (A : Nat → Prop) (ty : Nat → Nat) (σ : Nat → Nat → Int) (hok : sv_ok ty σ) (hTA : ∀ q, ty q ≠ 0 → A q) (hI : sv_inv sp_1 ty σ) (hZ : sv_inv sp_0 ty σ) (a : Nat) (k_a : ty a = 10) (v1 : Int) (hv1 : sv_in v1) (v2 : Int) (hv2 : sv_in v2) (v3 : Int) (hv3 : sv_in v3) : sv_M l yX11_feast cX11_feast 5 (some .int) { frames := 3, cells := 0, slots := 0, locals := 67 } g A ty σ [sv_r a, sv_i v1, sv_i v2, sv_i v3] (fun r σ' => r = [sv_i (-1)] ∧ sv_off [] ty σ σ') := by
  refine sv_enter (by decide) (Nat.le_of_ble_eq_true rfl) ?_
  intro p e s m args below meth c C hr
  have C : sv_C g A RX11 cX11_feast 5 p s m args meth c := C
  have hr : meth.sig.returnType = (some .int) := hr
  have hF : sv_off [] ty σ σ := sv_off.rf
  refine sv_same (st2 := []) (lv2 := [(0, sv_r a), (1, sv_i v1), (2, sv_i v2), (3, sv_i v3)]) rfl rfl ?_
  refine sv_go C.1 C.2.1 [(.aload_n 0, 1), (.iload_n 1, 1), (.iload_n 2, 1)] (pc' := 3) (by decide +kernel) rfl (lv' := [(0, sv_r a), (1, sv_i v1), (2, sv_i v2), (3, sv_i v3)]) (st' := [sv_i v2, sv_i v1, sv_r a]) rfl ?_
  refine sv_cv C (index := 287) (k := 2) (rest := []) (ci := 10) (r := (RX11, TX11, 47)) (by decide +kernel) (ct_X11_isFeast l g A ty σ hok hI a k_a (v1) ⟨by omega, by omega⟩ (v2) ⟨by omega, by omega⟩) ⟨co_X11_isFeast, in_X11, ⟨by decide, by decide, by decide +kernel⟩, Nat.le_of_ble_eq_true rfl, Nat.le_of_ble_eq_true rfl⟩ ml_X11_287 im_X11_isFeast se_X11_isFeast (by rw [k_a]; rfl) rfl rfl rfl (Nat.le_of_ble_eq_true rfl) ⟨Nat.zero_le _, Nat.zero_le _⟩ (fun r2 σ3 hpo1 hok4 => ?_)
  obtain ⟨rfl, hpo1⟩ := hpo1
  obtain rfl := sv_boF hpo1
  refine sv_same (st2 := [sv_i 0]) (lv2 := [(0, sv_r a), (1, sv_i v1), (2, sv_i v2), (3, sv_i v3)]) rfl rfl ?_
  refine sv_if_f C.1 C.2.1 (cnd := .ne) (off := 5) (tgt := 11) (by decide +kernel) (by decide) ⟨by omega, by omega⟩ (show ¬ (0 ≠ 0) by omega) ?_
  refine sv_go C.1 C.2.1 [(.iconst (-1), 1)] (pc' := 10) (by decide +kernel) rfl (lv' := [(0, sv_r a), (1, sv_i v1), (2, sv_i v2), (3, sv_i v3)]) (st' := [sv_i ((-1))]) rfl ?_
  exact sv_iret C hr (by decide +kernel) hok4 (⟨congrArg (fun q => [sv_i q]) (by first | omega | (unfold x; omega)), hF⟩)

theorem ml_X11_34 : Cond.methodLink RX11 34 yX11_easterOf ∈ lw_good := sv_mem 1010 (by decide +kernel) rfl
theorem co_X11_easterOf : Cond.code yX11_easterOf cX11_easterOf 2 (some .int) ∈ lw_good := sv_mem 1012 (by decide +kernel) rfl
theorem st_X11_easterOf : Cond.static yX11_easterOf ∈ lw_good := sv_mem 1011 (by decide +kernel) rfl
set_option maxHeartbeats 4000000 in
set_option maxRecDepth 100000 in
theorem ct_X11_easter (l : Launch) (g : sv_G) (A : Nat → Prop) (ty : Nat → Nat) (σ : Nat → Nat → Int) (hok : sv_ok ty σ) (hTA : ∀ q, ty q ≠ 0 → A q) (hI : sv_inv sp_1 ty σ) (hZ : sv_inv sp_0 ty σ) (a : Nat) (k_a : ty a = 10) (y : Int) (hy : sv_in y) : sv_M l yX11_easter cX11_easter 2 (some .int) { frames := 4, cells := 0, slots := 0, locals := 86 } g A ty σ [sv_r a, sv_i y] (fun r σ' => r = [sv_i (fx_easter y)] ∧ sv_off [] ty σ σ') := by
  refine sv_enter (by decide) (Nat.le_of_ble_eq_true rfl) ?_
  intro p e s m args below meth c C hr
  have C : sv_C g A RX11 cX11_easter 2 p s m args meth c := C
  have hr : meth.sig.returnType = (some .int) := hr
  have hF : sv_off [] ty σ σ := sv_off.rf
  refine sv_same (st2 := []) (lv2 := [(0, sv_r a), (1, sv_i y)]) rfl rfl ?_
  refine sv_go C.1 C.2.1 [(.iload_n 1, 1)] (pc' := 1) (by decide +kernel) rfl (lv' := [(0, sv_r a), (1, sv_i y)]) (st' := [sv_i y]) rfl ?_
  refine sv_cs C (index := 13) (k := 1) (rest := []) (by decide +kernel) (ct_X11_isYear l g A ty σ hok (y) ⟨by omega, by omega⟩) ⟨co_X11_isYear, in_X11, ⟨by decide, by decide, by decide +kernel⟩, Nat.le_of_ble_eq_true rfl, Nat.le_of_ble_eq_true rfl⟩ ml_X11_13 st_X11_isYear rfl rfl (Nat.le_of_ble_eq_true rfl) ⟨Nat.zero_le _, Nat.zero_le _⟩ (fun r2 σ3 hpo1 hok4 => ?_)
  obtain ⟨rfl, ⟨h5, rfl⟩ | ⟨h5, rfl⟩⟩ := hpo1
  · refine sv_same (st2 := [sv_i 1]) (lv2 := [(0, sv_r a), (1, sv_i y)]) rfl rfl ?_
    refine sv_if_f C.1 C.2.1 (cnd := .eq) (off := 10) (tgt := 14) (by decide +kernel) (by decide) ⟨by omega, by omega⟩ (show ¬ (1 = 0) by omega) ?_
    refine sv_go C.1 C.2.1 [(.iload_n 1, 1)] (pc' := 8) (by decide +kernel) rfl (lv' := [(0, sv_r a), (1, sv_i y)]) (st' := [sv_i y]) rfl ?_
    refine sv_cs C (index := 34) (k := 1) (rest := []) (by decide +kernel) (ct_X11_easterOf l g A ty σ hok4 (y) ⟨by omega, by omega⟩) ⟨co_X11_easterOf, in_X11, ⟨by decide, by decide, by decide +kernel⟩, Nat.le_of_ble_eq_true rfl, Nat.le_of_ble_eq_true rfl⟩ ml_X11_34 st_X11_easterOf rfl rfl (Nat.le_of_ble_eq_true rfl) ⟨Nat.zero_le _, Nat.zero_le _⟩ (fun r7 σ8 hpo6 hok9 => ?_)
    obtain ⟨rfl, rfl⟩ := hpo6
    have hn10 := dy_ea_in y
    refine sv_same (st2 := [sv_i (dy_ea y)]) (lv2 := [(0, sv_r a), (1, sv_i y)]) rfl rfl ?_
    refine sv_goto C.1 C.2.1 (off := 5) (tgt := 16) (by decide +kernel) (by decide) ?_
    exact sv_iret C hr (by decide +kernel) hok9 (⟨congrArg (fun q => [sv_i q]) (by first | omega | (unfold fx_easter; omega)), hF⟩)
  · refine sv_same (st2 := [sv_i 0]) (lv2 := [(0, sv_r a), (1, sv_i y)]) rfl rfl ?_
    refine sv_if_t C.1 C.2.1 (cnd := .eq) (off := 10) (tgt := 14) (by decide +kernel) (by decide) ⟨by omega, by omega⟩ (show 0 = 0 by omega) ?_
    refine sv_go C.1 C.2.1 [(.bipush (-2), 2)] (pc' := 16) (by decide +kernel) rfl (lv' := [(0, sv_r a), (1, sv_i y)]) (st' := [sv_i ((-2))]) rfl ?_
    exact sv_iret C hr (by decide +kernel) hok4 (⟨congrArg (fun q => [sv_i q]) (by first | omega | (unfold fx_easter; omega)), hF⟩)

set_option maxHeartbeats 4000000 in
set_option maxRecDepth 100000 in
theorem ct_X11_date (l : Launch) (g : sv_G) (A : Nat → Prop) (ty : Nat → Nat) (σ : Nat → Nat → Int) (hok : sv_ok ty σ) (hTA : ∀ q, ty q ≠ 0 → A q) (hI : sv_inv sp_1 ty σ) (hZ : sv_inv sp_0 ty σ) (a : Nat) (k_a : ty a = 10) (y : Int) (hy : sv_in y) (d : Int) (hd : sv_in d) (w1 : Int) (hw1 : sv_in w1) : sv_M l yX11_date cX11_date 6 (some .int) { frames := 3, cells := 0, slots := 0, locals := 66 } g A ty σ [sv_r a, sv_i y, sv_i d, sv_i w1] (fun r σ' => r = [sv_i (fx_date y d w1)] ∧ sv_off [] ty σ σ') := by
  refine sv_enter (by decide) (Nat.le_of_ble_eq_true rfl) ?_
  intro p e s m args below meth c C hr
  have C : sv_C g A RX11 cX11_date 6 p s m args meth c := C
  have hr : meth.sig.returnType = (some .int) := hr
  have hF : sv_off [] ty σ σ := sv_off.rf
  have hlp := dy_lp_in y
  refine sv_same (st2 := []) (lv2 := [(0, sv_r a), (1, sv_i y), (2, sv_i d), (3, sv_i w1)]) rfl rfl ?_
  refine sv_go C.1 C.2.1 [(.iload_n 1, 1), (.iload_n 2, 1)] (pc' := 2) (by decide +kernel) rfl (lv' := [(0, sv_r a), (1, sv_i y), (2, sv_i d), (3, sv_i w1)]) (st' := [sv_i d, sv_i y]) rfl ?_
  refine sv_cs C (index := 37) (k := 2) (rest := []) (by decide +kernel) (ct_X11_isDay l g A ty σ hok (y) ⟨by omega, by omega⟩ (d) ⟨by omega, by omega⟩) ⟨co_X11_isDay, in_X11, ⟨by decide, by decide, by decide +kernel⟩, Nat.le_of_ble_eq_true rfl, Nat.le_of_ble_eq_true rfl⟩ ml_X11_37 st_X11_isDay rfl rfl (Nat.le_of_ble_eq_true rfl) ⟨Nat.zero_le _, Nat.zero_le _⟩ (fun r2 σ3 hpo1 hok4 => ?_)
  obtain ⟨rfl, ⟨h5, rfl⟩ | ⟨h5, rfl⟩⟩ := hpo1
  · refine sv_same (st2 := [sv_i 1]) (lv2 := [(0, sv_r a), (1, sv_i y), (2, sv_i d), (3, sv_i w1)]) rfl rfl ?_
    refine sv_if_t C.1 C.2.1 (cnd := .ne) (off := 5) (tgt := 10) (by decide +kernel) (by decide) ⟨by omega, by omega⟩ (show 1 ≠ 0 by omega) ?_
    refine sv_go C.1 C.2.1 [(.iconst 1, 1), (.istore 4, 2), (.iload_n 2, 1), (.istore 5, 2)] (pc' := 16) (by decide +kernel) rfl (lv' := [(0, sv_r a), (1, sv_i y), (2, sv_i d), (3, sv_i w1), (4, sv_i 1), (5, sv_i d)]) (st' := []) rfl ?_
    have L6 : ∀ (n : Nat) (M : Int) (N : Int) , (1 ≤ M ∧ M ≤ 12) → (N = d - dy_ms y M) → (0 ≤ N ∧ N ≤ 366) → (12 - M) < (n : Int) → sv_E p l e { frames := 3, cells := 0, slots := 0, locals := 66 } s m args below meth c 6 g A ty (fun r σ' => r = [sv_i (fx_date y d w1)] ∧ sv_off [] ty σ σ') σ 16 [(0, sv_r a), (1, sv_i y), (2, sv_i d), (3, sv_i w1), (4, sv_i M), (5, sv_i N)] [] := by
      intro n
      induction n with
      | zero => intro M N  hM hN hN0 hmu; exact absurd hmu (by omega)
      | succ n ih7 =>
        intro M N  hM hN hN0 hmu
        refine sv_go C.1 C.2.1 [(.iload 5, 2), (.iload_n 1, 1), (.iload 4, 2)] (pc' := 21) (by decide +kernel) rfl (lv' := [(0, sv_r a), (1, sv_i y), (2, sv_i d), (3, sv_i w1), (4, sv_i M), (5, sv_i N)]) (st' := [sv_i M, sv_i y, sv_i N]) rfl ?_
        refine sv_cs C (index := 24) (k := 2) (rest := [sv_i N]) (by decide +kernel) (ct_X11_monthDays l g A ty σ hok4 (y) ⟨by omega, by omega⟩ (M) ⟨by omega, by omega⟩) ⟨co_X11_monthDays, in_X11, ⟨by decide, by decide, by decide +kernel⟩, Nat.le_of_ble_eq_true rfl, Nat.le_of_ble_eq_true rfl⟩ ml_X11_24 st_X11_monthDays rfl rfl (Nat.le_of_ble_eq_true rfl) ⟨Nat.zero_le _, Nat.zero_le _⟩ (fun r9 σ10 hpo8 hok11 => ?_)
        obtain ⟨rfl, rfl⟩ := hpo8
        have hn12 := dy_md_in y M
        refine sv_same (st2 := [sv_i (dy_md y M), sv_i N]) (lv2 := [(0, sv_r a), (1, sv_i y), (2, sv_i d), (3, sv_i w1), (4, sv_i M), (5, sv_i N)]) rfl rfl ?_
        refine sv_icmp C.1 C.2.1 (cnd := .lt) (off := 20) (tgt := 44) (by decide +kernel) (by decide) ⟨by omega, by omega⟩ ⟨by omega, by omega⟩ (fun (h13 : N < (dy_md y M)) => ?_) (fun (h13 : ¬ (N < (dy_md y M))) => ?_)
        · have hmo := dy_mo_of (y := y) (d := d) (M := M) (by omega) (by omega) (by omega) (by omega) (by right; rw [dy_ms_s (by omega) (by omega)]; omega)
          refine sv_go C.1 C.2.1 [(.iload_n 3, 1)] (pc' := 45) (by decide +kernel) rfl (lv' := [(0, sv_r a), (1, sv_i y), (2, sv_i d), (3, sv_i w1), (4, sv_i M), (5, sv_i N)]) (st' := [sv_i w1]) rfl ?_
          refine sv_if C.1 C.2.1 (cnd := .ne) (off := 8) (tgt := 53) (by decide +kernel) (by decide) ⟨by omega, by omega⟩ (fun (h14 : w1 ≠ 0) => ?_) (fun (h14 : ¬ (w1 ≠ 0)) => ?_)
          · refine sv_go C.1 C.2.1 [(.iload_n 3, 1), (.iconst 1, 1)] (pc' := 55) (by decide +kernel) rfl (lv' := [(0, sv_r a), (1, sv_i y), (2, sv_i d), (3, sv_i w1), (4, sv_i M), (5, sv_i N)]) (st' := [sv_i 1, sv_i w1]) rfl ?_
            refine sv_icmp C.1 C.2.1 (cnd := .ne) (off := 10) (tgt := 65) (by decide +kernel) (by decide) ⟨by omega, by omega⟩ ⟨by omega, by omega⟩ (fun (h15 : w1 ≠ 1) => ?_) (fun (h15 : ¬ (w1 ≠ 1)) => ?_)
            · refine sv_go C.1 C.2.1 [(.iload_n 3, 1), (.iconst 2, 1)] (pc' := 67) (by decide +kernel) rfl (lv' := [(0, sv_r a), (1, sv_i y), (2, sv_i d), (3, sv_i w1), (4, sv_i M), (5, sv_i N)]) (st' := [sv_i 2, sv_i w1]) rfl ?_
              refine sv_icmp C.1 C.2.1 (cnd := .ne) (off := 11) (tgt := 78) (by decide +kernel) (by decide) ⟨by omega, by omega⟩ ⟨by omega, by omega⟩ (fun (h16 : w1 ≠ 2) => ?_) (fun (h16 : ¬ (w1 ≠ 2)) => ?_)
              · refine sv_go C.1 C.2.1 [(.iconst (-1), 1)] (pc' := 79) (by decide +kernel) rfl (lv' := [(0, sv_r a), (1, sv_i y), (2, sv_i d), (3, sv_i w1), (4, sv_i M), (5, sv_i N)]) (st' := [sv_i ((-1))]) rfl ?_
                exact sv_iret C hr (by decide +kernel) hok11 (⟨congrArg (fun q => [sv_i q]) (by first | (unfold fx_date; omega) | (unfold fx_date; rw [← hmo]; omega)), hF⟩)
              · refine sv_go C.1 C.2.1 [(.iload_n 1, 1), (.iload_n 2, 1)] (pc' := 72) (by decide +kernel) rfl (lv' := [(0, sv_r a), (1, sv_i y), (2, sv_i d), (3, sv_i w1), (4, sv_i M), (5, sv_i N)]) (st' := [sv_i d, sv_i y]) rfl ?_
                refine sv_cs C (index := 31) (k := 2) (rest := []) (by decide +kernel) (ct_X11_weekday l g A ty σ hok11 (y) ⟨by omega, by omega⟩ (d) ⟨by omega, by omega⟩) ⟨co_X11_weekday, in_X11, ⟨by decide, by decide, by decide +kernel⟩, Nat.le_of_ble_eq_true rfl, Nat.le_of_ble_eq_true rfl⟩ ml_X11_31 st_X11_weekday rfl rfl (Nat.le_of_ble_eq_true rfl) ⟨Nat.zero_le _, Nat.zero_le _⟩ (fun r18 σ19 hpo17 hok20 => ?_)
                obtain ⟨rfl, rfl⟩ := hpo17
                have hn21 := dy_wd_in y d
                refine sv_same (st2 := [sv_i (dy_wd y d)]) (lv2 := [(0, sv_r a), (1, sv_i y), (2, sv_i d), (3, sv_i w1), (4, sv_i M), (5, sv_i N)]) rfl rfl ?_
                refine sv_goto C.1 C.2.1 (off := 4) (tgt := 79) (by decide +kernel) (by decide) ?_
                exact sv_iret C hr (by decide +kernel) hok20 (⟨congrArg (fun q => [sv_i q]) (by first | (unfold fx_date; omega) | (unfold fx_date; rw [← hmo]; omega)), hF⟩)
            · refine sv_go C.1 C.2.1 [(.iload 5, 2), (.iconst 1, 1), (.iadd, 1)] (pc' := 62) (by decide +kernel) rfl (lv' := [(0, sv_r a), (1, sv_i y), (2, sv_i d), (3, sv_i w1), (4, sv_i M), (5, sv_i N)]) (st' := [sv_i (N + 1)]) rfl ?_
              refine sv_goto C.1 C.2.1 (off := 17) (tgt := 79) (by decide +kernel) (by decide) ?_
              exact sv_iret C hr (by decide +kernel) hok11 (⟨congrArg (fun q => [sv_i q]) (by first | (unfold fx_date; omega) | (unfold fx_date; rw [← hmo]; omega)), hF⟩)
          · refine sv_go C.1 C.2.1 [(.iload 4, 2)] (pc' := 50) (by decide +kernel) rfl (lv' := [(0, sv_r a), (1, sv_i y), (2, sv_i d), (3, sv_i w1), (4, sv_i M), (5, sv_i N)]) (st' := [sv_i M]) rfl ?_
            refine sv_goto C.1 C.2.1 (off := 29) (tgt := 79) (by decide +kernel) (by decide) ?_
            exact sv_iret C hr (by decide +kernel) hok11 (⟨congrArg (fun q => [sv_i q]) (by first | (unfold fx_date; omega) | (unfold fx_date; rw [← hmo]; omega)), hF⟩)
        · refine sv_go C.1 C.2.1 [(.iload 5, 2), (.iload_n 1, 1), (.iload 4, 2)] (pc' := 32) (by decide +kernel) rfl (lv' := [(0, sv_r a), (1, sv_i y), (2, sv_i d), (3, sv_i w1), (4, sv_i M), (5, sv_i N)]) (st' := [sv_i M, sv_i y, sv_i N]) rfl ?_
          refine sv_cs C (index := 24) (k := 2) (rest := [sv_i N]) (by decide +kernel) (ct_X11_monthDays l g A ty σ hok11 (y) ⟨by omega, by omega⟩ (M) ⟨by omega, by omega⟩) ⟨co_X11_monthDays, in_X11, ⟨by decide, by decide, by decide +kernel⟩, Nat.le_of_ble_eq_true rfl, Nat.le_of_ble_eq_true rfl⟩ ml_X11_24 st_X11_monthDays rfl rfl (Nat.le_of_ble_eq_true rfl) ⟨Nat.zero_le _, Nat.zero_le _⟩ (fun r23 σ24 hpo22 hok25 => ?_)
          obtain ⟨rfl, rfl⟩ := hpo22
          have hn26 := dy_md_in y M
          refine sv_same (st2 := [sv_i (dy_md y M), sv_i N]) (lv2 := [(0, sv_r a), (1, sv_i y), (2, sv_i d), (3, sv_i w1), (4, sv_i M), (5, sv_i N)]) rfl rfl ?_
          refine sv_go C.1 C.2.1 [(.isub, 1), (.istore 5, 2), (.iinc 4 1, 3)] (pc' := 41) (by decide +kernel) rfl (lv' := [(0, sv_r a), (1, sv_i y), (2, sv_i d), (3, sv_i w1), (4, sv_i (M + 1)), (5, sv_i (N - (dy_md y M)))]) (st' := []) rfl ?_
          refine sv_goto C.1 C.2.1 (off := (-25)) (tgt := 16) (by decide +kernel) (by decide) ?_
          exact ih7 (M + 1) (N - (dy_md y M))  ⟨by omega, dy_last (y := y) (d := d) hM (by rw [dy_ms_s (by omega) (by omega)]; omega) (by omega)⟩ (by rw [dy_ms_s (by omega) (by omega)]; omega) (by omega) (by omega)
    exact L6 (((12 - 1 : Int)).toNat + 1) 1 d  (by omega) (by rw [dy_ms1]; omega) (by omega) (by omega)
  · refine sv_same (st2 := [sv_i 0]) (lv2 := [(0, sv_r a), (1, sv_i y), (2, sv_i d), (3, sv_i w1)]) rfl rfl ?_
    refine sv_if_f C.1 C.2.1 (cnd := .ne) (off := 5) (tgt := 10) (by decide +kernel) (by decide) ⟨by omega, by omega⟩ (show ¬ (0 ≠ 0) by omega) ?_
    refine sv_go C.1 C.2.1 [(.iconst (-1), 1)] (pc' := 9) (by decide +kernel) rfl (lv' := [(0, sv_r a), (1, sv_i y), (2, sv_i d), (3, sv_i w1)]) (st' := [sv_i ((-1))]) rfl ?_
    exact sv_iret C hr (by decide +kernel) hok4 (⟨congrArg (fun q => [sv_i q]) (by first | (unfold fx_date; omega) | (unfold fx_date; rw [← hmo]; omega)), hF⟩)

set_option maxHeartbeats 4000000 in
set_option maxRecDepth 100000 in
theorem ct_X11_held (l : Launch) (g : sv_G) (A : Nat → Prop) (ty : Nat → Nat) (σ : Nat → Nat → Int) (hok : sv_ok ty σ) (hTA : ∀ q, ty q ≠ 0 → A q) (hI : sv_inv sp_1 ty σ) (hZ : sv_inv sp_0 ty σ) (a : Nat) (k_a : ty a = 10) (v1 : Int) (hv1 : sv_in v1) (v2 : Int) (hv2 : sv_in v2) (v3 : Int) (hv3 : sv_in v3) : sv_M l yX11_held cX11_held 4 (some .int) { frames := 3, cells := 0, slots := 0, locals := 67 } g A ty σ [sv_r a, sv_i v1, sv_i v2, sv_i v3] (fun r σ' => r = [sv_i (-2)] ∧ sv_off [] ty σ σ') := by
  refine sv_enter (by decide) (Nat.le_of_ble_eq_true rfl) ?_
  intro p e s m args below meth c C hr
  have C : sv_C g A RX11 cX11_held 4 p s m args meth c := C
  have hr : meth.sig.returnType = (some .int) := hr
  have hF : sv_off [] ty σ σ := sv_off.rf
  refine sv_same (st2 := []) (lv2 := [(0, sv_r a), (1, sv_i v1), (2, sv_i v2), (3, sv_i v3)]) rfl rfl ?_
  refine sv_go C.1 C.2.1 [(.aload_n 0, 1), (.iload_n 1, 1), (.iload_n 3, 1)] (pc' := 3) (by decide +kernel) rfl (lv' := [(0, sv_r a), (1, sv_i v1), (2, sv_i v2), (3, sv_i v3)]) (st' := [sv_i v3, sv_i v1, sv_r a]) rfl ?_
  refine sv_cv C (index := 287) (k := 2) (rest := []) (ci := 10) (r := (RX11, TX11, 47)) (by decide +kernel) (ct_X11_isFeast l g A ty σ hok hI a k_a (v1) ⟨by omega, by omega⟩ (v3) ⟨by omega, by omega⟩) ⟨co_X11_isFeast, in_X11, ⟨by decide, by decide, by decide +kernel⟩, Nat.le_of_ble_eq_true rfl, Nat.le_of_ble_eq_true rfl⟩ ml_X11_287 im_X11_isFeast se_X11_isFeast (by rw [k_a]; rfl) rfl rfl rfl (Nat.le_of_ble_eq_true rfl) ⟨Nat.zero_le _, Nat.zero_le _⟩ (fun r2 σ3 hpo1 hok4 => ?_)
  obtain ⟨rfl, hpo1⟩ := hpo1
  obtain rfl := sv_boF hpo1
  refine sv_same (st2 := [sv_i 0]) (lv2 := [(0, sv_r a), (1, sv_i v1), (2, sv_i v2), (3, sv_i v3)]) rfl rfl ?_
  refine sv_if_t C.1 C.2.1 (cnd := .eq) (off := 10) (tgt := 16) (by decide +kernel) (by decide) ⟨by omega, by omega⟩ (show 0 = 0 by omega) ?_
  refine sv_go C.1 C.2.1 [(.bipush (-2), 2)] (pc' := 18) (by decide +kernel) rfl (lv' := [(0, sv_r a), (1, sv_i v1), (2, sv_i v2), (3, sv_i v3)]) (st' := [sv_i ((-2))]) rfl ?_
  exact sv_iret C hr (by decide +kernel) hok4 (⟨congrArg (fun q => [sv_i q]) (by first | omega | (unfold x; omega)), hF⟩)

set_option maxHeartbeats 4000000 in
set_option maxRecDepth 100000 in
theorem ct_X11_own (l : Launch) (g : sv_G) (A : Nat → Prop) (ty : Nat → Nat) (σ : Nat → Nat → Int) (hok : sv_ok ty σ) (hTA : ∀ q, ty q ≠ 0 → A q) (hI : sv_inv sp_1 ty σ) (hZ : sv_inv sp_0 ty σ) (a : Nat) (k_a : ty a = 10) (v1 : Int) (hv1 : sv_in v1) (v2 : Int) (hv2 : sv_in v2) (v3 : Int) (hv3 : sv_in v3) : sv_M l yX11_own cX11_own 4 (some .int) { frames := 3, cells := 0, slots := 0, locals := 67 } g A ty σ [sv_r a, sv_i v1, sv_i v2, sv_i v3] (fun r σ' => r = [sv_i (-2)] ∧ sv_off [] ty σ σ') := by
  refine sv_enter (by decide) (Nat.le_of_ble_eq_true rfl) ?_
  intro p e s m args below meth c C hr
  have C : sv_C g A RX11 cX11_own 4 p s m args meth c := C
  have hr : meth.sig.returnType = (some .int) := hr
  have hF : sv_off [] ty σ σ := sv_off.rf
  refine sv_same (st2 := []) (lv2 := [(0, sv_r a), (1, sv_i v1), (2, sv_i v2), (3, sv_i v3)]) rfl rfl ?_
  refine sv_go C.1 C.2.1 [(.aload_n 0, 1), (.iload_n 1, 1), (.iload_n 3, 1)] (pc' := 3) (by decide +kernel) rfl (lv' := [(0, sv_r a), (1, sv_i v1), (2, sv_i v2), (3, sv_i v3)]) (st' := [sv_i v3, sv_i v1, sv_r a]) rfl ?_
  refine sv_cv C (index := 287) (k := 2) (rest := []) (ci := 10) (r := (RX11, TX11, 47)) (by decide +kernel) (ct_X11_isFeast l g A ty σ hok hI a k_a (v1) ⟨by omega, by omega⟩ (v3) ⟨by omega, by omega⟩) ⟨co_X11_isFeast, in_X11, ⟨by decide, by decide, by decide +kernel⟩, Nat.le_of_ble_eq_true rfl, Nat.le_of_ble_eq_true rfl⟩ ml_X11_287 im_X11_isFeast se_X11_isFeast (by rw [k_a]; rfl) rfl rfl rfl (Nat.le_of_ble_eq_true rfl) ⟨Nat.zero_le _, Nat.zero_le _⟩ (fun r2 σ3 hpo1 hok4 => ?_)
  obtain ⟨rfl, hpo1⟩ := hpo1
  obtain rfl := sv_boF hpo1
  refine sv_same (st2 := [sv_i 0]) (lv2 := [(0, sv_r a), (1, sv_i v1), (2, sv_i v2), (3, sv_i v3)]) rfl rfl ?_
  refine sv_if_t C.1 C.2.1 (cnd := .eq) (off := 20) (tgt := 26) (by decide +kernel) (by decide) ⟨by omega, by omega⟩ (show 0 = 0 by omega) ?_
  refine sv_go C.1 C.2.1 [(.bipush (-2), 2)] (pc' := 28) (by decide +kernel) rfl (lv' := [(0, sv_r a), (1, sv_i v1), (2, sv_i v2), (3, sv_i v3)]) (st' := [sv_i ((-2))]) rfl ?_
  exact sv_iret C hr (by decide +kernel) hok4 (⟨congrArg (fun q => [sv_i q]) (by first | omega | (unfold x; omega)), hF⟩)

theorem fl_X11_321 : Cond.fieldLink RX11 321 "SaintsRoadModel" "turnsAll" "I" ∈ lw_good := sv_mem 1144 (by decide +kernel) rfl
theorem ml_X11_331 : Cond.methodLink RX11 331 yJ9_min_7cf53 ∈ lw_good := sv_mem 1440 (by decide +kernel) rfl
theorem fl_X11_130 : Cond.fieldLink RX11 130 "SaintsRoadModel" "turnYear" "[I" ∈ lw_good := sv_mem 1138 (by decide +kernel) rfl
theorem fl_X11_133 : Cond.fieldLink RX11 133 "SaintsRoadModel" "turnDay" "[I" ∈ lw_good := sv_mem 1139 (by decide +kernel) rfl
theorem fl_X11_136 : Cond.fieldLink RX11 136 "SaintsRoadModel" "turnFeast" "[I" ∈ lw_good := sv_mem 1140 (by decide +kernel) rfl
theorem fl_X11_139 : Cond.fieldLink RX11 139 "SaintsRoadModel" "turnBy" "[I" ∈ lw_good := sv_mem 1141 (by decide +kernel) rfl
set_option maxHeartbeats 4000000 in
set_option maxRecDepth 100000 in
theorem ct_X11_turn (l : Launch) (g : sv_G) (A : Nat → Prop) (ty : Nat → Nat) (σ : Nat → Nat → Int) (hok : sv_ok ty σ) (hTA : ∀ q, ty q ≠ 0 → A q) (hI : sv_inv sp_1 ty σ) (hZ : sv_inv sp_0 ty σ) (a : Nat) (k_a : ty a = 10) (v1 : Int) (hv1 : sv_in v1) (v2 : Int) (hv2 : sv_in v2) : sv_M l yX11_turn cX11_turn 3 (some .int) { frames := 1, cells := 0, slots := 0, locals := 25 } g A ty σ [sv_r a, sv_i v1, sv_i v2] (fun r σ' => r = [sv_i (-1)] ∧ sv_off [] ty σ σ') := by
  refine sv_enter (by decide) (Nat.le_of_ble_eq_true rfl) ?_
  intro p e s m args below meth c C hr
  have C : sv_C g A RX11 cX11_turn 3 p s m args meth c := C
  have hr : meth.sig.returnType = (some .int) := hr
  have hF : sv_off [] ty σ σ := sv_off.rf
  refine sv_same (st2 := []) (lv2 := [(0, sv_r a), (1, sv_i v1), (2, sv_i v2)]) rfl rfl ?_
  refine sv_go C.1 C.2.1 [(.iload_n 1, 1)] (pc' := 1) (by decide +kernel) rfl (lv' := [(0, sv_r a), (1, sv_i v1), (2, sv_i v2)]) (st' := [sv_i v1]) rfl ?_
  refine sv_i2l C.1 C.2.1 (by decide +kernel) ⟨by omega, by omega⟩ ?_
  refine sv_go C.1 C.2.1 [(.lconst 0, 1), (.aload_n 0, 1)] (pc' := 4) (by decide +kernel) rfl (lv' := [(0, sv_r a), (1, sv_i v1), (2, sv_i v2)]) (st' := [sv_r a, sv_l 0, sv_l v1]) rfl ?_
  have t1 : σ a 40 = 0 := by have q := hZ.num (k := 40) k_a rfl; omega
  refine sv_gf C (index := 321) (ci := 10) (k := 40) (r := (RX11, TX11, 47)) (v := sv_i 0) (by decide +kernel) (by rw [k_a]; rfl) rfl (by decide) fl_X11_321 (congrArg sv_i t1) ?_
  refine sv_go C.1 C.2.1 [(.sipush 600, 3)] (pc' := 10) (by decide +kernel) rfl (lv' := [(0, sv_r a), (1, sv_i v1), (2, sv_i v2)]) (st' := [sv_i 600, sv_i 0, sv_l 0, sv_l v1]) rfl ?_
  refine sv_min C (index := 331) (by decide +kernel) ml_X11_331 ⟨by omega, by omega⟩ ⟨by omega, by omega⟩ (Nat.le_of_ble_eq_true rfl) (Nat.le_of_ble_eq_true rfl) ⟨Nat.zero_le _, Nat.zero_le _⟩ ?_
  obtain ⟨mm2, hmm2⟩ : ∃ q : Int, q = (if (600 : Int) < 0 then 600 else 0) := ⟨_, rfl⟩
  refine sv_same (st2 := [sv_i mm2, sv_l 0, sv_l v1]) (lv2 := [(0, sv_r a), (1, sv_i v1), (2, sv_i v2)]) (by rw [hmm2]) rfl ?_
  refine sv_i2l C.1 C.2.1 (by decide +kernel) ⟨by omega, by omega⟩ ?_
  refine sv_go C.1 C.2.1 [(.lconst 1, 1), (.lsub, 1)] (pc' := 16) (by decide +kernel) rfl (lv' := [(0, sv_r a), (1, sv_i v1), (2, sv_i v2)]) (st' := [sv_l (mm2 - 1), sv_l 0, sv_l v1]) rfl ?_
  refine sv_cs C (index := 9) (k := 3) (rest := []) (by decide +kernel) (ct_X11_in l g A ty σ hok (v1) ⟨by omega, by omega⟩ (0) ⟨by omega, by omega⟩ (mm2 - 1) ⟨by omega, by omega⟩) ⟨co_X11_in, in_X11, ⟨by decide, by decide, by decide +kernel⟩, Nat.le_of_ble_eq_true rfl, Nat.le_of_ble_eq_true rfl⟩ ml_X11_9 st_X11_in rfl rfl (Nat.le_of_ble_eq_true rfl) ⟨Nat.zero_le _, Nat.zero_le _⟩ (fun r4 σ5 hpo3 hok6 => ?_)
  obtain ⟨rfl, ⟨h7, rfl⟩ | ⟨h7, rfl⟩⟩ := hpo3
  · refine sv_same (st2 := [sv_i 1]) (lv2 := [(0, sv_r a), (1, sv_i v1), (2, sv_i v2)]) rfl rfl ?_
    refine sv_if_t C.1 C.2.1 (cnd := .ne) (off := 5) (tgt := 24) (by decide +kernel) (by decide) ⟨by omega, by omega⟩ (show 1 ≠ 0 by omega) ?_
    refine sv_go C.1 C.2.1 [(.iload_n 2, 1)] (pc' := 25) (by decide +kernel) rfl (lv' := [(0, sv_r a), (1, sv_i v1), (2, sv_i v2)]) (st' := [sv_i v2]) rfl ?_
    rcases (show v2 = 0 ∨ v2 = 1 ∨ v2 = 2 ∨ v2 = 3 ∨ (v2 ≠ 0 ∧ v2 ≠ 1 ∧ v2 ≠ 2 ∧ v2 ≠ 3) by omega) with h8 | h8 | h8 | h8 | h8
    · refine sv_tsI C.1 C.2.1 (dflt := 59) (lo := 0) (hi := 3) (offs := #[31, 38, 45, 52]) (len := 31) (off := 31) (tgt := 56) (by decide +kernel) 0 h8 (by decide) rfl (by decide) ?_
      refine sv_go C.1 C.2.1 [(.aload_n 0, 1)] (pc' := 57) (by decide +kernel) rfl (lv' := [(0, sv_r a), (1, sv_i v1), (2, sv_i v2)]) (st' := [sv_r a]) rfl ?_
      obtain ⟨q9, eq9, kq9⟩ := hI.ref (k := 34) k_a rfl
      refine sv_gf C (index := 130) (ci := 10) (k := 34) (r := (RX11, TX11, 47)) (v := sv_r q9) (by decide +kernel) (by rw [k_a]; rfl) rfl (by decide) fl_X11_130 (congrArg sv_a eq9) ?_
      refine sv_go C.1 C.2.1 [(.iload_n 1, 1)] (pc' := 61) (by decide +kernel) rfl (lv' := [(0, sv_r a), (1, sv_i v1), (2, sv_i v2)]) (st' := [sv_i v1, sv_r q9]) rfl ?_
      refine sv_ia C (n := 600) (by decide +kernel) (by rw [kq9]; rfl) (by decide) (by omega) (by omega) ?_
      have w10 := sv_ok.el hok6 (k := (v1 : Int).toNat) (t := .int) (n := 600) (by rw [kq9]; rfl) (by omega)
      generalize hw10 : σ q9 v1.toNat = xw10 at w10 ⊢
      have w10 : sv_in xw10 := w10
      exact sv_iret C hr (by decide +kernel) hok6 (⟨congrArg (fun q => [sv_i q]) (by first | omega | (unfold x; omega)), hF⟩)
    · refine sv_tsI C.1 C.2.1 (dflt := 59) (lo := 0) (hi := 3) (offs := #[31, 38, 45, 52]) (len := 31) (off := 38) (tgt := 63) (by decide +kernel) 1 h8 (by decide) rfl (by decide) ?_
      refine sv_go C.1 C.2.1 [(.aload_n 0, 1)] (pc' := 64) (by decide +kernel) rfl (lv' := [(0, sv_r a), (1, sv_i v1), (2, sv_i v2)]) (st' := [sv_r a]) rfl ?_
      obtain ⟨q11, eq11, kq11⟩ := hI.ref (k := 35) k_a rfl
      refine sv_gf C (index := 133) (ci := 10) (k := 35) (r := (RX11, TX11, 47)) (v := sv_r q11) (by decide +kernel) (by rw [k_a]; rfl) rfl (by decide) fl_X11_133 (congrArg sv_a eq11) ?_
      refine sv_go C.1 C.2.1 [(.iload_n 1, 1)] (pc' := 68) (by decide +kernel) rfl (lv' := [(0, sv_r a), (1, sv_i v1), (2, sv_i v2)]) (st' := [sv_i v1, sv_r q11]) rfl ?_
      refine sv_ia C (n := 600) (by decide +kernel) (by rw [kq11]; rfl) (by decide) (by omega) (by omega) ?_
      have w12 := sv_ok.el hok6 (k := (v1 : Int).toNat) (t := .int) (n := 600) (by rw [kq11]; rfl) (by omega)
      generalize hw12 : σ q11 v1.toNat = xw12 at w12 ⊢
      have w12 : sv_in xw12 := w12
      exact sv_iret C hr (by decide +kernel) hok6 (⟨congrArg (fun q => [sv_i q]) (by first | omega | (unfold x; omega)), hF⟩)
    · refine sv_tsI C.1 C.2.1 (dflt := 59) (lo := 0) (hi := 3) (offs := #[31, 38, 45, 52]) (len := 31) (off := 45) (tgt := 70) (by decide +kernel) 2 h8 (by decide) rfl (by decide) ?_
      refine sv_go C.1 C.2.1 [(.aload_n 0, 1)] (pc' := 71) (by decide +kernel) rfl (lv' := [(0, sv_r a), (1, sv_i v1), (2, sv_i v2)]) (st' := [sv_r a]) rfl ?_
      obtain ⟨q13, eq13, kq13⟩ := hI.ref (k := 36) k_a rfl
      refine sv_gf C (index := 136) (ci := 10) (k := 36) (r := (RX11, TX11, 47)) (v := sv_r q13) (by decide +kernel) (by rw [k_a]; rfl) rfl (by decide) fl_X11_136 (congrArg sv_a eq13) ?_
      refine sv_go C.1 C.2.1 [(.iload_n 1, 1)] (pc' := 75) (by decide +kernel) rfl (lv' := [(0, sv_r a), (1, sv_i v1), (2, sv_i v2)]) (st' := [sv_i v1, sv_r q13]) rfl ?_
      refine sv_ia C (n := 600) (by decide +kernel) (by rw [kq13]; rfl) (by decide) (by omega) (by omega) ?_
      have w14 := sv_ok.el hok6 (k := (v1 : Int).toNat) (t := .int) (n := 600) (by rw [kq13]; rfl) (by omega)
      generalize hw14 : σ q13 v1.toNat = xw14 at w14 ⊢
      have w14 : sv_in xw14 := w14
      exact sv_iret C hr (by decide +kernel) hok6 (⟨congrArg (fun q => [sv_i q]) (by first | omega | (unfold x; omega)), hF⟩)
    · refine sv_tsI C.1 C.2.1 (dflt := 59) (lo := 0) (hi := 3) (offs := #[31, 38, 45, 52]) (len := 31) (off := 52) (tgt := 77) (by decide +kernel) 3 h8 (by decide) rfl (by decide) ?_
      refine sv_go C.1 C.2.1 [(.aload_n 0, 1)] (pc' := 78) (by decide +kernel) rfl (lv' := [(0, sv_r a), (1, sv_i v1), (2, sv_i v2)]) (st' := [sv_r a]) rfl ?_
      obtain ⟨q15, eq15, kq15⟩ := hI.ref (k := 37) k_a rfl
      refine sv_gf C (index := 139) (ci := 10) (k := 37) (r := (RX11, TX11, 47)) (v := sv_r q15) (by decide +kernel) (by rw [k_a]; rfl) rfl (by decide) fl_X11_139 (congrArg sv_a eq15) ?_
      refine sv_go C.1 C.2.1 [(.iload_n 1, 1)] (pc' := 82) (by decide +kernel) rfl (lv' := [(0, sv_r a), (1, sv_i v1), (2, sv_i v2)]) (st' := [sv_i v1, sv_r q15]) rfl ?_
      refine sv_ia C (n := 600) (by decide +kernel) (by rw [kq15]; rfl) (by decide) (by omega) (by omega) ?_
      have w16 := sv_ok.el hok6 (k := (v1 : Int).toNat) (t := .int) (n := 600) (by rw [kq15]; rfl) (by omega)
      generalize hw16 : σ q15 v1.toNat = xw16 at w16 ⊢
      have w16 : sv_in xw16 := w16
      exact sv_iret C hr (by decide +kernel) hok6 (⟨congrArg (fun q => [sv_i q]) (by first | omega | (unfold x; omega)), hF⟩)
    · refine sv_tsO C.1 C.2.1 (dflt := 59) (lo := 0) (hi := 3) (offs := #[31, 38, 45, 52]) (len := 31) (tgt := 84) (by decide +kernel) ⟨by omega, by omega⟩ (by omega) (by decide) ?_
      refine sv_go C.1 C.2.1 [(.iconst (-1), 1)] (pc' := 85) (by decide +kernel) rfl (lv' := [(0, sv_r a), (1, sv_i v1), (2, sv_i v2)]) (st' := [sv_i ((-1))]) rfl ?_
      exact sv_iret C hr (by decide +kernel) hok6 (⟨congrArg (fun q => [sv_i q]) (by first | omega | (unfold x; omega)), hF⟩)
  · refine sv_same (st2 := [sv_i 0]) (lv2 := [(0, sv_r a), (1, sv_i v1), (2, sv_i v2)]) rfl rfl ?_
    refine sv_if_f C.1 C.2.1 (cnd := .ne) (off := 5) (tgt := 24) (by decide +kernel) (by decide) ⟨by omega, by omega⟩ (show ¬ (0 ≠ 0) by omega) ?_
    refine sv_go C.1 C.2.1 [(.iconst (-1), 1)] (pc' := 23) (by decide +kernel) rfl (lv' := [(0, sv_r a), (1, sv_i v1), (2, sv_i v2)]) (st' := [sv_i ((-1))]) rfl ?_
    exact sv_iret C hr (by decide +kernel) hok6 (⟨congrArg (fun q => [sv_i q]) (by first | omega | (unfold x; omega)), hF⟩)

theorem ml_X11_316 : Cond.methodLink RX11 316 yX11_isBrotherhood ∈ lw_good := sv_mem 1419 (by decide +kernel) rfl
theorem co_X11_isBrotherhood : Cond.code yX11_isBrotherhood cX11_isBrotherhood 1 (some .boolean) ∈ lw_good := sv_mem 1421 (by decide +kernel) rfl
theorem st_X11_isBrotherhood : Cond.static yX11_isBrotherhood ∈ lw_good := sv_mem 1420 (by decide +kernel) rfl
theorem fl_X11_142 : Cond.fieldLink RX11 142 "SaintsRoadModel" "carriedBy" "[I" ∈ lw_good := sv_mem 1142 (by decide +kernel) rfl
set_option maxHeartbeats 4000000 in
set_option maxRecDepth 100000 in
theorem ct_X11_carried (l : Launch) (g : sv_G) (A : Nat → Prop) (ty : Nat → Nat) (σ : Nat → Nat → Int) (hok : sv_ok ty σ) (hTA : ∀ q, ty q ≠ 0 → A q) (hI : sv_inv sp_1 ty σ) (hZ : sv_inv sp_0 ty σ) (a : Nat) (k_a : ty a = 10) (v1 : Int) (hv1 : sv_in v1) : sv_M l yX11_carried cX11_carried 2 (some .int) { frames := 2, cells := 0, slots := 0, locals := 45 } g A ty σ [sv_r a, sv_i v1] (fun r σ' => r = [sv_i (fx_br v1)] ∧ sv_off [] ty σ σ') := by
  refine sv_enter (by decide) (Nat.le_of_ble_eq_true rfl) ?_
  intro p e s m args below meth c C hr
  have C : sv_C g A RX11 cX11_carried 2 p s m args meth c := C
  have hr : meth.sig.returnType = (some .int) := hr
  have hF : sv_off [] ty σ σ := sv_off.rf
  refine sv_same (st2 := []) (lv2 := [(0, sv_r a), (1, sv_i v1)]) rfl rfl ?_
  refine sv_go C.1 C.2.1 [(.iload_n 1, 1)] (pc' := 1) (by decide +kernel) rfl (lv' := [(0, sv_r a), (1, sv_i v1)]) (st' := [sv_i v1]) rfl ?_
  refine sv_cs C (index := 316) (k := 1) (rest := []) (by decide +kernel) (ct_X11_isBrotherhood l g A ty σ hok (v1) ⟨by omega, by omega⟩) ⟨co_X11_isBrotherhood, in_X11, ⟨by decide, by decide, by decide +kernel⟩, Nat.le_of_ble_eq_true rfl, Nat.le_of_ble_eq_true rfl⟩ ml_X11_316 st_X11_isBrotherhood rfl rfl (Nat.le_of_ble_eq_true rfl) ⟨Nat.zero_le _, Nat.zero_le _⟩ (fun r2 σ3 hpo1 hok4 => ?_)
  obtain ⟨rfl, ⟨h5, rfl⟩ | ⟨h5, rfl⟩⟩ := hpo1
  · refine sv_same (st2 := [sv_i 1]) (lv2 := [(0, sv_r a), (1, sv_i v1)]) rfl rfl ?_
    refine sv_if_f C.1 C.2.1 (cnd := .eq) (off := 12) (tgt := 16) (by decide +kernel) (by decide) ⟨by omega, by omega⟩ (show ¬ (1 = 0) by omega) ?_
    refine sv_go C.1 C.2.1 [(.aload_n 0, 1)] (pc' := 8) (by decide +kernel) rfl (lv' := [(0, sv_r a), (1, sv_i v1)]) (st' := [sv_r a]) rfl ?_
    obtain ⟨q6, eq6, kq6⟩ := hI.ref (k := 38) k_a rfl
    refine sv_gf C (index := 142) (ci := 10) (k := 38) (r := (RX11, TX11, 47)) (v := sv_r q6) (by decide +kernel) (by rw [k_a]; rfl) rfl (by decide) fl_X11_142 (congrArg sv_a eq6) ?_
    refine sv_go C.1 C.2.1 [(.iload_n 1, 1)] (pc' := 12) (by decide +kernel) rfl (lv' := [(0, sv_r a), (1, sv_i v1)]) (st' := [sv_i v1, sv_r q6]) rfl ?_
    refine sv_ia C (n := 10) (by decide +kernel) (by rw [kq6]; rfl) (by decide) (by omega) (by omega) ?_
    have w7 : σ q6 v1.toNat = 0 := by have q := hZ.num (k := (v1 : Int).toNat) kq6 rfl; omega
    rw [w7]
    refine sv_goto C.1 C.2.1 (off := 5) (tgt := 18) (by decide +kernel) (by decide) ?_
    exact sv_iret C hr (by decide +kernel) hok4 (⟨congrArg (fun q => [sv_i q]) (by first | omega | (unfold fx_br; omega)), hF⟩)
  · refine sv_same (st2 := [sv_i 0]) (lv2 := [(0, sv_r a), (1, sv_i v1)]) rfl rfl ?_
    refine sv_if_t C.1 C.2.1 (cnd := .eq) (off := 12) (tgt := 16) (by decide +kernel) (by decide) ⟨by omega, by omega⟩ (show 0 = 0 by omega) ?_
    refine sv_go C.1 C.2.1 [(.bipush (-2), 2)] (pc' := 18) (by decide +kernel) rfl (lv' := [(0, sv_r a), (1, sv_i v1)]) (st' := [sv_i ((-2))]) rfl ?_
    exact sv_iret C hr (by decide +kernel) hok4 (⟨congrArg (fun q => [sv_i q]) (by first | omega | (unfold fx_br; omega)), hF⟩)

theorem fl_X11_127 : Cond.fieldLink RX11 127 "SaintsRoadModel" "quarrels" "[Z" ∈ lw_good := sv_mem 1137 (by decide +kernel) rfl
set_option maxHeartbeats 4000000 in
set_option maxRecDepth 100000 in
theorem ct_X11_quarrel (l : Launch) (g : sv_G) (A : Nat → Prop) (ty : Nat → Nat) (σ : Nat → Nat → Int) (hok : sv_ok ty σ) (hTA : ∀ q, ty q ≠ 0 → A q) (hI : sv_inv sp_1 ty σ) (hZ : sv_inv sp_0 ty σ) (a : Nat) (k_a : ty a = 10) (v1 : Int) (hv1 : sv_in v1) (v2 : Int) (hv2 : sv_in v2) (on : Int) (hon : 0 ≤ on ∧ on ≤ 1) : sv_M l yX11_quarrel cX11_quarrel 5 (some .int) { frames := 2, cells := 0, slots := 0, locals := 45 } g A ty σ [sv_r a, sv_i v1, sv_i v2, sv_i on] (fun r σ' => r = [sv_i (fx_quarrel v1 v2 on)] ∧ sv_off [93] ty σ σ') := by
  refine sv_enter (by decide) (Nat.le_of_ble_eq_true rfl) ?_
  intro p e s m args below meth c C hr
  have C : sv_C g A RX11 cX11_quarrel 5 p s m args meth c := C
  have hr : meth.sig.returnType = (some .int) := hr
  have hF : sv_off [93] ty σ σ := sv_off.rf
  refine sv_same (st2 := []) (lv2 := [(0, sv_r a), (1, sv_i v1), (2, sv_i v2), (3, sv_i on)]) rfl rfl ?_
  refine sv_go C.1 C.2.1 [(.iload_n 1, 1)] (pc' := 1) (by decide +kernel) rfl (lv' := [(0, sv_r a), (1, sv_i v1), (2, sv_i v2), (3, sv_i on)]) (st' := [sv_i v1]) rfl ?_
  refine sv_cs C (index := 316) (k := 1) (rest := []) (by decide +kernel) (ct_X11_isBrotherhood l g A ty σ hok (v1) ⟨by omega, by omega⟩) ⟨co_X11_isBrotherhood, in_X11, ⟨by decide, by decide, by decide +kernel⟩, Nat.le_of_ble_eq_true rfl, Nat.le_of_ble_eq_true rfl⟩ ml_X11_316 st_X11_isBrotherhood rfl rfl (Nat.le_of_ble_eq_true rfl) ⟨Nat.zero_le _, Nat.zero_le _⟩ (fun r2 σ3 hpo1 hok4 => ?_)
  obtain ⟨rfl, ⟨h5, rfl⟩ | ⟨h5, rfl⟩⟩ := hpo1
  · refine sv_same (st2 := [sv_i 1]) (lv2 := [(0, sv_r a), (1, sv_i v1), (2, sv_i v2), (3, sv_i on)]) rfl rfl ?_
    refine sv_if_f C.1 C.2.1 (cnd := .eq) (off := 15) (tgt := 19) (by decide +kernel) (by decide) ⟨by omega, by omega⟩ (show ¬ (1 = 0) by omega) ?_
    refine sv_go C.1 C.2.1 [(.iload_n 2, 1)] (pc' := 8) (by decide +kernel) rfl (lv' := [(0, sv_r a), (1, sv_i v1), (2, sv_i v2), (3, sv_i on)]) (st' := [sv_i v2]) rfl ?_
    refine sv_cs C (index := 316) (k := 1) (rest := []) (by decide +kernel) (ct_X11_isBrotherhood l g A ty σ hok4 (v2) ⟨by omega, by omega⟩) ⟨co_X11_isBrotherhood, in_X11, ⟨by decide, by decide, by decide +kernel⟩, Nat.le_of_ble_eq_true rfl, Nat.le_of_ble_eq_true rfl⟩ ml_X11_316 st_X11_isBrotherhood rfl rfl (Nat.le_of_ble_eq_true rfl) ⟨Nat.zero_le _, Nat.zero_le _⟩ (fun r7 σ8 hpo6 hok9 => ?_)
    obtain ⟨rfl, ⟨h10, rfl⟩ | ⟨h10, rfl⟩⟩ := hpo6
    · refine sv_same (st2 := [sv_i 1]) (lv2 := [(0, sv_r a), (1, sv_i v1), (2, sv_i v2), (3, sv_i on)]) rfl rfl ?_
      refine sv_if_f C.1 C.2.1 (cnd := .eq) (off := 8) (tgt := 19) (by decide +kernel) (by decide) ⟨by omega, by omega⟩ (show ¬ (1 = 0) by omega) ?_
      refine sv_go C.1 C.2.1 [(.iload_n 1, 1), (.iload_n 2, 1)] (pc' := 16) (by decide +kernel) rfl (lv' := [(0, sv_r a), (1, sv_i v1), (2, sv_i v2), (3, sv_i on)]) (st' := [sv_i v2, sv_i v1]) rfl ?_
      refine sv_icmp C.1 C.2.1 (cnd := .ne) (off := 6) (tgt := 22) (by decide +kernel) (by decide) ⟨by omega, by omega⟩ ⟨by omega, by omega⟩ (fun (h11 : v1 ≠ v2) => ?_) (fun (h11 : ¬ (v1 ≠ v2)) => ?_)
      · refine sv_go C.1 C.2.1 [(.aload_n 0, 1)] (pc' := 23) (by decide +kernel) rfl (lv' := [(0, sv_r a), (1, sv_i v1), (2, sv_i v2), (3, sv_i on)]) (st' := [sv_r a]) rfl ?_
        obtain ⟨q12, eq12, kq12⟩ := hI.ref (k := 33) k_a rfl
        refine sv_gf C (index := 127) (ci := 10) (k := 33) (r := (RX11, TX11, 47)) (v := sv_r q12) (by decide +kernel) (by rw [k_a]; rfl) rfl (by decide) fl_X11_127 (congrArg sv_a eq12) ?_
        refine sv_go C.1 C.2.1 [(.bipush 10, 2), (.iload_n 1, 1), (.imul, 1), (.iload_n 2, 1), (.iadd, 1)] (pc' := 32) (by decide +kernel) rfl (lv' := [(0, sv_r a), (1, sv_i v1), (2, sv_i v2), (3, sv_i on)]) (st' := [sv_i ((10 * v1) + v2), sv_r q12]) rfl ?_
        refine sv_za C (n := 100) (by decide +kernel) (by rw [kq12]; rfl) (by decide) (by omega) (by omega) ?_
        have w13 : σ q12 ((10 * v1) + v2).toNat = 0 := by have q := hZ.num (k := ((10 * v1) + v2 : Int).toNat) kq12 rfl; omega
        rw [w13]
        refine sv_go C.1 C.2.1 [(.istore 4, 2), (.aload_n 0, 1)] (pc' := 36) (by decide +kernel) rfl (lv' := [(0, sv_r a), (1, sv_i v1), (2, sv_i v2), (3, sv_i on), (4, sv_i 0)]) (st' := [sv_r a]) rfl ?_
        refine sv_gf C (index := 127) (ci := 10) (k := 33) (r := (RX11, TX11, 47)) (v := sv_r q12) (by decide +kernel) (by rw [k_a]; rfl) rfl (by decide) fl_X11_127 (congrArg sv_a eq12) ?_
        refine sv_go C.1 C.2.1 [(.bipush 10, 2), (.iload_n 1, 1), (.imul, 1), (.iload_n 2, 1), (.iadd, 1), (.iload_n 3, 1)] (pc' := 46) (by decide +kernel) rfl (lv' := [(0, sv_r a), (1, sv_i v1), (2, sv_i v2), (3, sv_i on), (4, sv_i 0)]) (st' := [sv_i on, sv_i ((10 * v1) + v2), sv_r q12]) rfl ?_
        refine sv_zs C (n := 100) (by decide +kernel) (by rw [kq12]; rfl) (by decide) (by omega) (by omega) ⟨by omega, by omega⟩ (hTA _ (by rw [kq12]; decide)) hok9 (fun hok14 => ?_)
        have hI16 := hI.up (a := q12) (k := ((10 * v1) + v2 : Int).toNat) (z := on) (by rw [kq12]; exact trivial)
        have hF17 := hF.up (a := q12) (k := ((10 * v1) + v2 : Int).toNat) (z := on) (by rw [kq12]; decide)
        generalize eσ15 : sv_up σ q12 ((10 * v1) + v2 : Int).toNat on = σ15 at hok14 hI16 hF17 ⊢
        have t18 : σ15 a 33 = (q12 : Int) + 1 := by rw [← eσ15, sv_up_a (sv_ne k_a kq12 (by decide))]; exact eq12
        refine sv_go C.1 C.2.1 [(.aload_n 0, 1)] (pc' := 48) (by decide +kernel) rfl (lv' := [(0, sv_r a), (1, sv_i v1), (2, sv_i v2), (3, sv_i on), (4, sv_i 0)]) (st' := [sv_r a]) rfl ?_
        refine sv_gf C (index := 127) (ci := 10) (k := 33) (r := (RX11, TX11, 47)) (v := sv_r q12) (by decide +kernel) (by rw [k_a]; rfl) rfl (by decide) fl_X11_127 (congrArg sv_a t18) ?_
        refine sv_go C.1 C.2.1 [(.bipush 10, 2), (.iload_n 2, 1), (.imul, 1), (.iload_n 1, 1), (.iadd, 1), (.iload_n 3, 1)] (pc' := 58) (by decide +kernel) rfl (lv' := [(0, sv_r a), (1, sv_i v1), (2, sv_i v2), (3, sv_i on), (4, sv_i 0)]) (st' := [sv_i on, sv_i ((10 * v2) + v1), sv_r q12]) rfl ?_
        refine sv_zs C (n := 100) (by decide +kernel) (by rw [kq12]; rfl) (by decide) (by omega) (by omega) ⟨by omega, by omega⟩ (hTA _ (by rw [kq12]; decide)) hok14 (fun hok19 => ?_)
        have hI21 := hI16.up (a := q12) (k := ((10 * v2) + v1 : Int).toNat) (z := on) (by rw [kq12]; exact trivial)
        have hF22 := hF17.up (a := q12) (k := ((10 * v2) + v1 : Int).toNat) (z := on) (by rw [kq12]; decide)
        generalize eσ20 : sv_up σ15 q12 ((10 * v2) + v1 : Int).toNat on = σ20 at hok19 hI21 hF22 ⊢
        have t23 : σ20 a 33 = (q12 : Int) + 1 := by rw [← eσ20, sv_up_a (sv_ne k_a kq12 (by decide))]; exact t18
        refine sv_go C.1 C.2.1 [(.iload 4, 2), (.iload_n 3, 1)] (pc' := 62) (by decide +kernel) rfl (lv' := [(0, sv_r a), (1, sv_i v1), (2, sv_i v2), (3, sv_i on), (4, sv_i 0)]) (st' := [sv_i on, sv_i 0]) rfl ?_
        refine sv_icmp C.1 C.2.1 (cnd := .ne) (off := 7) (tgt := 69) (by decide +kernel) (by decide) ⟨by omega, by omega⟩ ⟨by omega, by omega⟩ (fun (h24 : 0 ≠ on) => ?_) (fun (h24 : ¬ (0 ≠ on)) => ?_)
        · refine sv_go C.1 C.2.1 [(.iconst 1, 1)] (pc' := 70) (by decide +kernel) rfl (lv' := [(0, sv_r a), (1, sv_i v1), (2, sv_i v2), (3, sv_i on), (4, sv_i 0)]) (st' := [sv_i 1]) rfl ?_
          exact sv_iret C hr (by decide +kernel) hok19 (⟨congrArg (fun q => [sv_i q]) (by first | omega | (unfold fx_quarrel; omega)), hF22⟩)
        · refine sv_go C.1 C.2.1 [(.iconst 0, 1)] (pc' := 66) (by decide +kernel) rfl (lv' := [(0, sv_r a), (1, sv_i v1), (2, sv_i v2), (3, sv_i on), (4, sv_i 0)]) (st' := [sv_i 0]) rfl ?_
          refine sv_goto C.1 C.2.1 (off := 4) (tgt := 70) (by decide +kernel) (by decide) ?_
          exact sv_iret C hr (by decide +kernel) hok19 (⟨congrArg (fun q => [sv_i q]) (by first | omega | (unfold fx_quarrel; omega)), hF22⟩)
      · refine sv_go C.1 C.2.1 [(.bipush (-2), 2)] (pc' := 21) (by decide +kernel) rfl (lv' := [(0, sv_r a), (1, sv_i v1), (2, sv_i v2), (3, sv_i on)]) (st' := [sv_i ((-2))]) rfl ?_
        exact sv_iret C hr (by decide +kernel) hok9 (⟨congrArg (fun q => [sv_i q]) (by first | omega | (unfold fx_quarrel; omega)), hF⟩)
    · refine sv_same (st2 := [sv_i 0]) (lv2 := [(0, sv_r a), (1, sv_i v1), (2, sv_i v2), (3, sv_i on)]) rfl rfl ?_
      refine sv_if_t C.1 C.2.1 (cnd := .eq) (off := 8) (tgt := 19) (by decide +kernel) (by decide) ⟨by omega, by omega⟩ (show 0 = 0 by omega) ?_
      refine sv_go C.1 C.2.1 [(.bipush (-2), 2)] (pc' := 21) (by decide +kernel) rfl (lv' := [(0, sv_r a), (1, sv_i v1), (2, sv_i v2), (3, sv_i on)]) (st' := [sv_i ((-2))]) rfl ?_
      exact sv_iret C hr (by decide +kernel) hok9 (⟨congrArg (fun q => [sv_i q]) (by first | omega | (unfold fx_quarrel; omega)), hF⟩)
  · refine sv_same (st2 := [sv_i 0]) (lv2 := [(0, sv_r a), (1, sv_i v1), (2, sv_i v2), (3, sv_i on)]) rfl rfl ?_
    refine sv_if_t C.1 C.2.1 (cnd := .eq) (off := 15) (tgt := 19) (by decide +kernel) (by decide) ⟨by omega, by omega⟩ (show 0 = 0 by omega) ?_
    refine sv_go C.1 C.2.1 [(.bipush (-2), 2)] (pc' := 21) (by decide +kernel) rfl (lv' := [(0, sv_r a), (1, sv_i v1), (2, sv_i v2), (3, sv_i on)]) (st' := [sv_i ((-2))]) rfl ?_
    exact sv_iret C hr (by decide +kernel) hok4 (⟨congrArg (fun q => [sv_i q]) (by first | omega | (unfold fx_quarrel; omega)), hF⟩)

theorem ml_X11_338 : Cond.methodLink RX11 338 yX11_isCorner ∈ lw_good := sv_mem 1449 (by decide +kernel) rfl
theorem co_X11_isCorner : Cond.code yX11_isCorner cX11_isCorner 1 (some .boolean) ∈ lw_good := sv_mem 1451 (by decide +kernel) rfl
theorem st_X11_isCorner : Cond.static yX11_isCorner ∈ lw_good := sv_mem 1450 (by decide +kernel) rfl
theorem cl_X11_341 : Cond.constantLong RX11 341 (60) ∈ lw_good := sv_mem 1453 (by decide +kernel) rfl
theorem fl_X11_148 : Cond.fieldLink RX11 148 "SaintsRoadModel" "streets" "[I" ∈ lw_good := sv_mem 1145 (by decide +kernel) rfl
set_option maxHeartbeats 4000000 in
set_option maxRecDepth 100000 in
theorem ct_X11_street (l : Launch) (g : sv_G) (A : Nat → Prop) (ty : Nat → Nat) (σ : Nat → Nat → Int) (hok : sv_ok ty σ) (hTA : ∀ q, ty q ≠ 0 → A q) (hI : sv_inv sp_1 ty σ) (hZ : sv_inv sp_0 ty σ) (a : Nat) (k_a : ty a = 10) (v1 : Int) (hv1 : sv_in v1) (v2 : Int) (hv2 : sv_in v2) (v3 : Int) (hv3 : sv_in v3) : sv_M l yX11_street cX11_street 5 (some .int) { frames := 2, cells := 0, slots := 0, locals := 45 } g A ty σ [sv_r a, sv_i v1, sv_i v2, sv_i v3] (fun r σ' => r = [sv_i (fx_street v1 v2 v3)] ∧ sv_off [101] ty σ σ') := by
  refine sv_enter (by decide) (Nat.le_of_ble_eq_true rfl) ?_
  intro p e s m args below meth c C hr
  have C : sv_C g A RX11 cX11_street 5 p s m args meth c := C
  have hr : meth.sig.returnType = (some .int) := hr
  have hF : sv_off [101] ty σ σ := sv_off.rf
  refine sv_same (st2 := []) (lv2 := [(0, sv_r a), (1, sv_i v1), (2, sv_i v2), (3, sv_i v3)]) rfl rfl ?_
  refine sv_go C.1 C.2.1 [(.iload_n 1, 1)] (pc' := 1) (by decide +kernel) rfl (lv' := [(0, sv_r a), (1, sv_i v1), (2, sv_i v2), (3, sv_i v3)]) (st' := [sv_i v1]) rfl ?_
  refine sv_cs C (index := 338) (k := 1) (rest := []) (by decide +kernel) (ct_X11_isCorner l g A ty σ hok (v1) ⟨by omega, by omega⟩) ⟨co_X11_isCorner, in_X11, ⟨by decide, by decide, by decide +kernel⟩, Nat.le_of_ble_eq_true rfl, Nat.le_of_ble_eq_true rfl⟩ ml_X11_338 st_X11_isCorner rfl rfl (Nat.le_of_ble_eq_true rfl) ⟨Nat.zero_le _, Nat.zero_le _⟩ (fun r2 σ3 hpo1 hok4 => ?_)
  obtain ⟨rfl, ⟨h5, rfl⟩ | ⟨h5, rfl⟩⟩ := hpo1
  · refine sv_same (st2 := [sv_i 1]) (lv2 := [(0, sv_r a), (1, sv_i v1), (2, sv_i v2), (3, sv_i v3)]) rfl rfl ?_
    refine sv_if_f C.1 C.2.1 (cnd := .eq) (off := 27) (tgt := 31) (by decide +kernel) (by decide) ⟨by omega, by omega⟩ (show ¬ (1 = 0) by omega) ?_
    refine sv_go C.1 C.2.1 [(.iload_n 2, 1)] (pc' := 8) (by decide +kernel) rfl (lv' := [(0, sv_r a), (1, sv_i v1), (2, sv_i v2), (3, sv_i v3)]) (st' := [sv_i v2]) rfl ?_
    refine sv_cs C (index := 338) (k := 1) (rest := []) (by decide +kernel) (ct_X11_isCorner l g A ty σ hok4 (v2) ⟨by omega, by omega⟩) ⟨co_X11_isCorner, in_X11, ⟨by decide, by decide, by decide +kernel⟩, Nat.le_of_ble_eq_true rfl, Nat.le_of_ble_eq_true rfl⟩ ml_X11_338 st_X11_isCorner rfl rfl (Nat.le_of_ble_eq_true rfl) ⟨Nat.zero_le _, Nat.zero_le _⟩ (fun r7 σ8 hpo6 hok9 => ?_)
    obtain ⟨rfl, ⟨h10, rfl⟩ | ⟨h10, rfl⟩⟩ := hpo6
    · refine sv_same (st2 := [sv_i 1]) (lv2 := [(0, sv_r a), (1, sv_i v1), (2, sv_i v2), (3, sv_i v3)]) rfl rfl ?_
      refine sv_if_f C.1 C.2.1 (cnd := .eq) (off := 20) (tgt := 31) (by decide +kernel) (by decide) ⟨by omega, by omega⟩ (show ¬ (1 = 0) by omega) ?_
      refine sv_go C.1 C.2.1 [(.iload_n 1, 1), (.iload_n 2, 1)] (pc' := 16) (by decide +kernel) rfl (lv' := [(0, sv_r a), (1, sv_i v1), (2, sv_i v2), (3, sv_i v3)]) (st' := [sv_i v2, sv_i v1]) rfl ?_
      refine sv_icmp C.1 C.2.1 (cnd := .eq) (off := 15) (tgt := 31) (by decide +kernel) (by decide) ⟨by omega, by omega⟩ ⟨by omega, by omega⟩ (fun (h11 : v1 = v2) => ?_) (fun (h11 : ¬ (v1 = v2)) => ?_)
      · refine sv_go C.1 C.2.1 [(.bipush (-2), 2)] (pc' := 33) (by decide +kernel) rfl (lv' := [(0, sv_r a), (1, sv_i v1), (2, sv_i v2), (3, sv_i v3)]) (st' := [sv_i ((-2))]) rfl ?_
        exact sv_iret C hr (by decide +kernel) hok9 (⟨congrArg (fun q => [sv_i q]) (by first | omega | (unfold fx_street; omega)), hF⟩)
      · refine sv_go C.1 C.2.1 [(.iload_n 3, 1)] (pc' := 20) (by decide +kernel) rfl (lv' := [(0, sv_r a), (1, sv_i v1), (2, sv_i v2), (3, sv_i v3)]) (st' := [sv_i v3]) rfl ?_
        refine sv_i2l C.1 C.2.1 (by decide +kernel) ⟨by omega, by omega⟩ ?_
        refine sv_go C.1 C.2.1 [(.lconst 0, 1)] (pc' := 22) (by decide +kernel) rfl (lv' := [(0, sv_r a), (1, sv_i v1), (2, sv_i v2), (3, sv_i v3)]) (st' := [sv_l 0, sv_l v3]) rfl ?_
        refine sv_ldc2 C (index := 341) (z := 60) (by decide +kernel) cl_X11_341 (by decide) ?_
        refine sv_cs C (index := 9) (k := 3) (rest := []) (by decide +kernel) (ct_X11_in l g A ty σ hok9 (v3) ⟨by omega, by omega⟩ (0) ⟨by omega, by omega⟩ (60) ⟨by omega, by omega⟩) ⟨co_X11_in, in_X11, ⟨by decide, by decide, by decide +kernel⟩, Nat.le_of_ble_eq_true rfl, Nat.le_of_ble_eq_true rfl⟩ ml_X11_9 st_X11_in rfl rfl (Nat.le_of_ble_eq_true rfl) ⟨Nat.zero_le _, Nat.zero_le _⟩ (fun r13 σ14 hpo12 hok15 => ?_)
        obtain ⟨rfl, ⟨h16, rfl⟩ | ⟨h16, rfl⟩⟩ := hpo12
        · refine sv_same (st2 := [sv_i 1]) (lv2 := [(0, sv_r a), (1, sv_i v1), (2, sv_i v2), (3, sv_i v3)]) rfl rfl ?_
          refine sv_if_t C.1 C.2.1 (cnd := .ne) (off := 6) (tgt := 34) (by decide +kernel) (by decide) ⟨by omega, by omega⟩ (show 1 ≠ 0 by omega) ?_
          refine sv_go C.1 C.2.1 [(.aload_n 0, 1)] (pc' := 35) (by decide +kernel) rfl (lv' := [(0, sv_r a), (1, sv_i v1), (2, sv_i v2), (3, sv_i v3)]) (st' := [sv_r a]) rfl ?_
          obtain ⟨q17, eq17, kq17⟩ := hI.ref (k := 41) k_a rfl
          refine sv_gf C (index := 148) (ci := 10) (k := 41) (r := (RX11, TX11, 47)) (v := sv_r q17) (by decide +kernel) (by rw [k_a]; rfl) rfl (by decide) fl_X11_148 (congrArg sv_a eq17) ?_
          refine sv_go C.1 C.2.1 [(.bipush 20, 2), (.iload_n 1, 1), (.imul, 1), (.iload_n 2, 1), (.iadd, 1)] (pc' := 44) (by decide +kernel) rfl (lv' := [(0, sv_r a), (1, sv_i v1), (2, sv_i v2), (3, sv_i v3)]) (st' := [sv_i ((20 * v1) + v2), sv_r q17]) rfl ?_
          refine sv_ia C (n := 400) (by decide +kernel) (by rw [kq17]; rfl) (by decide) (by omega) (by omega) ?_
          have w18 : σ q17 ((20 * v1) + v2).toNat = 0 := by have q := hZ.num (k := ((20 * v1) + v2 : Int).toNat) kq17 rfl; omega
          rw [w18]
          refine sv_go C.1 C.2.1 [(.istore 4, 2), (.aload_n 0, 1)] (pc' := 48) (by decide +kernel) rfl (lv' := [(0, sv_r a), (1, sv_i v1), (2, sv_i v2), (3, sv_i v3), (4, sv_i 0)]) (st' := [sv_r a]) rfl ?_
          refine sv_gf C (index := 148) (ci := 10) (k := 41) (r := (RX11, TX11, 47)) (v := sv_r q17) (by decide +kernel) (by rw [k_a]; rfl) rfl (by decide) fl_X11_148 (congrArg sv_a eq17) ?_
          refine sv_go C.1 C.2.1 [(.bipush 20, 2), (.iload_n 1, 1), (.imul, 1), (.iload_n 2, 1), (.iadd, 1), (.iload_n 3, 1)] (pc' := 58) (by decide +kernel) rfl (lv' := [(0, sv_r a), (1, sv_i v1), (2, sv_i v2), (3, sv_i v3), (4, sv_i 0)]) (st' := [sv_i v3, sv_i ((20 * v1) + v2), sv_r q17]) rfl ?_
          refine sv_is C (n := 400) (by decide +kernel) (by rw [kq17]; rfl) (by decide) (by omega) (by omega) ⟨by omega, by omega⟩ (hTA _ (by rw [kq17]; decide)) hok15 (fun hok19 => ?_)
          have hI21 := hI.up (a := q17) (k := ((20 * v1) + v2 : Int).toNat) (z := v3) (by rw [kq17]; exact trivial)
          have hF22 := hF.up (a := q17) (k := ((20 * v1) + v2 : Int).toNat) (z := v3) (by rw [kq17]; decide)
          generalize eσ20 : sv_up σ q17 ((20 * v1) + v2 : Int).toNat v3 = σ20 at hok19 hI21 hF22 ⊢
          have t23 : σ20 a 41 = (q17 : Int) + 1 := by rw [← eσ20, sv_up_a (sv_ne k_a kq17 (by decide))]; exact eq17
          refine sv_go C.1 C.2.1 [(.aload_n 0, 1)] (pc' := 60) (by decide +kernel) rfl (lv' := [(0, sv_r a), (1, sv_i v1), (2, sv_i v2), (3, sv_i v3), (4, sv_i 0)]) (st' := [sv_r a]) rfl ?_
          refine sv_gf C (index := 148) (ci := 10) (k := 41) (r := (RX11, TX11, 47)) (v := sv_r q17) (by decide +kernel) (by rw [k_a]; rfl) rfl (by decide) fl_X11_148 (congrArg sv_a t23) ?_
          refine sv_go C.1 C.2.1 [(.bipush 20, 2), (.iload_n 2, 1), (.imul, 1), (.iload_n 1, 1), (.iadd, 1), (.iload_n 3, 1)] (pc' := 70) (by decide +kernel) rfl (lv' := [(0, sv_r a), (1, sv_i v1), (2, sv_i v2), (3, sv_i v3), (4, sv_i 0)]) (st' := [sv_i v3, sv_i ((20 * v2) + v1), sv_r q17]) rfl ?_
          refine sv_is C (n := 400) (by decide +kernel) (by rw [kq17]; rfl) (by decide) (by omega) (by omega) ⟨by omega, by omega⟩ (hTA _ (by rw [kq17]; decide)) hok19 (fun hok24 => ?_)
          have hI26 := hI21.up (a := q17) (k := ((20 * v2) + v1 : Int).toNat) (z := v3) (by rw [kq17]; exact trivial)
          have hF27 := hF22.up (a := q17) (k := ((20 * v2) + v1 : Int).toNat) (z := v3) (by rw [kq17]; decide)
          generalize eσ25 : sv_up σ20 q17 ((20 * v2) + v1 : Int).toNat v3 = σ25 at hok24 hI26 hF27 ⊢
          have t28 : σ25 a 41 = (q17 : Int) + 1 := by rw [← eσ25, sv_up_a (sv_ne k_a kq17 (by decide))]; exact t23
          refine sv_go C.1 C.2.1 [(.iload 4, 2)] (pc' := 73) (by decide +kernel) rfl (lv' := [(0, sv_r a), (1, sv_i v1), (2, sv_i v2), (3, sv_i v3), (4, sv_i 0)]) (st' := [sv_i 0]) rfl ?_
          exact sv_iret C hr (by decide +kernel) hok24 (⟨congrArg (fun q => [sv_i q]) (by first | omega | (unfold fx_street; omega)), hF27⟩)
        · refine sv_same (st2 := [sv_i 0]) (lv2 := [(0, sv_r a), (1, sv_i v1), (2, sv_i v2), (3, sv_i v3)]) rfl rfl ?_
          refine sv_if_f C.1 C.2.1 (cnd := .ne) (off := 6) (tgt := 34) (by decide +kernel) (by decide) ⟨by omega, by omega⟩ (show ¬ (0 ≠ 0) by omega) ?_
          refine sv_go C.1 C.2.1 [(.bipush (-2), 2)] (pc' := 33) (by decide +kernel) rfl (lv' := [(0, sv_r a), (1, sv_i v1), (2, sv_i v2), (3, sv_i v3)]) (st' := [sv_i ((-2))]) rfl ?_
          exact sv_iret C hr (by decide +kernel) hok15 (⟨congrArg (fun q => [sv_i q]) (by first | omega | (unfold fx_street; omega)), hF⟩)
    · refine sv_same (st2 := [sv_i 0]) (lv2 := [(0, sv_r a), (1, sv_i v1), (2, sv_i v2), (3, sv_i v3)]) rfl rfl ?_
      refine sv_if_t C.1 C.2.1 (cnd := .eq) (off := 20) (tgt := 31) (by decide +kernel) (by decide) ⟨by omega, by omega⟩ (show 0 = 0 by omega) ?_
      refine sv_go C.1 C.2.1 [(.bipush (-2), 2)] (pc' := 33) (by decide +kernel) rfl (lv' := [(0, sv_r a), (1, sv_i v1), (2, sv_i v2), (3, sv_i v3)]) (st' := [sv_i ((-2))]) rfl ?_
      exact sv_iret C hr (by decide +kernel) hok9 (⟨congrArg (fun q => [sv_i q]) (by first | omega | (unfold fx_street; omega)), hF⟩)
  · refine sv_same (st2 := [sv_i 0]) (lv2 := [(0, sv_r a), (1, sv_i v1), (2, sv_i v2), (3, sv_i v3)]) rfl rfl ?_
    refine sv_if_t C.1 C.2.1 (cnd := .eq) (off := 27) (tgt := 31) (by decide +kernel) (by decide) ⟨by omega, by omega⟩ (show 0 = 0 by omega) ?_
    refine sv_go C.1 C.2.1 [(.bipush (-2), 2)] (pc' := 33) (by decide +kernel) rfl (lv' := [(0, sv_r a), (1, sv_i v1), (2, sv_i v2), (3, sv_i v3)]) (st' := [sv_i ((-2))]) rfl ?_
    exact sv_iret C hr (by decide +kernel) hok4 (⟨congrArg (fun q => [sv_i q]) (by first | omega | (unfold fx_street; omega)), hF⟩)

theorem ml_X11_345 : Cond.methodLink RX11 345 yX11_isWalk ∈ lw_good := sv_mem 1458 (by decide +kernel) rfl
theorem co_X11_isWalk : Cond.code yX11_isWalk cX11_isWalk 1 (some .boolean) ∈ lw_good := sv_mem 1460 (by decide +kernel) rfl
theorem st_X11_isWalk : Cond.static yX11_isWalk ∈ lw_good := sv_mem 1459 (by decide +kernel) rfl
theorem cl_X11_348 : Cond.constantLong RX11 348 (1440) ∈ lw_good := sv_mem 1462 (by decide +kernel) rfl
theorem cl_X11_350 : Cond.constantLong RX11 350 (30) ∈ lw_good := sv_mem 1463 (by decide +kernel) rfl
theorem fl_X11_151 : Cond.fieldLink RX11 151 "SaintsRoadModel" "stops" "[I" ∈ lw_good := sv_mem 1146 (by decide +kernel) rfl
theorem fl_X11_154 : Cond.fieldLink RX11 154 "SaintsRoadModel" "start" "[I" ∈ lw_good := sv_mem 1147 (by decide +kernel) rfl
theorem fl_X11_157 : Cond.fieldLink RX11 157 "SaintsRoadModel" "tail" "[I" ∈ lw_good := sv_mem 1148 (by decide +kernel) rfl
theorem fl_X11_160 : Cond.fieldLink RX11 160 "SaintsRoadModel" "corner" "[I" ∈ lw_good := sv_mem 1149 (by decide +kernel) rfl
theorem fl_X11_163 : Cond.fieldLink RX11 163 "SaintsRoadModel" "after" "[I" ∈ lw_good := sv_mem 1150 (by decide +kernel) rfl
set_option maxHeartbeats 4000000 in
set_option maxRecDepth 100000 in
theorem ct_X11_begin (l : Launch) (g : sv_G) (A : Nat → Prop) (ty : Nat → Nat) (σ : Nat → Nat → Int) (hok : sv_ok ty σ) (hTA : ∀ q, ty q ≠ 0 → A q) (hI : sv_inv sp_1 ty σ) (hZ : sv_inv sp_0 ty σ) (a : Nat) (k_a : ty a = 10) (v1 : Int) (hv1 : sv_in v1) (v2 : Int) (hv2 : sv_in v2) (v3 : Int) (hv3 : sv_in v3) (v4 : Int) (hv4 : sv_in v4) : sv_M l yX11_begin cX11_begin 5 (some .int) { frames := 2, cells := 0, slots := 0, locals := 45 } g A ty σ [sv_r a, sv_i v1, sv_i v2, sv_i v3, sv_i v4] (fun r σ' => r = [sv_i (fx_begin v1 v2 v3 v4)] ∧ sv_off [102, 103, 104, 105, 106] ty σ σ') := by
  refine sv_enter (by decide) (Nat.le_of_ble_eq_true rfl) ?_
  intro p e s m args below meth c C hr
  have C : sv_C g A RX11 cX11_begin 5 p s m args meth c := C
  have hr : meth.sig.returnType = (some .int) := hr
  have hF : sv_off [102, 103, 104, 105, 106] ty σ σ := sv_off.rf
  refine sv_same (st2 := []) (lv2 := [(0, sv_r a), (1, sv_i v1), (2, sv_i v2), (3, sv_i v3), (4, sv_i v4)]) rfl rfl ?_
  refine sv_go C.1 C.2.1 [(.iload_n 1, 1)] (pc' := 1) (by decide +kernel) rfl (lv' := [(0, sv_r a), (1, sv_i v1), (2, sv_i v2), (3, sv_i v3), (4, sv_i v4)]) (st' := [sv_i v1]) rfl ?_
  refine sv_cs C (index := 345) (k := 1) (rest := []) (by decide +kernel) (ct_X11_isWalk l g A ty σ hok (v1) ⟨by omega, by omega⟩) ⟨co_X11_isWalk, in_X11, ⟨by decide, by decide, by decide +kernel⟩, Nat.le_of_ble_eq_true rfl, Nat.le_of_ble_eq_true rfl⟩ ml_X11_345 st_X11_isWalk rfl rfl (Nat.le_of_ble_eq_true rfl) ⟨Nat.zero_le _, Nat.zero_le _⟩ (fun r2 σ3 hpo1 hok4 => ?_)
  obtain ⟨rfl, ⟨h5, rfl⟩ | ⟨h5, rfl⟩⟩ := hpo1
  · refine sv_same (st2 := [sv_i 1]) (lv2 := [(0, sv_r a), (1, sv_i v1), (2, sv_i v2), (3, sv_i v3), (4, sv_i v4)]) rfl rfl ?_
    refine sv_if_f C.1 C.2.1 (cnd := .eq) (off := 35) (tgt := 39) (by decide +kernel) (by decide) ⟨by omega, by omega⟩ (show ¬ (1 = 0) by omega) ?_
    refine sv_go C.1 C.2.1 [(.iload_n 2, 1)] (pc' := 8) (by decide +kernel) rfl (lv' := [(0, sv_r a), (1, sv_i v1), (2, sv_i v2), (3, sv_i v3), (4, sv_i v4)]) (st' := [sv_i v2]) rfl ?_
    refine sv_cs C (index := 338) (k := 1) (rest := []) (by decide +kernel) (ct_X11_isCorner l g A ty σ hok4 (v2) ⟨by omega, by omega⟩) ⟨co_X11_isCorner, in_X11, ⟨by decide, by decide, by decide +kernel⟩, Nat.le_of_ble_eq_true rfl, Nat.le_of_ble_eq_true rfl⟩ ml_X11_338 st_X11_isCorner rfl rfl (Nat.le_of_ble_eq_true rfl) ⟨Nat.zero_le _, Nat.zero_le _⟩ (fun r7 σ8 hpo6 hok9 => ?_)
    obtain ⟨rfl, ⟨h10, rfl⟩ | ⟨h10, rfl⟩⟩ := hpo6
    · refine sv_same (st2 := [sv_i 1]) (lv2 := [(0, sv_r a), (1, sv_i v1), (2, sv_i v2), (3, sv_i v3), (4, sv_i v4)]) rfl rfl ?_
      refine sv_if_f C.1 C.2.1 (cnd := .eq) (off := 28) (tgt := 39) (by decide +kernel) (by decide) ⟨by omega, by omega⟩ (show ¬ (1 = 0) by omega) ?_
      refine sv_go C.1 C.2.1 [(.iload_n 3, 1)] (pc' := 15) (by decide +kernel) rfl (lv' := [(0, sv_r a), (1, sv_i v1), (2, sv_i v2), (3, sv_i v3), (4, sv_i v4)]) (st' := [sv_i v3]) rfl ?_
      refine sv_i2l C.1 C.2.1 (by decide +kernel) ⟨by omega, by omega⟩ ?_
      refine sv_go C.1 C.2.1 [(.lconst 0, 1)] (pc' := 17) (by decide +kernel) rfl (lv' := [(0, sv_r a), (1, sv_i v1), (2, sv_i v2), (3, sv_i v3), (4, sv_i v4)]) (st' := [sv_l 0, sv_l v3]) rfl ?_
      refine sv_ldc2 C (index := 348) (z := 1440) (by decide +kernel) cl_X11_348 (by decide) ?_
      refine sv_cs C (index := 9) (k := 3) (rest := []) (by decide +kernel) (ct_X11_in l g A ty σ hok9 (v3) ⟨by omega, by omega⟩ (0) ⟨by omega, by omega⟩ (1440) ⟨by omega, by omega⟩) ⟨co_X11_in, in_X11, ⟨by decide, by decide, by decide +kernel⟩, Nat.le_of_ble_eq_true rfl, Nat.le_of_ble_eq_true rfl⟩ ml_X11_9 st_X11_in rfl rfl (Nat.le_of_ble_eq_true rfl) ⟨Nat.zero_le _, Nat.zero_le _⟩ (fun r12 σ13 hpo11 hok14 => ?_)
      obtain ⟨rfl, ⟨h15, rfl⟩ | ⟨h15, rfl⟩⟩ := hpo11
      · refine sv_same (st2 := [sv_i 1]) (lv2 := [(0, sv_r a), (1, sv_i v1), (2, sv_i v2), (3, sv_i v3), (4, sv_i v4)]) rfl rfl ?_
        refine sv_if_f C.1 C.2.1 (cnd := .eq) (off := 16) (tgt := 39) (by decide +kernel) (by decide) ⟨by omega, by omega⟩ (show ¬ (1 = 0) by omega) ?_
        refine sv_go C.1 C.2.1 [(.iload 4, 2)] (pc' := 28) (by decide +kernel) rfl (lv' := [(0, sv_r a), (1, sv_i v1), (2, sv_i v2), (3, sv_i v3), (4, sv_i v4)]) (st' := [sv_i v4]) rfl ?_
        refine sv_i2l C.1 C.2.1 (by decide +kernel) ⟨by omega, by omega⟩ ?_
        refine sv_go C.1 C.2.1 [(.lconst 0, 1)] (pc' := 30) (by decide +kernel) rfl (lv' := [(0, sv_r a), (1, sv_i v1), (2, sv_i v2), (3, sv_i v3), (4, sv_i v4)]) (st' := [sv_l 0, sv_l v4]) rfl ?_
        refine sv_ldc2 C (index := 350) (z := 30) (by decide +kernel) cl_X11_350 (by decide) ?_
        refine sv_cs C (index := 9) (k := 3) (rest := []) (by decide +kernel) (ct_X11_in l g A ty σ hok14 (v4) ⟨by omega, by omega⟩ (0) ⟨by omega, by omega⟩ (30) ⟨by omega, by omega⟩) ⟨co_X11_in, in_X11, ⟨by decide, by decide, by decide +kernel⟩, Nat.le_of_ble_eq_true rfl, Nat.le_of_ble_eq_true rfl⟩ ml_X11_9 st_X11_in rfl rfl (Nat.le_of_ble_eq_true rfl) ⟨Nat.zero_le _, Nat.zero_le _⟩ (fun r17 σ18 hpo16 hok19 => ?_)
        obtain ⟨rfl, ⟨h20, rfl⟩ | ⟨h20, rfl⟩⟩ := hpo16
        · refine sv_same (st2 := [sv_i 1]) (lv2 := [(0, sv_r a), (1, sv_i v1), (2, sv_i v2), (3, sv_i v3), (4, sv_i v4)]) rfl rfl ?_
          refine sv_if_t C.1 C.2.1 (cnd := .ne) (off := 6) (tgt := 42) (by decide +kernel) (by decide) ⟨by omega, by omega⟩ (show 1 ≠ 0 by omega) ?_
          refine sv_go C.1 C.2.1 [(.aload_n 0, 1)] (pc' := 43) (by decide +kernel) rfl (lv' := [(0, sv_r a), (1, sv_i v1), (2, sv_i v2), (3, sv_i v3), (4, sv_i v4)]) (st' := [sv_r a]) rfl ?_
          obtain ⟨q21, eq21, kq21⟩ := hI.ref (k := 42) k_a rfl
          refine sv_gf C (index := 151) (ci := 10) (k := 42) (r := (RX11, TX11, 47)) (v := sv_r q21) (by decide +kernel) (by rw [k_a]; rfl) rfl (by decide) fl_X11_151 (congrArg sv_a eq21) ?_
          refine sv_go C.1 C.2.1 [(.iload_n 1, 1), (.iconst 1, 1)] (pc' := 48) (by decide +kernel) rfl (lv' := [(0, sv_r a), (1, sv_i v1), (2, sv_i v2), (3, sv_i v3), (4, sv_i v4)]) (st' := [sv_i 1, sv_i v1, sv_r q21]) rfl ?_
          refine sv_is C (n := 12) (by decide +kernel) (by rw [kq21]; rfl) (by decide) (by omega) (by omega) ⟨by omega, by omega⟩ (hTA _ (by rw [kq21]; decide)) hok19 (fun hok22 => ?_)
          have hI24 := hI.up (a := q21) (k := (v1 : Int).toNat) (z := 1) (by rw [kq21]; exact trivial)
          have hF25 := hF.up (a := q21) (k := (v1 : Int).toNat) (z := 1) (by rw [kq21]; decide)
          generalize eσ23 : sv_up σ q21 (v1 : Int).toNat 1 = σ23 at hok22 hI24 hF25 ⊢
          have t26 : σ23 a 42 = (q21 : Int) + 1 := by rw [← eσ23, sv_up_a (sv_ne k_a kq21 (by decide))]; exact eq21
          refine sv_go C.1 C.2.1 [(.aload_n 0, 1)] (pc' := 50) (by decide +kernel) rfl (lv' := [(0, sv_r a), (1, sv_i v1), (2, sv_i v2), (3, sv_i v3), (4, sv_i v4)]) (st' := [sv_r a]) rfl ?_
          obtain ⟨q27, eq27, kq27⟩ := hI24.ref (k := 43) k_a rfl
          refine sv_gf C (index := 154) (ci := 10) (k := 43) (r := (RX11, TX11, 47)) (v := sv_r q27) (by decide +kernel) (by rw [k_a]; rfl) rfl (by decide) fl_X11_154 (congrArg sv_a eq27) ?_
          refine sv_go C.1 C.2.1 [(.iload_n 1, 1), (.iload_n 3, 1)] (pc' := 55) (by decide +kernel) rfl (lv' := [(0, sv_r a), (1, sv_i v1), (2, sv_i v2), (3, sv_i v3), (4, sv_i v4)]) (st' := [sv_i v3, sv_i v1, sv_r q27]) rfl ?_
          refine sv_is C (n := 12) (by decide +kernel) (by rw [kq27]; rfl) (by decide) (by omega) (by omega) ⟨by omega, by omega⟩ (hTA _ (by rw [kq27]; decide)) hok22 (fun hok28 => ?_)
          have hI30 := hI24.up (a := q27) (k := (v1 : Int).toNat) (z := v3) (by rw [kq27]; exact trivial)
          have hF31 := hF25.up (a := q27) (k := (v1 : Int).toNat) (z := v3) (by rw [kq27]; decide)
          generalize eσ29 : sv_up σ23 q27 (v1 : Int).toNat v3 = σ29 at hok28 hI30 hF31 ⊢
          have t32 : σ29 a 42 = (q21 : Int) + 1 := by rw [← eσ29, sv_up_a (sv_ne k_a kq27 (by decide))]; exact t26
          have t33 : σ29 a 43 = (q27 : Int) + 1 := by rw [← eσ29, sv_up_a (sv_ne k_a kq27 (by decide))]; exact eq27
          refine sv_go C.1 C.2.1 [(.aload_n 0, 1)] (pc' := 57) (by decide +kernel) rfl (lv' := [(0, sv_r a), (1, sv_i v1), (2, sv_i v2), (3, sv_i v3), (4, sv_i v4)]) (st' := [sv_r a]) rfl ?_
          obtain ⟨q34, eq34, kq34⟩ := hI30.ref (k := 44) k_a rfl
          refine sv_gf C (index := 157) (ci := 10) (k := 44) (r := (RX11, TX11, 47)) (v := sv_r q34) (by decide +kernel) (by rw [k_a]; rfl) rfl (by decide) fl_X11_157 (congrArg sv_a eq34) ?_
          refine sv_go C.1 C.2.1 [(.iload_n 1, 1), (.iload 4, 2)] (pc' := 63) (by decide +kernel) rfl (lv' := [(0, sv_r a), (1, sv_i v1), (2, sv_i v2), (3, sv_i v3), (4, sv_i v4)]) (st' := [sv_i v4, sv_i v1, sv_r q34]) rfl ?_
          refine sv_is C (n := 12) (by decide +kernel) (by rw [kq34]; rfl) (by decide) (by omega) (by omega) ⟨by omega, by omega⟩ (hTA _ (by rw [kq34]; decide)) hok28 (fun hok35 => ?_)
          have hI37 := hI30.up (a := q34) (k := (v1 : Int).toNat) (z := v4) (by rw [kq34]; exact trivial)
          have hF38 := hF31.up (a := q34) (k := (v1 : Int).toNat) (z := v4) (by rw [kq34]; decide)
          generalize eσ36 : sv_up σ29 q34 (v1 : Int).toNat v4 = σ36 at hok35 hI37 hF38 ⊢
          have t39 : σ36 a 42 = (q21 : Int) + 1 := by rw [← eσ36, sv_up_a (sv_ne k_a kq34 (by decide))]; exact t32
          have t40 : σ36 a 43 = (q27 : Int) + 1 := by rw [← eσ36, sv_up_a (sv_ne k_a kq34 (by decide))]; exact t33
          have t41 : σ36 a 44 = (q34 : Int) + 1 := by rw [← eσ36, sv_up_a (sv_ne k_a kq34 (by decide))]; exact eq34
          refine sv_go C.1 C.2.1 [(.aload_n 0, 1)] (pc' := 65) (by decide +kernel) rfl (lv' := [(0, sv_r a), (1, sv_i v1), (2, sv_i v2), (3, sv_i v3), (4, sv_i v4)]) (st' := [sv_r a]) rfl ?_
          obtain ⟨q42, eq42, kq42⟩ := hI37.ref (k := 45) k_a rfl
          refine sv_gf C (index := 160) (ci := 10) (k := 45) (r := (RX11, TX11, 47)) (v := sv_r q42) (by decide +kernel) (by rw [k_a]; rfl) rfl (by decide) fl_X11_160 (congrArg sv_a eq42) ?_
          refine sv_go C.1 C.2.1 [(.bipush 12, 2), (.iload_n 1, 1), (.imul, 1), (.iload_n 2, 1)] (pc' := 73) (by decide +kernel) rfl (lv' := [(0, sv_r a), (1, sv_i v1), (2, sv_i v2), (3, sv_i v3), (4, sv_i v4)]) (st' := [sv_i v2, sv_i (12 * v1), sv_r q42]) rfl ?_
          refine sv_is C (n := 144) (by decide +kernel) (by rw [kq42]; rfl) (by decide) (by omega) (by omega) ⟨by omega, by omega⟩ (hTA _ (by rw [kq42]; decide)) hok35 (fun hok43 => ?_)
          have hI45 := hI37.up (a := q42) (k := (12 * v1 : Int).toNat) (z := v2) (by rw [kq42]; exact trivial)
          have hF46 := hF38.up (a := q42) (k := (12 * v1 : Int).toNat) (z := v2) (by rw [kq42]; decide)
          generalize eσ44 : sv_up σ36 q42 (12 * v1 : Int).toNat v2 = σ44 at hok43 hI45 hF46 ⊢
          have t47 : σ44 a 42 = (q21 : Int) + 1 := by rw [← eσ44, sv_up_a (sv_ne k_a kq42 (by decide))]; exact t39
          have t48 : σ44 a 43 = (q27 : Int) + 1 := by rw [← eσ44, sv_up_a (sv_ne k_a kq42 (by decide))]; exact t40
          have t49 : σ44 a 44 = (q34 : Int) + 1 := by rw [← eσ44, sv_up_a (sv_ne k_a kq42 (by decide))]; exact t41
          have t50 : σ44 a 45 = (q42 : Int) + 1 := by rw [← eσ44, sv_up_a (sv_ne k_a kq42 (by decide))]; exact eq42
          refine sv_go C.1 C.2.1 [(.aload_n 0, 1)] (pc' := 75) (by decide +kernel) rfl (lv' := [(0, sv_r a), (1, sv_i v1), (2, sv_i v2), (3, sv_i v3), (4, sv_i v4)]) (st' := [sv_r a]) rfl ?_
          obtain ⟨q51, eq51, kq51⟩ := hI45.ref (k := 46) k_a rfl
          refine sv_gf C (index := 163) (ci := 10) (k := 46) (r := (RX11, TX11, 47)) (v := sv_r q51) (by decide +kernel) (by rw [k_a]; rfl) rfl (by decide) fl_X11_163 (congrArg sv_a eq51) ?_
          refine sv_go C.1 C.2.1 [(.bipush 12, 2), (.iload_n 1, 1), (.imul, 1), (.iconst 0, 1)] (pc' := 83) (by decide +kernel) rfl (lv' := [(0, sv_r a), (1, sv_i v1), (2, sv_i v2), (3, sv_i v3), (4, sv_i v4)]) (st' := [sv_i 0, sv_i (12 * v1), sv_r q51]) rfl ?_
          refine sv_is C (n := 144) (by decide +kernel) (by rw [kq51]; rfl) (by decide) (by omega) (by omega) ⟨by omega, by omega⟩ (hTA _ (by rw [kq51]; decide)) hok43 (fun hok52 => ?_)
          have hI54 := hI45.up (a := q51) (k := (12 * v1 : Int).toNat) (z := 0) (by rw [kq51]; exact trivial)
          have hF55 := hF46.up (a := q51) (k := (12 * v1 : Int).toNat) (z := 0) (by rw [kq51]; decide)
          generalize eσ53 : sv_up σ44 q51 (12 * v1 : Int).toNat 0 = σ53 at hok52 hI54 hF55 ⊢
          have t56 : σ53 a 42 = (q21 : Int) + 1 := by rw [← eσ53, sv_up_a (sv_ne k_a kq51 (by decide))]; exact t47
          have t57 : σ53 a 43 = (q27 : Int) + 1 := by rw [← eσ53, sv_up_a (sv_ne k_a kq51 (by decide))]; exact t48
          have t58 : σ53 a 44 = (q34 : Int) + 1 := by rw [← eσ53, sv_up_a (sv_ne k_a kq51 (by decide))]; exact t49
          have t59 : σ53 a 45 = (q42 : Int) + 1 := by rw [← eσ53, sv_up_a (sv_ne k_a kq51 (by decide))]; exact t50
          have t60 : σ53 a 46 = (q51 : Int) + 1 := by rw [← eσ53, sv_up_a (sv_ne k_a kq51 (by decide))]; exact eq51
          refine sv_go C.1 C.2.1 [(.iconst 1, 1)] (pc' := 85) (by decide +kernel) rfl (lv' := [(0, sv_r a), (1, sv_i v1), (2, sv_i v2), (3, sv_i v3), (4, sv_i v4)]) (st' := [sv_i 1]) rfl ?_
          exact sv_iret C hr (by decide +kernel) hok52 (⟨congrArg (fun q => [sv_i q]) (by first | omega | (unfold fx_begin; omega)), hF55⟩)
        · refine sv_same (st2 := [sv_i 0]) (lv2 := [(0, sv_r a), (1, sv_i v1), (2, sv_i v2), (3, sv_i v3), (4, sv_i v4)]) rfl rfl ?_
          refine sv_if_f C.1 C.2.1 (cnd := .ne) (off := 6) (tgt := 42) (by decide +kernel) (by decide) ⟨by omega, by omega⟩ (show ¬ (0 ≠ 0) by omega) ?_
          refine sv_go C.1 C.2.1 [(.bipush (-2), 2)] (pc' := 41) (by decide +kernel) rfl (lv' := [(0, sv_r a), (1, sv_i v1), (2, sv_i v2), (3, sv_i v3), (4, sv_i v4)]) (st' := [sv_i ((-2))]) rfl ?_
          exact sv_iret C hr (by decide +kernel) hok19 (⟨congrArg (fun q => [sv_i q]) (by first | omega | (unfold fx_begin; omega)), hF⟩)
      · refine sv_same (st2 := [sv_i 0]) (lv2 := [(0, sv_r a), (1, sv_i v1), (2, sv_i v2), (3, sv_i v3), (4, sv_i v4)]) rfl rfl ?_
        refine sv_if_t C.1 C.2.1 (cnd := .eq) (off := 16) (tgt := 39) (by decide +kernel) (by decide) ⟨by omega, by omega⟩ (show 0 = 0 by omega) ?_
        refine sv_go C.1 C.2.1 [(.bipush (-2), 2)] (pc' := 41) (by decide +kernel) rfl (lv' := [(0, sv_r a), (1, sv_i v1), (2, sv_i v2), (3, sv_i v3), (4, sv_i v4)]) (st' := [sv_i ((-2))]) rfl ?_
        exact sv_iret C hr (by decide +kernel) hok14 (⟨congrArg (fun q => [sv_i q]) (by first | omega | (unfold fx_begin; omega)), hF⟩)
    · refine sv_same (st2 := [sv_i 0]) (lv2 := [(0, sv_r a), (1, sv_i v1), (2, sv_i v2), (3, sv_i v3), (4, sv_i v4)]) rfl rfl ?_
      refine sv_if_t C.1 C.2.1 (cnd := .eq) (off := 28) (tgt := 39) (by decide +kernel) (by decide) ⟨by omega, by omega⟩ (show 0 = 0 by omega) ?_
      refine sv_go C.1 C.2.1 [(.bipush (-2), 2)] (pc' := 41) (by decide +kernel) rfl (lv' := [(0, sv_r a), (1, sv_i v1), (2, sv_i v2), (3, sv_i v3), (4, sv_i v4)]) (st' := [sv_i ((-2))]) rfl ?_
      exact sv_iret C hr (by decide +kernel) hok9 (⟨congrArg (fun q => [sv_i q]) (by first | omega | (unfold fx_begin; omega)), hF⟩)
  · refine sv_same (st2 := [sv_i 0]) (lv2 := [(0, sv_r a), (1, sv_i v1), (2, sv_i v2), (3, sv_i v3), (4, sv_i v4)]) rfl rfl ?_
    refine sv_if_t C.1 C.2.1 (cnd := .eq) (off := 35) (tgt := 39) (by decide +kernel) (by decide) ⟨by omega, by omega⟩ (show 0 = 0 by omega) ?_
    refine sv_go C.1 C.2.1 [(.bipush (-2), 2)] (pc' := 41) (by decide +kernel) rfl (lv' := [(0, sv_r a), (1, sv_i v1), (2, sv_i v2), (3, sv_i v3), (4, sv_i v4)]) (st' := [sv_i ((-2))]) rfl ?_
    exact sv_iret C hr (by decide +kernel) hok4 (⟨congrArg (fun q => [sv_i q]) (by first | omega | (unfold fx_begin; omega)), hF⟩)

set_option maxHeartbeats 4000000 in
set_option maxRecDepth 100000 in
theorem ct_X11_goes (l : Launch) (g : sv_G) (A : Nat → Prop) (ty : Nat → Nat) (σ : Nat → Nat → Int) (hok : sv_ok ty σ) (hTA : ∀ q, ty q ≠ 0 → A q) (hI : sv_inv sp_1 ty σ) (hZ : sv_inv sp_0 ty σ) (a : Nat) (k_a : ty a = 10) (v1 : Int) (hv1 : sv_in v1) (v2 : Int) (hv2 : sv_in v2) : sv_M l yX11_goes cX11_goes 5 (some .int) { frames := 2, cells := 0, slots := 0, locals := 45 } g A ty σ [sv_r a, sv_i v1, sv_i v2] (fun r σ' => r = [sv_i (-2)] ∧ sv_off [] ty σ σ') := by
  refine sv_enter (by decide) (Nat.le_of_ble_eq_true rfl) ?_
  intro p e s m args below meth c C hr
  have C : sv_C g A RX11 cX11_goes 5 p s m args meth c := C
  have hr : meth.sig.returnType = (some .int) := hr
  have hF : sv_off [] ty σ σ := sv_off.rf
  refine sv_same (st2 := []) (lv2 := [(0, sv_r a), (1, sv_i v1), (2, sv_i v2)]) rfl rfl ?_
  refine sv_go C.1 C.2.1 [(.iload_n 1, 1)] (pc' := 1) (by decide +kernel) rfl (lv' := [(0, sv_r a), (1, sv_i v1), (2, sv_i v2)]) (st' := [sv_i v1]) rfl ?_
  refine sv_cs C (index := 345) (k := 1) (rest := []) (by decide +kernel) (ct_X11_isWalk l g A ty σ hok (v1) ⟨by omega, by omega⟩) ⟨co_X11_isWalk, in_X11, ⟨by decide, by decide, by decide +kernel⟩, Nat.le_of_ble_eq_true rfl, Nat.le_of_ble_eq_true rfl⟩ ml_X11_345 st_X11_isWalk rfl rfl (Nat.le_of_ble_eq_true rfl) ⟨Nat.zero_le _, Nat.zero_le _⟩ (fun r2 σ3 hpo1 hok4 => ?_)
  obtain ⟨rfl, ⟨h5, rfl⟩ | ⟨h5, rfl⟩⟩ := hpo1
  · refine sv_same (st2 := [sv_i 1]) (lv2 := [(0, sv_r a), (1, sv_i v1), (2, sv_i v2)]) rfl rfl ?_
    refine sv_if_f C.1 C.2.1 (cnd := .eq) (off := 19) (tgt := 23) (by decide +kernel) (by decide) ⟨by omega, by omega⟩ (show ¬ (1 = 0) by omega) ?_
    refine sv_go C.1 C.2.1 [(.aload_n 0, 1)] (pc' := 8) (by decide +kernel) rfl (lv' := [(0, sv_r a), (1, sv_i v1), (2, sv_i v2)]) (st' := [sv_r a]) rfl ?_
    obtain ⟨q6, eq6, kq6⟩ := hI.ref (k := 42) k_a rfl
    refine sv_gf C (index := 151) (ci := 10) (k := 42) (r := (RX11, TX11, 47)) (v := sv_r q6) (by decide +kernel) (by rw [k_a]; rfl) rfl (by decide) fl_X11_151 (congrArg sv_a eq6) ?_
    refine sv_go C.1 C.2.1 [(.iload_n 1, 1)] (pc' := 12) (by decide +kernel) rfl (lv' := [(0, sv_r a), (1, sv_i v1), (2, sv_i v2)]) (st' := [sv_i v1, sv_r q6]) rfl ?_
    refine sv_ia C (n := 12) (by decide +kernel) (by rw [kq6]; rfl) (by decide) (by omega) (by omega) ?_
    have w7 : σ q6 v1.toNat = 0 := by have q := hZ.num (k := (v1 : Int).toNat) kq6 rfl; omega
    rw [w7]
    refine sv_if_t C.1 C.2.1 (cnd := .eq) (off := 10) (tgt := 23) (by decide +kernel) (by decide) ⟨by omega, by omega⟩ (show 0 = 0 by omega) ?_
    refine sv_go C.1 C.2.1 [(.bipush (-2), 2)] (pc' := 25) (by decide +kernel) rfl (lv' := [(0, sv_r a), (1, sv_i v1), (2, sv_i v2)]) (st' := [sv_i ((-2))]) rfl ?_
    exact sv_iret C hr (by decide +kernel) hok4 (⟨congrArg (fun q => [sv_i q]) (by first | omega | (unfold x; omega)), hF⟩)
  · refine sv_same (st2 := [sv_i 0]) (lv2 := [(0, sv_r a), (1, sv_i v1), (2, sv_i v2)]) rfl rfl ?_
    refine sv_if_t C.1 C.2.1 (cnd := .eq) (off := 19) (tgt := 23) (by decide +kernel) (by decide) ⟨by omega, by omega⟩ (show 0 = 0 by omega) ?_
    refine sv_go C.1 C.2.1 [(.bipush (-2), 2)] (pc' := 25) (by decide +kernel) rfl (lv' := [(0, sv_r a), (1, sv_i v1), (2, sv_i v2)]) (st' := [sv_i ((-2))]) rfl ?_
    exact sv_iret C hr (by decide +kernel) hok4 (⟨congrArg (fun q => [sv_i q]) (by first | omega | (unfold x; omega)), hF⟩)

set_option maxHeartbeats 4000000 in
set_option maxRecDepth 100000 in
theorem ct_X11_late (l : Launch) (g : sv_G) (A : Nat → Prop) (ty : Nat → Nat) (σ : Nat → Nat → Int) (hok : sv_ok ty σ) (hTA : ∀ q, ty q ≠ 0 → A q) (hI : sv_inv sp_1 ty σ) (hZ : sv_inv sp_0 ty σ) (a : Nat) (k_a : ty a = 10) (v1 : Int) (hv1 : sv_in v1) (v2 : Int) (hv2 : sv_in v2) : sv_M l yX11_late cX11_late 3 (some .int) { frames := 2, cells := 0, slots := 0, locals := 45 } g A ty σ [sv_r a, sv_i v1, sv_i v2] (fun r σ' => r = [sv_i (-2)] ∧ sv_off [] ty σ σ') := by
  refine sv_enter (by decide) (Nat.le_of_ble_eq_true rfl) ?_
  intro p e s m args below meth c C hr
  have C : sv_C g A RX11 cX11_late 3 p s m args meth c := C
  have hr : meth.sig.returnType = (some .int) := hr
  have hF : sv_off [] ty σ σ := sv_off.rf
  refine sv_same (st2 := []) (lv2 := [(0, sv_r a), (1, sv_i v1), (2, sv_i v2)]) rfl rfl ?_
  refine sv_go C.1 C.2.1 [(.iload_n 1, 1)] (pc' := 1) (by decide +kernel) rfl (lv' := [(0, sv_r a), (1, sv_i v1), (2, sv_i v2)]) (st' := [sv_i v1]) rfl ?_
  refine sv_cs C (index := 345) (k := 1) (rest := []) (by decide +kernel) (ct_X11_isWalk l g A ty σ hok (v1) ⟨by omega, by omega⟩) ⟨co_X11_isWalk, in_X11, ⟨by decide, by decide, by decide +kernel⟩, Nat.le_of_ble_eq_true rfl, Nat.le_of_ble_eq_true rfl⟩ ml_X11_345 st_X11_isWalk rfl rfl (Nat.le_of_ble_eq_true rfl) ⟨Nat.zero_le _, Nat.zero_le _⟩ (fun r2 σ3 hpo1 hok4 => ?_)
  obtain ⟨rfl, ⟨h5, rfl⟩ | ⟨h5, rfl⟩⟩ := hpo1
  · refine sv_same (st2 := [sv_i 1]) (lv2 := [(0, sv_r a), (1, sv_i v1), (2, sv_i v2)]) rfl rfl ?_
    refine sv_if_f C.1 C.2.1 (cnd := .eq) (off := 38) (tgt := 42) (by decide +kernel) (by decide) ⟨by omega, by omega⟩ (show ¬ (1 = 0) by omega) ?_
    refine sv_go C.1 C.2.1 [(.aload_n 0, 1)] (pc' := 8) (by decide +kernel) rfl (lv' := [(0, sv_r a), (1, sv_i v1), (2, sv_i v2)]) (st' := [sv_r a]) rfl ?_
    obtain ⟨q6, eq6, kq6⟩ := hI.ref (k := 42) k_a rfl
    refine sv_gf C (index := 151) (ci := 10) (k := 42) (r := (RX11, TX11, 47)) (v := sv_r q6) (by decide +kernel) (by rw [k_a]; rfl) rfl (by decide) fl_X11_151 (congrArg sv_a eq6) ?_
    refine sv_go C.1 C.2.1 [(.iload_n 1, 1)] (pc' := 12) (by decide +kernel) rfl (lv' := [(0, sv_r a), (1, sv_i v1), (2, sv_i v2)]) (st' := [sv_i v1, sv_r q6]) rfl ?_
    refine sv_ia C (n := 12) (by decide +kernel) (by rw [kq6]; rfl) (by decide) (by omega) (by omega) ?_
    have w7 : σ q6 v1.toNat = 0 := by have q := hZ.num (k := (v1 : Int).toNat) kq6 rfl; omega
    rw [w7]
    refine sv_if_t C.1 C.2.1 (cnd := .eq) (off := 29) (tgt := 42) (by decide +kernel) (by decide) ⟨by omega, by omega⟩ (show 0 = 0 by omega) ?_
    refine sv_go C.1 C.2.1 [(.bipush (-2), 2)] (pc' := 44) (by decide +kernel) rfl (lv' := [(0, sv_r a), (1, sv_i v1), (2, sv_i v2)]) (st' := [sv_i ((-2))]) rfl ?_
    exact sv_iret C hr (by decide +kernel) hok4 (⟨congrArg (fun q => [sv_i q]) (by first | omega | (unfold x; omega)), hF⟩)
  · refine sv_same (st2 := [sv_i 0]) (lv2 := [(0, sv_r a), (1, sv_i v1), (2, sv_i v2)]) rfl rfl ?_
    refine sv_if_t C.1 C.2.1 (cnd := .eq) (off := 38) (tgt := 42) (by decide +kernel) (by decide) ⟨by omega, by omega⟩ (show 0 = 0 by omega) ?_
    refine sv_go C.1 C.2.1 [(.bipush (-2), 2)] (pc' := 44) (by decide +kernel) rfl (lv' := [(0, sv_r a), (1, sv_i v1), (2, sv_i v2)]) (st' := [sv_i ((-2))]) rfl ?_
    exact sv_iret C hr (by decide +kernel) hok4 (⟨congrArg (fun q => [sv_i q]) (by first | omega | (unfold x; omega)), hF⟩)

set_option maxHeartbeats 4000000 in
set_option maxRecDepth 100000 in
theorem ct_X11_procession (l : Launch) (g : sv_G) (A : Nat → Prop) (ty : Nat → Nat) (σ : Nat → Nat → Int) (hok : sv_ok ty σ) (hTA : ∀ q, ty q ≠ 0 → A q) (hI : sv_inv sp_1 ty σ) (hZ : sv_inv sp_0 ty σ) (a : Nat) (k_a : ty a = 10) (v1 : Int) (hv1 : sv_in v1) (v2 : Int) (hv2 : sv_in v2) : sv_M l yX11_procession cX11_procession 3 (some .int) { frames := 2, cells := 0, slots := 0, locals := 45 } g A ty σ [sv_r a, sv_i v1, sv_i v2] (fun r σ' => r = [sv_i (-1)] ∧ sv_off [] ty σ σ') := by
  refine sv_enter (by decide) (Nat.le_of_ble_eq_true rfl) ?_
  intro p e s m args below meth c C hr
  have C : sv_C g A RX11 cX11_procession 3 p s m args meth c := C
  have hr : meth.sig.returnType = (some .int) := hr
  have hF : sv_off [] ty σ σ := sv_off.rf
  refine sv_same (st2 := []) (lv2 := [(0, sv_r a), (1, sv_i v1), (2, sv_i v2)]) rfl rfl ?_
  refine sv_go C.1 C.2.1 [(.iload_n 1, 1)] (pc' := 1) (by decide +kernel) rfl (lv' := [(0, sv_r a), (1, sv_i v1), (2, sv_i v2)]) (st' := [sv_i v1]) rfl ?_
  refine sv_cs C (index := 345) (k := 1) (rest := []) (by decide +kernel) (ct_X11_isWalk l g A ty σ hok (v1) ⟨by omega, by omega⟩) ⟨co_X11_isWalk, in_X11, ⟨by decide, by decide, by decide +kernel⟩, Nat.le_of_ble_eq_true rfl, Nat.le_of_ble_eq_true rfl⟩ ml_X11_345 st_X11_isWalk rfl rfl (Nat.le_of_ble_eq_true rfl) ⟨Nat.zero_le _, Nat.zero_le _⟩ (fun r2 σ3 hpo1 hok4 => ?_)
  obtain ⟨rfl, ⟨h5, rfl⟩ | ⟨h5, rfl⟩⟩ := hpo1
  · refine sv_same (st2 := [sv_i 1]) (lv2 := [(0, sv_r a), (1, sv_i v1), (2, sv_i v2)]) rfl rfl ?_
    refine sv_if_f C.1 C.2.1 (cnd := .eq) (off := 12) (tgt := 16) (by decide +kernel) (by decide) ⟨by omega, by omega⟩ (show ¬ (1 = 0) by omega) ?_
    refine sv_go C.1 C.2.1 [(.aload_n 0, 1)] (pc' := 8) (by decide +kernel) rfl (lv' := [(0, sv_r a), (1, sv_i v1), (2, sv_i v2)]) (st' := [sv_r a]) rfl ?_
    obtain ⟨q6, eq6, kq6⟩ := hI.ref (k := 42) k_a rfl
    refine sv_gf C (index := 151) (ci := 10) (k := 42) (r := (RX11, TX11, 47)) (v := sv_r q6) (by decide +kernel) (by rw [k_a]; rfl) rfl (by decide) fl_X11_151 (congrArg sv_a eq6) ?_
    refine sv_go C.1 C.2.1 [(.iload_n 1, 1)] (pc' := 12) (by decide +kernel) rfl (lv' := [(0, sv_r a), (1, sv_i v1), (2, sv_i v2)]) (st' := [sv_i v1, sv_r q6]) rfl ?_
    refine sv_ia C (n := 12) (by decide +kernel) (by rw [kq6]; rfl) (by decide) (by omega) (by omega) ?_
    have w7 : σ q6 v1.toNat = 0 := by have q := hZ.num (k := (v1 : Int).toNat) kq6 rfl; omega
    rw [w7]
    refine sv_if_f C.1 C.2.1 (cnd := .ne) (off := 5) (tgt := 18) (by decide +kernel) (by decide) ⟨by omega, by omega⟩ (show ¬ (0 ≠ 0) by omega) ?_
    refine sv_go C.1 C.2.1 [(.iconst (-1), 1)] (pc' := 17) (by decide +kernel) rfl (lv' := [(0, sv_r a), (1, sv_i v1), (2, sv_i v2)]) (st' := [sv_i ((-1))]) rfl ?_
    exact sv_iret C hr (by decide +kernel) hok4 (⟨congrArg (fun q => [sv_i q]) (by first | omega | (unfold x; omega)), hF⟩)
  · refine sv_same (st2 := [sv_i 0]) (lv2 := [(0, sv_r a), (1, sv_i v1), (2, sv_i v2)]) rfl rfl ?_
    refine sv_if_t C.1 C.2.1 (cnd := .eq) (off := 12) (tgt := 16) (by decide +kernel) (by decide) ⟨by omega, by omega⟩ (show 0 = 0 by omega) ?_
    refine sv_go C.1 C.2.1 [(.iconst (-1), 1)] (pc' := 17) (by decide +kernel) rfl (lv' := [(0, sv_r a), (1, sv_i v1), (2, sv_i v2)]) (st' := [sv_i ((-1))]) rfl ?_
    exact sv_iret C hr (by decide +kernel) hok4 (⟨congrArg (fun q => [sv_i q]) (by first | omega | (unfold x; omega)), hF⟩)

set_option maxHeartbeats 4000000 in
set_option maxRecDepth 100000 in
theorem ct_X11_isGoing (l : Launch) (g : sv_G) (A : Nat → Prop) (ty : Nat → Nat) (σ : Nat → Nat → Int) (hok : sv_ok ty σ) (hI : sv_inv sp_1 ty σ) (hZ : sv_inv sp_0 ty σ) (a : Nat) (k_a : ty a = 10) (v1 : Int) (hv1 : sv_in v1) : sv_M l yX11_isGoing cX11_isGoing 2 (some .boolean) { frames := 2, cells := 0, slots := 0, locals := 45 } g A ty σ [sv_r a, sv_i v1] (fun r σ' => σ = σ' ∧ sv_bo (False) r) := by
  refine sv_enter (by decide) (Nat.le_of_ble_eq_true rfl) ?_
  intro p e s m args below meth c C hr
  have C : sv_C g A RX11 cX11_isGoing 2 p s m args meth c := C
  have hr : meth.sig.returnType = (some .boolean) := hr
  refine sv_same (st2 := []) (lv2 := [(0, sv_r a), (1, sv_i v1)]) rfl rfl ?_
  refine sv_go C.1 C.2.1 [(.iload_n 1, 1)] (pc' := 1) (by decide +kernel) rfl (lv' := [(0, sv_r a), (1, sv_i v1)]) (st' := [sv_i v1]) rfl ?_
  refine sv_cs C (index := 345) (k := 1) (rest := []) (by decide +kernel) (ct_X11_isWalk l g A ty σ hok (v1) ⟨by omega, by omega⟩) ⟨co_X11_isWalk, in_X11, ⟨by decide, by decide, by decide +kernel⟩, Nat.le_of_ble_eq_true rfl, Nat.le_of_ble_eq_true rfl⟩ ml_X11_345 st_X11_isWalk rfl rfl (Nat.le_of_ble_eq_true rfl) ⟨Nat.zero_le _, Nat.zero_le _⟩ (fun r2 σ3 hpo1 hok4 => ?_)
  obtain ⟨rfl, ⟨h5, rfl⟩ | ⟨h5, rfl⟩⟩ := hpo1
  · refine sv_same (st2 := [sv_i 1]) (lv2 := [(0, sv_r a), (1, sv_i v1)]) rfl rfl ?_
    refine sv_if_f C.1 C.2.1 (cnd := .eq) (off := 17) (tgt := 21) (by decide +kernel) (by decide) ⟨by omega, by omega⟩ (show ¬ (1 = 0) by omega) ?_
    refine sv_go C.1 C.2.1 [(.aload_n 0, 1)] (pc' := 8) (by decide +kernel) rfl (lv' := [(0, sv_r a), (1, sv_i v1)]) (st' := [sv_r a]) rfl ?_
    obtain ⟨q6, eq6, kq6⟩ := hI.ref (k := 42) k_a rfl
    refine sv_gf C (index := 151) (ci := 10) (k := 42) (r := (RX11, TX11, 47)) (v := sv_r q6) (by decide +kernel) (by rw [k_a]; rfl) rfl (by decide) fl_X11_151 (congrArg sv_a eq6) ?_
    refine sv_go C.1 C.2.1 [(.iload_n 1, 1)] (pc' := 12) (by decide +kernel) rfl (lv' := [(0, sv_r a), (1, sv_i v1)]) (st' := [sv_i v1, sv_r q6]) rfl ?_
    refine sv_ia C (n := 12) (by decide +kernel) (by rw [kq6]; rfl) (by decide) (by omega) (by omega) ?_
    have w7 : σ q6 v1.toNat = 0 := by have q := hZ.num (k := (v1 : Int).toNat) kq6 rfl; omega
    rw [w7]
    refine sv_go C.1 C.2.1 [(.iconst 1, 1)] (pc' := 14) (by decide +kernel) rfl (lv' := [(0, sv_r a), (1, sv_i v1)]) (st' := [sv_i 1, sv_i 0]) rfl ?_
    refine sv_icmp_t C.1 C.2.1 (cnd := .le) (off := 7) (tgt := 21) (by decide +kernel) (by decide) ⟨by omega, by omega⟩ ⟨by omega, by omega⟩ (show 0 ≤ 1 by omega) ?_
    refine sv_go C.1 C.2.1 [(.iconst 0, 1)] (pc' := 22) (by decide +kernel) rfl (lv' := [(0, sv_r a), (1, sv_i v1)]) (st' := [sv_i 0]) rfl ?_
    exact sv_zret C hr (by first | exact Or.inl rfl | exact Or.inr rfl | omega) (by decide +kernel) hok4 (⟨rfl, Or.inr ⟨id, rfl⟩⟩)
  · refine sv_same (st2 := [sv_i 0]) (lv2 := [(0, sv_r a), (1, sv_i v1)]) rfl rfl ?_
    refine sv_if_t C.1 C.2.1 (cnd := .eq) (off := 17) (tgt := 21) (by decide +kernel) (by decide) ⟨by omega, by omega⟩ (show 0 = 0 by omega) ?_
    refine sv_go C.1 C.2.1 [(.iconst 0, 1)] (pc' := 22) (by decide +kernel) rfl (lv' := [(0, sv_r a), (1, sv_i v1)]) (st' := [sv_i 0]) rfl ?_
    exact sv_zret C hr (by first | exact Or.inl rfl | exact Or.inr rfl | omega) (by decide +kernel) hok4 (⟨rfl, Or.inr ⟨id, rfl⟩⟩)

theorem ml_X11_367 : Cond.methodLink RX11 367 yX11_isGoing ∈ lw_good := sv_mem 1486 (by decide +kernel) rfl
theorem co_X11_isGoing : Cond.code yX11_isGoing cX11_isGoing 2 (some .boolean) ∈ lw_good := sv_mem 1489 (by decide +kernel) rfl
theorem im_X11_isGoing : Cond.instanceMethod yX11_isGoing ∈ lw_good := sv_mem 1488 (by decide +kernel) rfl
theorem se_X11_isGoing : Cond.selects RX11 yX11_isGoing yX11_isGoing ∈ lw_good := sv_mem 69 (by decide +kernel) rfl
set_option maxHeartbeats 4000000 in
set_option maxRecDepth 100000 in
theorem ct_X11_meets (l : Launch) (g : sv_G) (A : Nat → Prop) (ty : Nat → Nat) (σ : Nat → Nat → Int) (hok : sv_ok ty σ) (hTA : ∀ q, ty q ≠ 0 → A q) (hI : sv_inv sp_1 ty σ) (hZ : sv_inv sp_0 ty σ) (a : Nat) (k_a : ty a = 10)  : sv_M l yX11_meets cX11_meets 3 (some .int) { frames := 3, cells := 0, slots := 0, locals := 66 } g A ty σ [sv_r a] (fun r σ' => r = [sv_i (-1)] ∧ sv_off [] ty σ σ') := by
  refine sv_enter (by decide) (Nat.le_of_ble_eq_true rfl) ?_
  intro p e s m args below meth c C hr
  have C : sv_C g A RX11 cX11_meets 3 p s m args meth c := C
  have hr : meth.sig.returnType = (some .int) := hr
  have hF : sv_off [] ty σ σ := sv_off.rf
  refine sv_same (st2 := []) (lv2 := [(0, sv_r a)]) rfl rfl ?_
  refine sv_go C.1 C.2.1 [(.iconst 0, 1), (.istore_n 1, 1)] (pc' := 2) (by decide +kernel) rfl (lv' := [(0, sv_r a), (1, sv_i 0)]) (st' := []) rfl ?_
  have L1 : ∀ (n : Nat) (X : Int) , (0 ≤ X ∧ X ≤ 12) → (12 - X) < (n : Int) → sv_E p l e { frames := 3, cells := 0, slots := 0, locals := 66 } s m args below meth c 3 g A ty (fun r σ' => r = [sv_i (-1)] ∧ sv_off [] ty σ σ') σ 2 [(0, sv_r a), (1, sv_i X)] [] := by
    intro n
    induction n with
    | zero => intro X  hX hmu; exact absurd hmu (by omega)
    | succ n ih2 =>
      intro X  hX hmu
      refine sv_go C.1 C.2.1 [(.iload_n 1, 1), (.bipush 12, 2)] (pc' := 5) (by decide +kernel) rfl (lv' := [(0, sv_r a), (1, sv_i X)]) (st' := [sv_i 12, sv_i X]) rfl ?_
      refine sv_icmp C.1 C.2.1 (cnd := .ge) (off := 60) (tgt := 65) (by decide +kernel) (by decide) ⟨by omega, by omega⟩ ⟨by omega, by omega⟩ (fun (h3 : 12 ≤ X) => ?_) (fun (h3 : ¬ (12 ≤ X)) => ?_)
      · refine sv_go C.1 C.2.1 [(.iconst (-1), 1)] (pc' := 66) (by decide +kernel) rfl (lv' := [(0, sv_r a), (1, sv_i X)]) (st' := [sv_i ((-1))]) rfl ?_
        exact sv_iret C hr (by decide +kernel) hok (⟨congrArg (fun q => [sv_i q]) (by first | omega | (unfold x; omega)), hF⟩)
      · refine sv_go C.1 C.2.1 [(.iload_n 1, 1), (.iconst 1, 1), (.iadd, 1), (.istore_n 2, 1)] (pc' := 12) (by decide +kernel) rfl (lv' := [(0, sv_r a), (1, sv_i X), (2, sv_i (X + 1))]) (st' := []) rfl ?_
        have L4 : ∀ (n : Nat) (Y : Int) , (0 ≤ Y ∧ Y ≤ 12) → (12 - Y) < (n : Int) → sv_E p l e { frames := 3, cells := 0, slots := 0, locals := 66 } s m args below meth c 3 g A ty (fun r σ' => r = [sv_i (-1)] ∧ sv_off [] ty σ σ') σ 12 [(0, sv_r a), (1, sv_i X), (2, sv_i Y)] [] := by
          intro n
          induction n with
          | zero => intro Y  hY hmu; exact absurd hmu (by omega)
          | succ n ih5 =>
            intro Y  hY hmu
            refine sv_go C.1 C.2.1 [(.iload_n 2, 1), (.bipush 12, 2)] (pc' := 15) (by decide +kernel) rfl (lv' := [(0, sv_r a), (1, sv_i X), (2, sv_i Y)]) (st' := [sv_i 12, sv_i Y]) rfl ?_
            refine sv_icmp C.1 C.2.1 (cnd := .ge) (off := 44) (tgt := 59) (by decide +kernel) (by decide) ⟨by omega, by omega⟩ ⟨by omega, by omega⟩ (fun (h6 : 12 ≤ Y) => ?_) (fun (h6 : ¬ (12 ≤ Y)) => ?_)
            · refine sv_go C.1 C.2.1 [(.iinc 1 1, 3)] (pc' := 62) (by decide +kernel) rfl (lv' := [(0, sv_r a), (1, sv_i (X + 1)), (2, sv_i Y)]) (st' := []) rfl ?_
              refine sv_goto C.1 C.2.1 (off := (-60)) (tgt := 2) (by decide +kernel) (by decide) ?_
              refine sv_pick [0, 1] (lv2 := [(0, sv_r a), (1, sv_i (X + 1))]) rfl ?_
              exact ih2 (X + 1)  (by omega) (by omega)
            · refine sv_go C.1 C.2.1 [(.aload_n 0, 1), (.iload_n 1, 1)] (pc' := 20) (by decide +kernel) rfl (lv' := [(0, sv_r a), (1, sv_i X), (2, sv_i Y)]) (st' := [sv_i X, sv_r a]) rfl ?_
              refine sv_cv C (index := 367) (k := 1) (rest := []) (ci := 10) (r := (RX11, TX11, 47)) (by decide +kernel) (ct_X11_isGoing l g A ty σ hok hI hZ a k_a (X) ⟨by omega, by omega⟩) ⟨co_X11_isGoing, in_X11, ⟨by decide, by decide, by decide +kernel⟩, Nat.le_of_ble_eq_true rfl, Nat.le_of_ble_eq_true rfl⟩ ml_X11_367 im_X11_isGoing se_X11_isGoing (by rw [k_a]; rfl) rfl rfl rfl (Nat.le_of_ble_eq_true rfl) ⟨Nat.zero_le _, Nat.zero_le _⟩ (fun r8 σ9 hpo7 hok10 => ?_)
              obtain ⟨rfl, hpo7⟩ := hpo7
              obtain rfl := sv_boF hpo7
              refine sv_same (st2 := [sv_i 0]) (lv2 := [(0, sv_r a), (1, sv_i X), (2, sv_i Y)]) rfl rfl ?_
              refine sv_if_t C.1 C.2.1 (cnd := .eq) (off := 30) (tgt := 53) (by decide +kernel) (by decide) ⟨by omega, by omega⟩ (show 0 = 0 by omega) ?_
              refine sv_go C.1 C.2.1 [(.iinc 2 1, 3)] (pc' := 56) (by decide +kernel) rfl (lv' := [(0, sv_r a), (1, sv_i X), (2, sv_i (Y + 1))]) (st' := []) rfl ?_
              refine sv_goto C.1 C.2.1 (off := (-44)) (tgt := 12) (by decide +kernel) (by decide) ?_
              exact ih5 (Y + 1)  (by omega) (by omega)
        exact L4 (((12 - (X + 1) : Int)).toNat + 1) (X + 1)  (by omega) (by omega)
  exact L1 (((12 - 0 : Int)).toNat + 1) 0  (by omega) (by omega)

set_option maxHeartbeats 4000000 in
set_option maxRecDepth 100000 in
theorem ct_X11_meeting (l : Launch) (g : sv_G) (A : Nat → Prop) (ty : Nat → Nat) (σ : Nat → Nat → Int) (hok : sv_ok ty σ) (hTA : ∀ q, ty q ≠ 0 → A q) (hI : sv_inv sp_1 ty σ) (hZ : sv_inv sp_0 ty σ) (a : Nat) (k_a : ty a = 10) (v1 : Int) (hv1 : sv_in v1) (v2 : Int) (hv2 : sv_in v2) : sv_M l yX11_meeting cX11_meeting 4 (some .int) { frames := 3, cells := 0, slots := 0, locals := 66 } g A ty σ [sv_r a, sv_i v1, sv_i v2] (fun r σ' => r = [sv_i (-2)] ∧ sv_off [] ty σ σ') := by
  refine sv_enter (by decide) (Nat.le_of_ble_eq_true rfl) ?_
  intro p e s m args below meth c C hr
  have C : sv_C g A RX11 cX11_meeting 4 p s m args meth c := C
  have hr : meth.sig.returnType = (some .int) := hr
  have hF : sv_off [] ty σ σ := sv_off.rf
  refine sv_same (st2 := []) (lv2 := [(0, sv_r a), (1, sv_i v1), (2, sv_i v2)]) rfl rfl ?_
  refine sv_go C.1 C.2.1 [(.aload_n 0, 1), (.iload_n 1, 1)] (pc' := 2) (by decide +kernel) rfl (lv' := [(0, sv_r a), (1, sv_i v1), (2, sv_i v2)]) (st' := [sv_i v1, sv_r a]) rfl ?_
  refine sv_cv C (index := 367) (k := 1) (rest := []) (ci := 10) (r := (RX11, TX11, 47)) (by decide +kernel) (ct_X11_isGoing l g A ty σ hok hI hZ a k_a (v1) ⟨by omega, by omega⟩) ⟨co_X11_isGoing, in_X11, ⟨by decide, by decide, by decide +kernel⟩, Nat.le_of_ble_eq_true rfl, Nat.le_of_ble_eq_true rfl⟩ ml_X11_367 im_X11_isGoing se_X11_isGoing (by rw [k_a]; rfl) rfl rfl rfl (Nat.le_of_ble_eq_true rfl) ⟨Nat.zero_le _, Nat.zero_le _⟩ (fun r2 σ3 hpo1 hok4 => ?_)
  obtain ⟨rfl, hpo1⟩ := hpo1
  obtain rfl := sv_boF hpo1
  refine sv_same (st2 := [sv_i 0]) (lv2 := [(0, sv_r a), (1, sv_i v1), (2, sv_i v2)]) rfl rfl ?_
  refine sv_if_t C.1 C.2.1 (cnd := .eq) (off := 16) (tgt := 21) (by decide +kernel) (by decide) ⟨by omega, by omega⟩ (show 0 = 0 by omega) ?_
  refine sv_go C.1 C.2.1 [(.bipush (-2), 2)] (pc' := 23) (by decide +kernel) rfl (lv' := [(0, sv_r a), (1, sv_i v1), (2, sv_i v2)]) (st' := [sv_i ((-2))]) rfl ?_
  exact sv_iret C hr (by decide +kernel) hok4 (⟨congrArg (fun q => [sv_i q]) (by first | omega | (unfold x; omega)), hF⟩)

set_option maxHeartbeats 4000000 in
set_option maxRecDepth 100000 in
theorem ct_X11_timed (l : Launch) (g : sv_G) (A : Nat → Prop) (ty : Nat → Nat) (σ : Nat → Nat → Int) (hok : sv_ok ty σ) (hTA : ∀ q, ty q ≠ 0 → A q) (hI : sv_inv sp_1 ty σ) (hZ : sv_inv sp_0 ty σ) (a : Nat) (k_a : ty a = 10) (v1 : Int) (hv1 : sv_in v1) (v2 : Int) (hv2 : sv_in v2) : sv_M l yX11_timed cX11_timed 8 (some .int) { frames := 3, cells := 0, slots := 0, locals := 66 } g A ty σ [sv_r a, sv_i v1, sv_i v2] (fun r σ' => r = [sv_i (-2)] ∧ sv_off [] ty σ σ') := by
  refine sv_enter (by decide) (Nat.le_of_ble_eq_true rfl) ?_
  intro p e s m args below meth c C hr
  have C : sv_C g A RX11 cX11_timed 8 p s m args meth c := C
  have hr : meth.sig.returnType = (some .int) := hr
  have hF : sv_off [] ty σ σ := sv_off.rf
  refine sv_same (st2 := []) (lv2 := [(0, sv_r a), (1, sv_i v1), (2, sv_i v2)]) rfl rfl ?_
  refine sv_go C.1 C.2.1 [(.aload_n 0, 1), (.iload_n 1, 1)] (pc' := 2) (by decide +kernel) rfl (lv' := [(0, sv_r a), (1, sv_i v1), (2, sv_i v2)]) (st' := [sv_i v1, sv_r a]) rfl ?_
  refine sv_cv C (index := 367) (k := 1) (rest := []) (ci := 10) (r := (RX11, TX11, 47)) (by decide +kernel) (ct_X11_isGoing l g A ty σ hok hI hZ a k_a (v1) ⟨by omega, by omega⟩) ⟨co_X11_isGoing, in_X11, ⟨by decide, by decide, by decide +kernel⟩, Nat.le_of_ble_eq_true rfl, Nat.le_of_ble_eq_true rfl⟩ ml_X11_367 im_X11_isGoing se_X11_isGoing (by rw [k_a]; rfl) rfl rfl rfl (Nat.le_of_ble_eq_true rfl) ⟨Nat.zero_le _, Nat.zero_le _⟩ (fun r2 σ3 hpo1 hok4 => ?_)
  obtain ⟨rfl, hpo1⟩ := hpo1
  obtain rfl := sv_boF hpo1
  refine sv_same (st2 := [sv_i 0]) (lv2 := [(0, sv_r a), (1, sv_i v1), (2, sv_i v2)]) rfl rfl ?_
  refine sv_if_t C.1 C.2.1 (cnd := .eq) (off := 15) (tgt := 20) (by decide +kernel) (by decide) ⟨by omega, by omega⟩ (show 0 = 0 by omega) ?_
  refine sv_go C.1 C.2.1 [(.bipush (-2), 2)] (pc' := 22) (by decide +kernel) rfl (lv' := [(0, sv_r a), (1, sv_i v1), (2, sv_i v2)]) (st' := [sv_i ((-2))]) rfl ?_
  exact sv_iret C hr (by decide +kernel) hok4 (⟨congrArg (fun q => [sv_i q]) (by first | omega | (unfold x; omega)), hF⟩)

theorem cl_X11_290 : Cond.constantLong RX11 290 (10) ∈ lw_good := sv_mem 1360 (by decide +kernel) rfl
theorem cl_X11_373 : Cond.constantLong RX11 373 (13) ∈ lw_good := sv_mem 1511 (by decide +kernel) rfl
set_option maxHeartbeats 4000000 in
set_option maxRecDepth 100000 in
theorem ct_X11_count (l : Launch) (g : sv_G) (A : Nat → Prop) (ty : Nat → Nat) (σ : Nat → Nat → Int) (hok : sv_ok ty σ) (hTA : ∀ q, ty q ≠ 0 → A q) (hI : sv_inv sp_1 ty σ) (hZ : sv_inv sp_0 ty σ) (a : Nat) (k_a : ty a = 10) (w1 : Int) (hw1 : sv_in w1) : sv_M l yX11_count cX11_count 5 (some .int) { frames := 1, cells := 0, slots := 0, locals := 25 } g A ty σ [sv_r a, sv_i w1] (fun r σ' => r = [sv_i (fx_count w1)] ∧ sv_off [] ty σ σ') := by
  refine sv_enter (by decide) (Nat.le_of_ble_eq_true rfl) ?_
  intro p e s m args below meth c C hr
  have C : sv_C g A RX11 cX11_count 5 p s m args meth c := C
  have hr : meth.sig.returnType = (some .int) := hr
  have hF : sv_off [] ty σ σ := sv_off.rf
  refine sv_same (st2 := []) (lv2 := [(0, sv_r a), (1, sv_i w1)]) rfl rfl ?_
  refine sv_go C.1 C.2.1 [(.iload_n 1, 1)] (pc' := 1) (by decide +kernel) rfl (lv' := [(0, sv_r a), (1, sv_i w1)]) (st' := [sv_i w1]) rfl ?_
  refine sv_i2l C.1 C.2.1 (by decide +kernel) ⟨by omega, by omega⟩ ?_
  refine sv_ldc2 C (index := 290) (z := 10) (by decide +kernel) cl_X11_290 (by decide) ?_
  refine sv_ldc2 C (index := 373) (z := 13) (by decide +kernel) cl_X11_373 (by decide) ?_
  refine sv_cs C (index := 9) (k := 3) (rest := []) (by decide +kernel) (ct_X11_in l g A ty σ hok (w1) ⟨by omega, by omega⟩ (10) ⟨by omega, by omega⟩ (13) ⟨by omega, by omega⟩) ⟨co_X11_in, in_X11, ⟨by decide, by decide, by decide +kernel⟩, Nat.le_of_ble_eq_true rfl, Nat.le_of_ble_eq_true rfl⟩ ml_X11_9 st_X11_in rfl rfl (Nat.le_of_ble_eq_true rfl) ⟨Nat.zero_le _, Nat.zero_le _⟩ (fun r2 σ3 hpo1 hok4 => ?_)
  obtain ⟨rfl, ⟨h5, rfl⟩ | ⟨h5, rfl⟩⟩ := hpo1
  · refine sv_same (st2 := [sv_i 1]) (lv2 := [(0, sv_r a), (1, sv_i w1)]) rfl rfl ?_
    refine sv_if_f C.1 C.2.1 (cnd := .eq) (off := 13) (tgt := 24) (by decide +kernel) (by decide) ⟨by omega, by omega⟩ (show ¬ (1 = 0) by omega) ?_
    refine sv_go C.1 C.2.1 [(.aload_n 0, 1)] (pc' := 15) (by decide +kernel) rfl (lv' := [(0, sv_r a), (1, sv_i w1)]) (st' := [sv_r a]) rfl ?_
    obtain ⟨q6, eq6, kq6⟩ := hI.ref (k := 0) k_a rfl
    refine sv_gf C (index := 47) (ci := 10) (k := 0) (r := (RX11, TX11, 47)) (v := sv_r q6) (by decide +kernel) (by rw [k_a]; rfl) rfl (by decide) fl_X11_47 (congrArg sv_a eq6) ?_
    refine sv_go C.1 C.2.1 [(.iload_n 1, 1), (.bipush 10, 2), (.isub, 1)] (pc' := 22) (by decide +kernel) rfl (lv' := [(0, sv_r a), (1, sv_i w1)]) (st' := [sv_i (w1 - 10), sv_r q6]) rfl ?_
    refine sv_ia C (n := 5) (by decide +kernel) (by rw [kq6]; rfl) (by decide) (by omega) (by omega) ?_
    have w7 : σ q6 (w1 - 10).toNat = 0 := by have q := hI.num (k := (w1 - 10 : Int).toNat) kq6 rfl; omega
    rw [w7]
    exact sv_iret C hr (by decide +kernel) hok4 (⟨congrArg (fun q => [sv_i q]) (by first | omega | (unfold fx_count; omega)), hF⟩)
  · refine sv_same (st2 := [sv_i 0]) (lv2 := [(0, sv_r a), (1, sv_i w1)]) rfl rfl ?_
    refine sv_if_t C.1 C.2.1 (cnd := .eq) (off := 13) (tgt := 24) (by decide +kernel) (by decide) ⟨by omega, by omega⟩ (show 0 = 0 by omega) ?_
    refine sv_go C.1 C.2.1 [(.iconst 0, 1), (.istore_n 2, 1), (.iload_n 1, 1)] (pc' := 27) (by decide +kernel) rfl (lv' := [(0, sv_r a), (1, sv_i w1), (2, sv_i 0)]) (st' := [sv_i w1]) rfl ?_
    rcases (show w1 = 0 ∨ w1 = 1 ∨ w1 = 2 ∨ w1 = 3 ∨ (w1 ≠ 0 ∧ w1 ≠ 1 ∧ w1 ≠ 2 ∧ w1 ≠ 3) by omega) with h8 | h8 | h8 | h8 | h8
    · refine sv_tsI C.1 C.2.1 (dflt := 175) (lo := 0) (hi := 3) (offs := #[29, 34, 88, 142]) (len := 29) (off := 29) (tgt := 56) (by decide +kernel) 0 h8 (by decide) rfl (by decide) ?_
      refine sv_go C.1 C.2.1 [(.aload_n 0, 1)] (pc' := 57) (by decide +kernel) rfl (lv' := [(0, sv_r a), (1, sv_i w1), (2, sv_i 0)]) (st' := [sv_r a]) rfl ?_
      have t9 : σ a 17 = 0 := by have q := hZ.num (k := 17) k_a rfl; omega
      refine sv_gf C (index := 269) (ci := 10) (k := 17) (r := (RX11, TX11, 47)) (v := sv_i 0) (by decide +kernel) (by rw [k_a]; rfl) rfl (by decide) fl_X11_269 (congrArg sv_i t9) ?_
      exact sv_iret C hr (by decide +kernel) hok4 (⟨congrArg (fun q => [sv_i q]) (by first | omega | (unfold fx_count; omega)), hF⟩)
    · refine sv_tsI C.1 C.2.1 (dflt := 175) (lo := 0) (hi := 3) (offs := #[29, 34, 88, 142]) (len := 29) (off := 34) (tgt := 61) (by decide +kernel) 1 h8 (by decide) rfl (by decide) ?_
      refine sv_go C.1 C.2.1 [(.iconst 0, 1), (.istore_n 3, 1)] (pc' := 63) (by decide +kernel) rfl (lv' := [(0, sv_r a), (1, sv_i w1), (2, sv_i 0), (3, sv_i 0)]) (st' := []) rfl ?_
      have L10 : ∀ (n : Nat) (N : Int) (X : Int) , (N = 0) → (0 ≤ X ∧ X ≤ 20) → (20 - X) < (n : Int) → sv_E p l e { frames := 1, cells := 0, slots := 0, locals := 25 } s m args below meth c 5 g A ty (fun r σ' => r = [sv_i (fx_count w1)] ∧ sv_off [] ty σ σ') σ 63 [(0, sv_r a), (1, sv_i w1), (2, sv_i N), (3, sv_i X)] [] := by
        intro n
        induction n with
        | zero => intro N X  hN hX hmu; exact absurd hmu (by omega)
        | succ n ih11 =>
          intro N X  hN hX hmu
          refine sv_go C.1 C.2.1 [(.iload_n 3, 1), (.bipush 20, 2)] (pc' := 66) (by decide +kernel) rfl (lv' := [(0, sv_r a), (1, sv_i w1), (2, sv_i N), (3, sv_i X)]) (st' := [sv_i 20, sv_i X]) rfl ?_
          refine sv_icmp C.1 C.2.1 (cnd := .ge) (off := 47) (tgt := 113) (by decide +kernel) (by decide) ⟨by omega, by omega⟩ ⟨by omega, by omega⟩ (fun (h12 : 20 ≤ X) => ?_) (fun (h12 : ¬ (20 ≤ X)) => ?_)
          · refine sv_go C.1 C.2.1 [(.iload_n 2, 1)] (pc' := 114) (by decide +kernel) rfl (lv' := [(0, sv_r a), (1, sv_i w1), (2, sv_i N), (3, sv_i X)]) (st' := [sv_i N]) rfl ?_
            exact sv_iret C hr (by decide +kernel) hok4 (⟨congrArg (fun q => [sv_i q]) (by first | omega | (unfold fx_count; omega)), hF⟩)
          · refine sv_go C.1 C.2.1 [(.iconst 0, 1), (.istore 4, 2)] (pc' := 72) (by decide +kernel) rfl (lv' := [(0, sv_r a), (1, sv_i w1), (2, sv_i N), (3, sv_i X), (4, sv_i 0)]) (st' := []) rfl ?_
            have L13 : ∀ (n : Nat) (N2 : Int) (Y : Int) , (N2 = 0) → (0 ≤ Y ∧ Y ≤ X) → (X - Y) < (n : Int) → sv_E p l e { frames := 1, cells := 0, slots := 0, locals := 25 } s m args below meth c 5 g A ty (fun r σ' => r = [sv_i (fx_count w1)] ∧ sv_off [] ty σ σ') σ 72 [(0, sv_r a), (1, sv_i w1), (2, sv_i N2), (3, sv_i X), (4, sv_i Y)] [] := by
              intro n
              induction n with
              | zero => intro N2 Y  hN2 hY hmu; exact absurd hmu (by omega)
              | succ n ih14 =>
                intro N2 Y  hN2 hY hmu
                refine sv_go C.1 C.2.1 [(.iload 4, 2), (.iload_n 3, 1)] (pc' := 75) (by decide +kernel) rfl (lv' := [(0, sv_r a), (1, sv_i w1), (2, sv_i N2), (3, sv_i X), (4, sv_i Y)]) (st' := [sv_i X, sv_i Y]) rfl ?_
                refine sv_icmp C.1 C.2.1 (cnd := .ge) (off := 32) (tgt := 107) (by decide +kernel) (by decide) ⟨by omega, by omega⟩ ⟨by omega, by omega⟩ (fun (h15 : X ≤ Y) => ?_) (fun (h15 : ¬ (X ≤ Y)) => ?_)
                · refine sv_go C.1 C.2.1 [(.iinc 3 1, 3)] (pc' := 110) (by decide +kernel) rfl (lv' := [(0, sv_r a), (1, sv_i w1), (2, sv_i N2), (3, sv_i (X + 1)), (4, sv_i Y)]) (st' := []) rfl ?_
                  refine sv_goto C.1 C.2.1 (off := (-47)) (tgt := 63) (by decide +kernel) (by decide) ?_
                  refine sv_pick [0, 1, 2, 3] (lv2 := [(0, sv_r a), (1, sv_i w1), (2, sv_i N2), (3, sv_i (X + 1))]) rfl ?_
                  exact ih11 N2 (X + 1)  (by omega) (by omega) (by omega)
                · refine sv_go C.1 C.2.1 [(.iload_n 2, 1), (.aload_n 0, 1)] (pc' := 80) (by decide +kernel) rfl (lv' := [(0, sv_r a), (1, sv_i w1), (2, sv_i N2), (3, sv_i X), (4, sv_i Y)]) (st' := [sv_r a, sv_i N2]) rfl ?_
                  obtain ⟨q16, eq16, kq16⟩ := hI.ref (k := 41) k_a rfl
                  refine sv_gf C (index := 148) (ci := 10) (k := 41) (r := (RX11, TX11, 47)) (v := sv_r q16) (by decide +kernel) (by rw [k_a]; rfl) rfl (by decide) fl_X11_148 (congrArg sv_a eq16) ?_
                  refine sv_go C.1 C.2.1 [(.bipush 20, 2), (.iload_n 3, 1), (.imul, 1), (.iload 4, 2), (.iadd, 1)] (pc' := 90) (by decide +kernel) rfl (lv' := [(0, sv_r a), (1, sv_i w1), (2, sv_i N2), (3, sv_i X), (4, sv_i Y)]) (st' := [sv_i ((20 * X) + Y), sv_r q16, sv_i N2]) rfl ?_
                  refine sv_ia C (n := 400) (by decide +kernel) (by rw [kq16]; rfl) (by decide) (by omega) (by omega) ?_
                  have w17 : σ q16 ((20 * X) + Y).toNat = 0 := by have q := hZ.num (k := ((20 * X) + Y : Int).toNat) kq16 rfl; omega
                  rw [w17]
                  refine sv_if_t C.1 C.2.1 (cnd := .le) (off := 7) (tgt := 98) (by decide +kernel) (by decide) ⟨by omega, by omega⟩ (show 0 ≤ 0 by omega) ?_
                  refine sv_go C.1 C.2.1 [(.iconst 0, 1), (.iadd, 1), (.istore_n 2, 1), (.iinc 4 1, 3)] (pc' := 104) (by decide +kernel) rfl (lv' := [(0, sv_r a), (1, sv_i w1), (2, sv_i (N2 + 0)), (3, sv_i X), (4, sv_i (Y + 1))]) (st' := []) rfl ?_
                  refine sv_goto C.1 C.2.1 (off := (-32)) (tgt := 72) (by decide +kernel) (by decide) ?_
                  exact ih14 (N2 + 0) (Y + 1)  (by omega) (by omega) (by omega)
            exact L13 (((X - 0 : Int)).toNat + 1) N 0  (by omega) (by omega) (by omega)
      exact L10 (((20 - 0 : Int)).toNat + 1) 0 0  (by omega) (by omega) (by omega)
    · refine sv_tsI C.1 C.2.1 (dflt := 175) (lo := 0) (hi := 3) (offs := #[29, 34, 88, 142]) (len := 29) (off := 88) (tgt := 115) (by decide +kernel) 2 h8 (by decide) rfl (by decide) ?_
      refine sv_go C.1 C.2.1 [(.iconst 0, 1), (.istore_n 3, 1)] (pc' := 117) (by decide +kernel) rfl (lv' := [(0, sv_r a), (1, sv_i w1), (2, sv_i 0), (3, sv_i 0)]) (st' := []) rfl ?_
      have L18 : ∀ (n : Nat) (N : Int) (X : Int) , (N = 0) → (0 ≤ X ∧ X ≤ 10) → (10 - X) < (n : Int) → sv_E p l e { frames := 1, cells := 0, slots := 0, locals := 25 } s m args below meth c 5 g A ty (fun r σ' => r = [sv_i (fx_count w1)] ∧ sv_off [] ty σ σ') σ 117 [(0, sv_r a), (1, sv_i w1), (2, sv_i N), (3, sv_i X)] [] := by
        intro n
        induction n with
        | zero => intro N X  hN hX hmu; exact absurd hmu (by omega)
        | succ n ih19 =>
          intro N X  hN hX hmu
          refine sv_go C.1 C.2.1 [(.iload_n 3, 1), (.bipush 10, 2)] (pc' := 120) (by decide +kernel) rfl (lv' := [(0, sv_r a), (1, sv_i w1), (2, sv_i N), (3, sv_i X)]) (st' := [sv_i 10, sv_i X]) rfl ?_
          refine sv_icmp C.1 C.2.1 (cnd := .ge) (off := 47) (tgt := 167) (by decide +kernel) (by decide) ⟨by omega, by omega⟩ ⟨by omega, by omega⟩ (fun (h20 : 10 ≤ X) => ?_) (fun (h20 : ¬ (10 ≤ X)) => ?_)
          · refine sv_go C.1 C.2.1 [(.iload_n 2, 1)] (pc' := 168) (by decide +kernel) rfl (lv' := [(0, sv_r a), (1, sv_i w1), (2, sv_i N), (3, sv_i X)]) (st' := [sv_i N]) rfl ?_
            exact sv_iret C hr (by decide +kernel) hok4 (⟨congrArg (fun q => [sv_i q]) (by first | omega | (unfold fx_count; omega)), hF⟩)
          · refine sv_go C.1 C.2.1 [(.iconst 0, 1), (.istore 4, 2)] (pc' := 126) (by decide +kernel) rfl (lv' := [(0, sv_r a), (1, sv_i w1), (2, sv_i N), (3, sv_i X), (4, sv_i 0)]) (st' := []) rfl ?_
            have L21 : ∀ (n : Nat) (N2 : Int) (Y : Int) , (N2 = 0) → (0 ≤ Y ∧ Y ≤ X) → (X - Y) < (n : Int) → sv_E p l e { frames := 1, cells := 0, slots := 0, locals := 25 } s m args below meth c 5 g A ty (fun r σ' => r = [sv_i (fx_count w1)] ∧ sv_off [] ty σ σ') σ 126 [(0, sv_r a), (1, sv_i w1), (2, sv_i N2), (3, sv_i X), (4, sv_i Y)] [] := by
              intro n
              induction n with
              | zero => intro N2 Y  hN2 hY hmu; exact absurd hmu (by omega)
              | succ n ih22 =>
                intro N2 Y  hN2 hY hmu
                refine sv_go C.1 C.2.1 [(.iload 4, 2), (.iload_n 3, 1)] (pc' := 129) (by decide +kernel) rfl (lv' := [(0, sv_r a), (1, sv_i w1), (2, sv_i N2), (3, sv_i X), (4, sv_i Y)]) (st' := [sv_i X, sv_i Y]) rfl ?_
                refine sv_icmp C.1 C.2.1 (cnd := .ge) (off := 32) (tgt := 161) (by decide +kernel) (by decide) ⟨by omega, by omega⟩ ⟨by omega, by omega⟩ (fun (h23 : X ≤ Y) => ?_) (fun (h23 : ¬ (X ≤ Y)) => ?_)
                · refine sv_go C.1 C.2.1 [(.iinc 3 1, 3)] (pc' := 164) (by decide +kernel) rfl (lv' := [(0, sv_r a), (1, sv_i w1), (2, sv_i N2), (3, sv_i (X + 1)), (4, sv_i Y)]) (st' := []) rfl ?_
                  refine sv_goto C.1 C.2.1 (off := (-47)) (tgt := 117) (by decide +kernel) (by decide) ?_
                  refine sv_pick [0, 1, 2, 3] (lv2 := [(0, sv_r a), (1, sv_i w1), (2, sv_i N2), (3, sv_i (X + 1))]) rfl ?_
                  exact ih19 N2 (X + 1)  (by omega) (by omega) (by omega)
                · refine sv_go C.1 C.2.1 [(.iload_n 2, 1), (.aload_n 0, 1)] (pc' := 134) (by decide +kernel) rfl (lv' := [(0, sv_r a), (1, sv_i w1), (2, sv_i N2), (3, sv_i X), (4, sv_i Y)]) (st' := [sv_r a, sv_i N2]) rfl ?_
                  obtain ⟨q24, eq24, kq24⟩ := hI.ref (k := 33) k_a rfl
                  refine sv_gf C (index := 127) (ci := 10) (k := 33) (r := (RX11, TX11, 47)) (v := sv_r q24) (by decide +kernel) (by rw [k_a]; rfl) rfl (by decide) fl_X11_127 (congrArg sv_a eq24) ?_
                  refine sv_go C.1 C.2.1 [(.bipush 10, 2), (.iload_n 3, 1), (.imul, 1), (.iload 4, 2), (.iadd, 1)] (pc' := 144) (by decide +kernel) rfl (lv' := [(0, sv_r a), (1, sv_i w1), (2, sv_i N2), (3, sv_i X), (4, sv_i Y)]) (st' := [sv_i ((10 * X) + Y), sv_r q24, sv_i N2]) rfl ?_
                  refine sv_za C (n := 100) (by decide +kernel) (by rw [kq24]; rfl) (by decide) (by omega) (by omega) ?_
                  have w25 : σ q24 ((10 * X) + Y).toNat = 0 := by have q := hZ.num (k := ((10 * X) + Y : Int).toNat) kq24 rfl; omega
                  rw [w25]
                  refine sv_if_t C.1 C.2.1 (cnd := .eq) (off := 7) (tgt := 152) (by decide +kernel) (by decide) ⟨by omega, by omega⟩ (show 0 = 0 by omega) ?_
                  refine sv_go C.1 C.2.1 [(.iconst 0, 1), (.iadd, 1), (.istore_n 2, 1), (.iinc 4 1, 3)] (pc' := 158) (by decide +kernel) rfl (lv' := [(0, sv_r a), (1, sv_i w1), (2, sv_i (N2 + 0)), (3, sv_i X), (4, sv_i (Y + 1))]) (st' := []) rfl ?_
                  refine sv_goto C.1 C.2.1 (off := (-32)) (tgt := 126) (by decide +kernel) (by decide) ?_
                  exact ih22 (N2 + 0) (Y + 1)  (by omega) (by omega) (by omega)
            exact L21 (((X - 0 : Int)).toNat + 1) N 0  (by omega) (by omega) (by omega)
      exact L18 (((10 - 0 : Int)).toNat + 1) 0 0  (by omega) (by omega) (by omega)
    · refine sv_tsI C.1 C.2.1 (dflt := 175) (lo := 0) (hi := 3) (offs := #[29, 34, 88, 142]) (len := 29) (off := 142) (tgt := 169) (by decide +kernel) 3 h8 (by decide) rfl (by decide) ?_
      refine sv_go C.1 C.2.1 [(.iconst 0, 1), (.istore_n 3, 1)] (pc' := 171) (by decide +kernel) rfl (lv' := [(0, sv_r a), (1, sv_i w1), (2, sv_i 0), (3, sv_i 0)]) (st' := []) rfl ?_
      have L26 : ∀ (n : Nat) (N : Int) (X : Int) , (N = 0) → (0 ≤ X ∧ X ≤ 12) → (12 - X) < (n : Int) → sv_E p l e { frames := 1, cells := 0, slots := 0, locals := 25 } s m args below meth c 5 g A ty (fun r σ' => r = [sv_i (fx_count w1)] ∧ sv_off [] ty σ σ') σ 171 [(0, sv_r a), (1, sv_i w1), (2, sv_i N), (3, sv_i X)] [] := by
        intro n
        induction n with
        | zero => intro N X  hN hX hmu; exact absurd hmu (by omega)
        | succ n ih27 =>
          intro N X  hN hX hmu
          refine sv_go C.1 C.2.1 [(.iload_n 3, 1), (.bipush 12, 2)] (pc' := 174) (by decide +kernel) rfl (lv' := [(0, sv_r a), (1, sv_i w1), (2, sv_i N), (3, sv_i X)]) (st' := [sv_i 12, sv_i X]) rfl ?_
          refine sv_icmp C.1 C.2.1 (cnd := .ge) (off := 26) (tgt := 200) (by decide +kernel) (by decide) ⟨by omega, by omega⟩ ⟨by omega, by omega⟩ (fun (h28 : 12 ≤ X) => ?_) (fun (h28 : ¬ (12 ≤ X)) => ?_)
          · refine sv_go C.1 C.2.1 [(.iload_n 2, 1)] (pc' := 201) (by decide +kernel) rfl (lv' := [(0, sv_r a), (1, sv_i w1), (2, sv_i N), (3, sv_i X)]) (st' := [sv_i N]) rfl ?_
            exact sv_iret C hr (by decide +kernel) hok4 (⟨congrArg (fun q => [sv_i q]) (by first | omega | (unfold fx_count; omega)), hF⟩)
          · refine sv_go C.1 C.2.1 [(.iload_n 2, 1), (.aload_n 0, 1)] (pc' := 179) (by decide +kernel) rfl (lv' := [(0, sv_r a), (1, sv_i w1), (2, sv_i N), (3, sv_i X)]) (st' := [sv_r a, sv_i N]) rfl ?_
            obtain ⟨q29, eq29, kq29⟩ := hI.ref (k := 42) k_a rfl
            refine sv_gf C (index := 151) (ci := 10) (k := 42) (r := (RX11, TX11, 47)) (v := sv_r q29) (by decide +kernel) (by rw [k_a]; rfl) rfl (by decide) fl_X11_151 (congrArg sv_a eq29) ?_
            refine sv_go C.1 C.2.1 [(.iload_n 3, 1)] (pc' := 183) (by decide +kernel) rfl (lv' := [(0, sv_r a), (1, sv_i w1), (2, sv_i N), (3, sv_i X)]) (st' := [sv_i X, sv_r q29, sv_i N]) rfl ?_
            refine sv_ia C (n := 12) (by decide +kernel) (by rw [kq29]; rfl) (by decide) (by omega) (by omega) ?_
            have w30 : σ q29 X.toNat = 0 := by have q := hZ.num (k := (X : Int).toNat) kq29 rfl; omega
            rw [w30]
            refine sv_if_t C.1 C.2.1 (cnd := .le) (off := 7) (tgt := 191) (by decide +kernel) (by decide) ⟨by omega, by omega⟩ (show 0 ≤ 0 by omega) ?_
            refine sv_go C.1 C.2.1 [(.iconst 0, 1), (.iadd, 1), (.istore_n 2, 1), (.iinc 3 1, 3)] (pc' := 197) (by decide +kernel) rfl (lv' := [(0, sv_r a), (1, sv_i w1), (2, sv_i (N + 0)), (3, sv_i (X + 1))]) (st' := []) rfl ?_
            refine sv_goto C.1 C.2.1 (off := (-26)) (tgt := 171) (by decide +kernel) (by decide) ?_
            exact ih27 (N + 0) (X + 1)  (by omega) (by omega) (by omega)
      exact L26 (((12 - 0 : Int)).toNat + 1) 0 0  (by omega) (by omega) (by omega)
    · refine sv_tsO C.1 C.2.1 (dflt := 175) (lo := 0) (hi := 3) (offs := #[29, 34, 88, 142]) (len := 29) (tgt := 202) (by decide +kernel) ⟨by omega, by omega⟩ (by omega) (by decide) ?_
      refine sv_go C.1 C.2.1 [(.iconst (-1), 1)] (pc' := 203) (by decide +kernel) rfl (lv' := [(0, sv_r a), (1, sv_i w1), (2, sv_i 0)]) (st' := [sv_i ((-1))]) rfl ?_
      exact sv_iret C hr (by decide +kernel) hok4 (⟨congrArg (fun q => [sv_i q]) (by first | omega | (unfold fx_count; omega)), hF⟩)

theorem fl_X11_121 : Cond.fieldLink RX11 121 "SaintsRoadModel" "office" "[I" ∈ lw_good := sv_mem 1135 (by decide +kernel) rfl
set_option maxHeartbeats 4000000 in
set_option maxRecDepth 100000 in
theorem ct_X11_lead (l : Launch) (g : sv_G) (A : Nat → Prop) (ty : Nat → Nat) (σ : Nat → Nat → Int) (hok : sv_ok ty σ) (hTA : ∀ q, ty q ≠ 0 → A q) (hI : sv_inv sp_1 ty σ) (a : Nat) (k_a : ty a = 10) (v1 : Int) (hv1 : 0 ≤ v1 ∧ v1 ≤ 3) (y : Int) (hy : 1 ≤ y ∧ y ≤ 2000) : sv_M l yX11_lead cX11_lead 8 none { frames := 2, cells := 0, slots := 0, locals := 42 } g A ty σ [sv_r a, sv_i v1, sv_i y] (fun r σ' => r = [] ∧ sv_inv sp_1 ty σ' ∧ sv_off [91] ty σ σ' ∧ md_of σ' a 31 y) := by
  refine sv_enter (by decide) (Nat.le_of_ble_eq_true rfl) ?_
  intro p e s m args below meth c C hr
  have C : sv_C g A RX11 cX11_lead 8 p s m args meth c := C
  have hr : meth.sig.returnType = none := hr
  have hF : sv_off [91] ty σ σ := sv_off.rf
  have hlp := dy_lp_in y
  refine sv_same (st2 := []) (lv2 := [(0, sv_r a), (1, sv_i v1), (2, sv_i y)]) rfl rfl ?_
  refine sv_go C.1 C.2.1 [(.iconst 0, 1), (.istore_n 3, 1), (.iload_n 3, 1), (.aload_n 0, 1)] (pc' := 4) (by decide +kernel) rfl (lv' := [(0, sv_r a), (1, sv_i v1), (2, sv_i y), (3, sv_i 0)]) (st' := [sv_r a, sv_i 0]) rfl ?_
  obtain ⟨q1, eq1, kq1⟩ := hI.ref (k := 0) k_a rfl
  refine sv_gf C (index := 47) (ci := 10) (k := 0) (r := (RX11, TX11, 47)) (v := sv_r q1) (by decide +kernel) (by rw [k_a]; rfl) rfl (by decide) fl_X11_47 (congrArg sv_a eq1) ?_
  refine sv_go C.1 C.2.1 [(.iload_n 1, 1)] (pc' := 8) (by decide +kernel) rfl (lv' := [(0, sv_r a), (1, sv_i v1), (2, sv_i y), (3, sv_i 0)]) (st' := [sv_i v1, sv_r q1, sv_i 0]) rfl ?_
  refine sv_ia C (n := 5) (by decide +kernel) (by rw [kq1]; rfl) (by decide) (by omega) (by omega) ?_
  have w2 : σ q1 v1.toNat = 0 := by have q := hI.num (k := (v1 : Int).toNat) kq1 rfl; omega
  rw [w2]
  refine sv_icmp_t C.1 C.2.1 (cnd := .ge) (off := 52) (tgt := 61) (by decide +kernel) (by decide) ⟨by omega, by omega⟩ ⟨by omega, by omega⟩ (show 0 ≤ 0 by omega) ?_
  refine sv_go C.1 C.2.1 [(.iconst (-1), 1), (.istore_n 3, 1), (.iconst 0, 1), (.istore 4, 2)] (pc' := 66) (by decide +kernel) rfl (lv' := [(0, sv_r a), (1, sv_i v1), (2, sv_i y), (3, sv_i ((-1))), (4, sv_i 0)]) (st' := []) rfl ?_
  obtain ⟨qo, eqo, kqo⟩ := hI.ref (k := 31) k_a rfl
  have L5 : ∀ (n : Nat) (X : Int) (σ3 : Nat → Nat → Int), (sv_ok ty σ3) → (sv_inv sp_1 ty σ3) → (sv_off [91] ty σ σ3) → (σ3 a 0 = (q1 : Int) + 1) → (σ3 a 31 = (qo : Int) + 1) → (0 ≤ X ∧ X ≤ 365 + dy_lp y) → (∀ i : Int, 0 ≤ i → i < X → σ3 qo i.toNat = fx_of y i) → (365 + dy_lp y - X) < (n : Int) → sv_E p l e { frames := 2, cells := 0, slots := 0, locals := 42 } s m args below meth c 8 g A ty (fun r σ' => r = [] ∧ sv_inv sp_1 ty σ' ∧ sv_off [91] ty σ σ' ∧ md_of σ' a 31 y) σ3 66 [(0, sv_r a), (1, sv_i v1), (2, sv_i y), (3, sv_i ((-1))), (4, sv_i X)] [] := by
    intro n
    induction n with
    | zero => intro X σ3 hokc4 hIc4 hFc4 kc4_0 kc4_1 hX hO hmu; exact absurd hmu (by omega)
    | succ n ih6 =>
      intro X σ3 hokc4 hIc4 hFc4 kc4_0 kc4_1 hX hO hmu
      refine sv_go C.1 C.2.1 [(.iload 4, 2), (.iload_n 2, 1)] (pc' := 69) (by decide +kernel) rfl (lv' := [(0, sv_r a), (1, sv_i v1), (2, sv_i y), (3, sv_i ((-1))), (4, sv_i X)]) (st' := [sv_i y, sv_i X]) rfl ?_
      refine sv_cs C (index := 16) (k := 1) (rest := [sv_i X]) (by decide +kernel) (ct_X11_daysOf l g A ty σ3 hokc4 (y) ⟨by omega, by omega⟩) ⟨co_X11_daysOf, in_X11, ⟨by decide, by decide, by decide +kernel⟩, Nat.le_of_ble_eq_true rfl, Nat.le_of_ble_eq_true rfl⟩ ml_X11_16 st_X11_daysOf rfl rfl (Nat.le_of_ble_eq_true rfl) ⟨Nat.zero_le _, Nat.zero_le _⟩ (fun r8 σ9 hpo7 hok10 => ?_)
      obtain ⟨rfl, rfl⟩ := hpo7
      have hn11 := dy_lp_in y
      refine sv_same (st2 := [sv_i (365 + dy_lp y), sv_i X]) (lv2 := [(0, sv_r a), (1, sv_i v1), (2, sv_i y), (3, sv_i ((-1))), (4, sv_i X)]) rfl rfl ?_
      refine sv_icmp C.1 C.2.1 (cnd := .ge) (off := 306) (tgt := 378) (by decide +kernel) (by decide) ⟨by omega, by omega⟩ ⟨by omega, by omega⟩ (fun (h12 : (365 + dy_lp y) ≤ X) => ?_) (fun (h12 : ¬ ((365 + dy_lp y) ≤ X)) => ?_)
      · exact sv_vret C hr (by decide +kernel) hok10 (⟨rfl, hIc4, hFc4, fun h hh i h1 h2 => by have hb : h = qo := (by have q := kc4_1; omega); rw [hb]; exact hO i h1 (by omega)⟩)
      · refine sv_go C.1 C.2.1 [(.iconst (-1), 1), (.istore 5, 2), (.iconst 0, 1), (.istore 6, 2), (.iload 6, 2), (.aload_n 0, 1)] (pc' := 84) (by decide +kernel) rfl (lv' := [(0, sv_r a), (1, sv_i v1), (2, sv_i y), (3, sv_i ((-1))), (4, sv_i X), (5, sv_i ((-1))), (6, sv_i 0)]) (st' := [sv_r a, sv_i 0]) rfl ?_
        refine sv_gf C (index := 47) (ci := 10) (k := 0) (r := (RX11, TX11, 47)) (v := sv_r q1) (by decide +kernel) (by rw [k_a]; rfl) rfl (by decide) fl_X11_47 (congrArg sv_a kc4_0) ?_
        refine sv_go C.1 C.2.1 [(.iload_n 1, 1)] (pc' := 88) (by decide +kernel) rfl (lv' := [(0, sv_r a), (1, sv_i v1), (2, sv_i y), (3, sv_i ((-1))), (4, sv_i X), (5, sv_i ((-1))), (6, sv_i 0)]) (st' := [sv_i v1, sv_r q1, sv_i 0]) rfl ?_
        refine sv_ia C (n := 5) (by decide +kernel) (by rw [kq1]; rfl) (by decide) (by omega) (by omega) ?_
        have w13 : σ3 q1 v1.toNat = 0 := by have q := hIc4.num (k := (v1 : Int).toNat) kq1 rfl; omega
        rw [w13]
        refine sv_icmp_t C.1 C.2.1 (cnd := .ge) (off := 56) (tgt := 145) (by decide +kernel) (by decide) ⟨by omega, by omega⟩ ⟨by omega, by omega⟩ (show 0 ≤ 0 by omega) ?_
        refine sv_go C.1 C.2.1 [(.iconst 0, 1), (.istore 6, 2), (.iload 6, 2), (.aload_n 0, 1)] (pc' := 151) (by decide +kernel) rfl (lv' := [(0, sv_r a), (1, sv_i v1), (2, sv_i y), (3, sv_i ((-1))), (4, sv_i X), (5, sv_i ((-1))), (6, sv_i 0)]) (st' := [sv_r a, sv_i 0]) rfl ?_
        refine sv_gf C (index := 47) (ci := 10) (k := 0) (r := (RX11, TX11, 47)) (v := sv_r q1) (by decide +kernel) (by rw [k_a]; rfl) rfl (by decide) fl_X11_47 (congrArg sv_a kc4_0) ?_
        refine sv_go C.1 C.2.1 [(.iload_n 1, 1)] (pc' := 155) (by decide +kernel) rfl (lv' := [(0, sv_r a), (1, sv_i v1), (2, sv_i y), (3, sv_i ((-1))), (4, sv_i X), (5, sv_i ((-1))), (6, sv_i 0)]) (st' := [sv_i v1, sv_r q1, sv_i 0]) rfl ?_
        refine sv_ia C (n := 5) (by decide +kernel) (by rw [kq1]; rfl) (by decide) (by omega) (by omega) ?_
        have w14 : σ3 q1 v1.toNat = 0 := by have q := hIc4.num (k := (v1 : Int).toNat) kq1 rfl; omega
        rw [w14]
        refine sv_icmp_t C.1 C.2.1 (cnd := .ge) (off := 106) (tgt := 262) (by decide +kernel) (by decide) ⟨by omega, by omega⟩ ⟨by omega, by omega⟩ (show 0 ≤ 0 by omega) ?_
        refine sv_go C.1 C.2.1 [(.iload 5, 2), (.iconst (-1), 1)] (pc' := 265) (by decide +kernel) rfl (lv' := [(0, sv_r a), (1, sv_i v1), (2, sv_i y), (3, sv_i ((-1))), (4, sv_i X), (5, sv_i ((-1))), (6, sv_i 0)]) (st' := [sv_i ((-1)), sv_i ((-1))]) rfl ?_
        refine sv_icmp_t C.1 C.2.1 (cnd := .eq) (off := 29) (tgt := 294) (by decide +kernel) (by decide) ⟨by omega, by omega⟩ ⟨by omega, by omega⟩ (show ((-1)) = ((-1)) by omega) ?_
        refine sv_go C.1 C.2.1 [(.iload 5, 2), (.iconst (-1), 1)] (pc' := 297) (by decide +kernel) rfl (lv' := [(0, sv_r a), (1, sv_i v1), (2, sv_i y), (3, sv_i ((-1))), (4, sv_i X), (5, sv_i ((-1))), (6, sv_i 0)]) (st' := [sv_i ((-1)), sv_i ((-1))]) rfl ?_
        refine sv_icmp_f C.1 C.2.1 (cnd := .ne) (off := 26) (tgt := 323) (by decide +kernel) (by decide) ⟨by omega, by omega⟩ ⟨by omega, by omega⟩ (show ¬ (((-1)) ≠ ((-1))) by omega) ?_
        refine sv_go C.1 C.2.1 [(.iload_n 3, 1), (.iconst (-1), 1)] (pc' := 302) (by decide +kernel) rfl (lv' := [(0, sv_r a), (1, sv_i v1), (2, sv_i y), (3, sv_i ((-1))), (4, sv_i X), (5, sv_i ((-1))), (6, sv_i 0)]) (st' := [sv_i ((-1)), sv_i ((-1))]) rfl ?_
        refine sv_icmp_t C.1 C.2.1 (cnd := .eq) (off := 21) (tgt := 323) (by decide +kernel) (by decide) ⟨by omega, by omega⟩ ⟨by omega, by omega⟩ (show ((-1)) = ((-1)) by omega) ?_
        refine sv_go C.1 C.2.1 [(.iconst 0, 1), (.istore 6, 2), (.aload_n 0, 1)] (pc' := 327) (by decide +kernel) rfl (lv' := [(0, sv_r a), (1, sv_i v1), (2, sv_i y), (3, sv_i ((-1))), (4, sv_i X), (5, sv_i ((-1))), (6, sv_i 0)]) (st' := [sv_r a]) rfl ?_
        refine sv_gf C (index := 121) (ci := 10) (k := 31) (r := (RX11, TX11, 47)) (v := sv_r qo) (by decide +kernel) (by rw [k_a]; rfl) rfl (by decide) fl_X11_121 (congrArg sv_a kc4_1) ?_
        refine sv_go C.1 C.2.1 [(.iload 4, 2), (.iload 5, 2), (.iconst (-1), 1)] (pc' := 335) (by decide +kernel) rfl (lv' := [(0, sv_r a), (1, sv_i v1), (2, sv_i y), (3, sv_i ((-1))), (4, sv_i X), (5, sv_i ((-1))), (6, sv_i 0)]) (st' := [sv_i ((-1)), sv_i ((-1)), sv_i X, sv_r qo]) rfl ?_
        refine sv_icmp_t C.1 C.2.1 (cnd := .eq) (off := 8) (tgt := 343) (by decide +kernel) (by decide) ⟨by omega, by omega⟩ ⟨by omega, by omega⟩ (show ((-1)) = ((-1)) by omega) ?_
        refine sv_go C.1 C.2.1 [(.iload 6, 2)] (pc' := 345) (by decide +kernel) rfl (lv' := [(0, sv_r a), (1, sv_i v1), (2, sv_i y), (3, sv_i ((-1))), (4, sv_i X), (5, sv_i ((-1))), (6, sv_i 0)]) (st' := [sv_i 0, sv_i X, sv_r qo]) rfl ?_
        refine sv_if_t C.1 C.2.1 (cnd := .eq) (off := 10) (tgt := 355) (by decide +kernel) (by decide) ⟨by omega, by omega⟩ (show 0 = 0 by omega) ?_
        refine sv_go C.1 C.2.1 [(.iload_n 2, 1), (.iload 4, 2)] (pc' := 358) (by decide +kernel) rfl (lv' := [(0, sv_r a), (1, sv_i v1), (2, sv_i y), (3, sv_i ((-1))), (4, sv_i X), (5, sv_i ((-1))), (6, sv_i 0)]) (st' := [sv_i X, sv_i y, sv_i X, sv_r qo]) rfl ?_
        refine sv_cs C (index := 31) (k := 2) (rest := [sv_i X, sv_r qo]) (by decide +kernel) (ct_X11_weekday l g A ty σ3 hok10 (y) ⟨by omega, by omega⟩ (X) ⟨by omega, by omega⟩) ⟨co_X11_weekday, in_X11, ⟨by decide, by decide, by decide +kernel⟩, Nat.le_of_ble_eq_true rfl, Nat.le_of_ble_eq_true rfl⟩ ml_X11_31 st_X11_weekday rfl rfl (Nat.le_of_ble_eq_true rfl) ⟨Nat.zero_le _, Nat.zero_le _⟩ (fun r16 σ17 hpo15 hok18 => ?_)
        obtain ⟨rfl, rfl⟩ := hpo15
        have hn19 := dy_wd_in y X
        refine sv_same (st2 := [sv_i (dy_wd y X), sv_i X, sv_r qo]) (lv2 := [(0, sv_r a), (1, sv_i v1), (2, sv_i y), (3, sv_i ((-1))), (4, sv_i X), (5, sv_i ((-1))), (6, sv_i 0)]) rfl rfl ?_
        refine sv_if C.1 C.2.1 (cnd := .ne) (off := 8) (tgt := 369) (by decide +kernel) (by decide) ⟨by omega, by omega⟩ (fun (h20 : (dy_wd y X) ≠ 0) => ?_) (fun (h20 : ¬ ((dy_wd y X) ≠ 0)) => ?_)
        · refine sv_go C.1 C.2.1 [(.bipush (-10), 2)] (pc' := 371) (by decide +kernel) rfl (lv' := [(0, sv_r a), (1, sv_i v1), (2, sv_i y), (3, sv_i ((-1))), (4, sv_i X), (5, sv_i ((-1))), (6, sv_i 0)]) (st' := [sv_i ((-10)), sv_i X, sv_r qo]) rfl ?_
          refine sv_is C (n := 366) (by decide +kernel) (by rw [kqo]; rfl) (by decide) (by omega) (by omega) ⟨by omega, by omega⟩ (hTA _ (by rw [kqo]; decide)) hok18 (fun hok21 => ?_)
          have hI23 := hIc4.up (a := qo) (k := (X : Int).toNat) (z := (-10)) (by rw [kqo]; exact trivial)
          have hF24 := hFc4.up (a := qo) (k := (X : Int).toNat) (z := (-10)) (by rw [kqo]; decide)
          generalize eσ22 : sv_up σ3 qo (X : Int).toNat ((-10)) = σ22 at hok21 hI23 hF24 ⊢
          have t25 : σ22 a 0 = (q1 : Int) + 1 := by rw [← eσ22, sv_up_a (sv_ne k_a kqo (by decide))]; exact kc4_0
          have t26 : σ22 a 31 = (qo : Int) + 1 := by rw [← eσ22, sv_up_a (sv_ne k_a kqo (by decide))]; exact kc4_1
          refine sv_go C.1 C.2.1 [(.iinc 4 1, 3)] (pc' := 375) (by decide +kernel) rfl (lv' := [(0, sv_r a), (1, sv_i v1), (2, sv_i y), (3, sv_i ((-1))), (4, sv_i (X + 1)), (5, sv_i ((-1))), (6, sv_i 0)]) (st' := []) rfl ?_
          refine sv_goto C.1 C.2.1 (off := (-309)) (tgt := 66) (by decide +kernel) (by decide) ?_
          refine sv_pick [0, 1, 2, 3, 4] (lv2 := [(0, sv_r a), (1, sv_i v1), (2, sv_i y), (3, sv_i ((-1))), (4, sv_i (X + 1))]) rfl ?_
          exact ih6 (X + 1) σ22 hok21 hI23 hF24 t25 t26 (by omega) (by rw [← eσ22]; exact md_step hO (by unfold fx_of; omega) (by omega)) (by omega)
        · refine sv_go C.1 C.2.1 [(.bipush (-11), 2)] (pc' := 366) (by decide +kernel) rfl (lv' := [(0, sv_r a), (1, sv_i v1), (2, sv_i y), (3, sv_i ((-1))), (4, sv_i X), (5, sv_i ((-1))), (6, sv_i 0)]) (st' := [sv_i ((-11)), sv_i X, sv_r qo]) rfl ?_
          refine sv_goto C.1 C.2.1 (off := 5) (tgt := 371) (by decide +kernel) (by decide) ?_
          refine sv_is C (n := 366) (by decide +kernel) (by rw [kqo]; rfl) (by decide) (by omega) (by omega) ⟨by omega, by omega⟩ (hTA _ (by rw [kqo]; decide)) hok18 (fun hok27 => ?_)
          have hI29 := hIc4.up (a := qo) (k := (X : Int).toNat) (z := (-11)) (by rw [kqo]; exact trivial)
          have hF30 := hFc4.up (a := qo) (k := (X : Int).toNat) (z := (-11)) (by rw [kqo]; decide)
          generalize eσ28 : sv_up σ3 qo (X : Int).toNat ((-11)) = σ28 at hok27 hI29 hF30 ⊢
          have t31 : σ28 a 0 = (q1 : Int) + 1 := by rw [← eσ28, sv_up_a (sv_ne k_a kqo (by decide))]; exact kc4_0
          have t32 : σ28 a 31 = (qo : Int) + 1 := by rw [← eσ28, sv_up_a (sv_ne k_a kqo (by decide))]; exact kc4_1
          refine sv_go C.1 C.2.1 [(.iinc 4 1, 3)] (pc' := 375) (by decide +kernel) rfl (lv' := [(0, sv_r a), (1, sv_i v1), (2, sv_i y), (3, sv_i ((-1))), (4, sv_i (X + 1)), (5, sv_i ((-1))), (6, sv_i 0)]) (st' := []) rfl ?_
          refine sv_goto C.1 C.2.1 (off := (-309)) (tgt := 66) (by decide +kernel) (by decide) ?_
          refine sv_pick [0, 1, 2, 3, 4] (lv2 := [(0, sv_r a), (1, sv_i v1), (2, sv_i y), (3, sv_i ((-1))), (4, sv_i (X + 1))]) rfl ?_
          exact ih6 (X + 1) σ28 hok27 hI29 hF30 t31 t32 (by omega) (by rw [← eσ28]; exact md_step hO (by unfold fx_of; omega) (by omega)) (by omega)
  exact L5 (((365 + dy_lp y - 0 : Int)).toNat + 1) 0 σ hok hI hF eq1 eqo (by omega) (fun i h1 h2 => absurd h2 (by omega)) (by omega)

set_option maxHeartbeats 4000000 in
set_option maxRecDepth 100000 in
theorem ct_X11_isVigil (l : Launch) (g : sv_G) (A : Nat → Prop) (ty : Nat → Nat) (σ : Nat → Nat → Int) (hok : sv_ok ty σ) (hI : sv_inv sp_1 ty σ) (a : Nat) (k_a : ty a = 10) (y : Int) (hy : 1 ≤ y ∧ y ≤ 2000) (hM : md_of σ a 31 y) (v1 : Int) (hv1 : 0 ≤ v1 ∧ v1 ≤ 3) (d : Int) (hd : 0 ≤ d ∧ d ≤ 370) : sv_M l yX11_isVigil cX11_isVigil 4 (some .boolean) { frames := 2, cells := 0, slots := 0, locals := 40 } g A ty σ [sv_r a, sv_i v1, sv_i y, sv_i d] (fun r σ' => σ = σ' ∧ sv_bo False r) := by
  refine sv_enter (by decide) (Nat.le_of_ble_eq_true rfl) ?_
  intro p e s m args below meth c C hr
  have C : sv_C g A RX11 cX11_isVigil 4 p s m args meth c := C
  have hr : meth.sig.returnType = (some .boolean) := hr
  refine sv_same (st2 := []) (lv2 := [(0, sv_r a), (1, sv_i v1), (2, sv_i y), (3, sv_i d)]) rfl rfl ?_
  refine sv_go C.1 C.2.1 [(.iload_n 3, 1)] (pc' := 1) (by decide +kernel) rfl (lv' := [(0, sv_r a), (1, sv_i v1), (2, sv_i y), (3, sv_i d)]) (st' := [sv_i d]) rfl ?_
  refine sv_i2l C.1 C.2.1 (by decide +kernel) ⟨by omega, by omega⟩ ?_
  refine sv_go C.1 C.2.1 [(.lconst 0, 1), (.iload_n 2, 1)] (pc' := 4) (by decide +kernel) rfl (lv' := [(0, sv_r a), (1, sv_i v1), (2, sv_i y), (3, sv_i d)]) (st' := [sv_i y, sv_l 0, sv_l d]) rfl ?_
  refine sv_cs C (index := 16) (k := 1) (rest := [sv_l 0, sv_l d]) (by decide +kernel) (ct_X11_daysOf l g A ty σ hok (y) ⟨by omega, by omega⟩) ⟨co_X11_daysOf, in_X11, ⟨by decide, by decide, by decide +kernel⟩, Nat.le_of_ble_eq_true rfl, Nat.le_of_ble_eq_true rfl⟩ ml_X11_16 st_X11_daysOf rfl rfl (Nat.le_of_ble_eq_true rfl) ⟨Nat.zero_le _, Nat.zero_le _⟩ (fun r2 σ3 hpo1 hok4 => ?_)
  obtain ⟨rfl, rfl⟩ := hpo1
  have hn5 := dy_lp_in y
  refine sv_same (st2 := [sv_i (365 + dy_lp y), sv_l 0, sv_l d]) (lv2 := [(0, sv_r a), (1, sv_i v1), (2, sv_i y), (3, sv_i d)]) rfl rfl ?_
  refine sv_i2l C.1 C.2.1 (by decide +kernel) ⟨by omega, by omega⟩ ?_
  refine sv_go C.1 C.2.1 [(.lconst 1, 1), (.lsub, 1)] (pc' := 10) (by decide +kernel) rfl (lv' := [(0, sv_r a), (1, sv_i v1), (2, sv_i y), (3, sv_i d)]) (st' := [sv_l ((365 + dy_lp y) - 1), sv_l 0, sv_l d]) rfl ?_
  refine sv_cs C (index := 9) (k := 3) (rest := []) (by decide +kernel) (ct_X11_in l g A ty σ hok4 (d) ⟨by omega, by omega⟩ (0) ⟨by omega, by omega⟩ ((365 + dy_lp y) - 1) ⟨by omega, by omega⟩) ⟨co_X11_in, in_X11, ⟨by decide, by decide, by decide +kernel⟩, Nat.le_of_ble_eq_true rfl, Nat.le_of_ble_eq_true rfl⟩ ml_X11_9 st_X11_in rfl rfl (Nat.le_of_ble_eq_true rfl) ⟨Nat.zero_le _, Nat.zero_le _⟩ (fun r7 σ8 hpo6 hok9 => ?_)
  obtain ⟨rfl, ⟨h10, rfl⟩ | ⟨h10, rfl⟩⟩ := hpo6
  · refine sv_same (st2 := [sv_i 1]) (lv2 := [(0, sv_r a), (1, sv_i v1), (2, sv_i y), (3, sv_i d)]) rfl rfl ?_
    refine sv_if_f C.1 C.2.1 (cnd := .eq) (off := 34) (tgt := 47) (by decide +kernel) (by decide) ⟨by omega, by omega⟩ (show ¬ (1 = 0) by omega) ?_
    refine sv_go C.1 C.2.1 [(.aload_n 0, 1)] (pc' := 17) (by decide +kernel) rfl (lv' := [(0, sv_r a), (1, sv_i v1), (2, sv_i y), (3, sv_i d)]) (st' := [sv_r a]) rfl ?_
    obtain ⟨q11, eq11, kq11⟩ := hI.ref (k := 31) k_a rfl
    refine sv_gf C (index := 121) (ci := 10) (k := 31) (r := (RX11, TX11, 47)) (v := sv_r q11) (by decide +kernel) (by rw [k_a]; rfl) rfl (by decide) fl_X11_121 (congrArg sv_a eq11) ?_
    refine sv_go C.1 C.2.1 [(.iload_n 3, 1)] (pc' := 21) (by decide +kernel) rfl (lv' := [(0, sv_r a), (1, sv_i v1), (2, sv_i y), (3, sv_i d)]) (st' := [sv_i d, sv_r q11]) rfl ?_
    refine sv_ia C (n := 366) (by decide +kernel) (by rw [kq11]; rfl) (by decide) (by omega) (by omega) ?_
    rw [show σ q11 d.toNat = fx_of y d from hM q11 eq11 (d) (by omega) (by omega)]
    have w12 := fx_of_in y d
    refine sv_if_t C.1 C.2.1 (cnd := .lt) (off := 25) (tgt := 47) (by decide +kernel) (by decide) ⟨by omega, by omega⟩ (show (fx_of y d) < 0 by omega) ?_
    refine sv_go C.1 C.2.1 [(.iconst 0, 1)] (pc' := 48) (by decide +kernel) rfl (lv' := [(0, sv_r a), (1, sv_i v1), (2, sv_i y), (3, sv_i d)]) (st' := [sv_i 0]) rfl ?_
    exact sv_zret C hr (by first | exact Or.inl rfl | exact Or.inr rfl | omega) (by decide +kernel) hok9 (⟨rfl, Or.inr ⟨id, rfl⟩⟩)
  · refine sv_same (st2 := [sv_i 0]) (lv2 := [(0, sv_r a), (1, sv_i v1), (2, sv_i y), (3, sv_i d)]) rfl rfl ?_
    refine sv_if_t C.1 C.2.1 (cnd := .eq) (off := 34) (tgt := 47) (by decide +kernel) (by decide) ⟨by omega, by omega⟩ (show 0 = 0 by omega) ?_
    refine sv_go C.1 C.2.1 [(.iconst 0, 1)] (pc' := 48) (by decide +kernel) rfl (lv' := [(0, sv_r a), (1, sv_i v1), (2, sv_i y), (3, sv_i d)]) (st' := [sv_i 0]) rfl ?_
    exact sv_zret C hr (by first | exact Or.inl rfl | exact Or.inr rfl | omega) (by decide +kernel) hok9 (⟨rfl, Or.inr ⟨id, rfl⟩⟩)

set_option maxHeartbeats 4000000 in
set_option maxRecDepth 100000 in
theorem ct_X11_waxOf (l : Launch) (g : sv_G) (A : Nat → Prop) (ty : Nat → Nat) (σ : Nat → Nat → Int) (hok : sv_ok ty σ) (hI : sv_inv sp_1 ty σ) (a : Nat) (k_a : ty a = 10) (y : Int) (hy : 1 ≤ y ∧ y ≤ 2000) (hM : md_of σ a 31 y) (v1 : Int) (hv1 : 0 ≤ v1 ∧ v1 ≤ 3) (d : Int) (hd : 0 ≤ d ∧ d < 365 + dy_lp y) : sv_M l yX11_waxOf cX11_waxOf 4 (some .int) { frames := 0, cells := 0, slots := 0, locals := 0 } g A ty σ [sv_r a, sv_i v1, sv_i d] (fun r σ' => σ = σ' ∧ r = [sv_i 0]) := by
  refine sv_enter (by decide) (Nat.le_of_ble_eq_true rfl) ?_
  intro p e s m args below meth c C hr
  have C : sv_C g A RX11 cX11_waxOf 4 p s m args meth c := C
  have hr : meth.sig.returnType = (some .int) := hr
  have hlp := dy_lp_in y
  refine sv_same (st2 := []) (lv2 := [(0, sv_r a), (1, sv_i v1), (2, sv_i d)]) rfl rfl ?_
  refine sv_go C.1 C.2.1 [(.aload_n 0, 1)] (pc' := 1) (by decide +kernel) rfl (lv' := [(0, sv_r a), (1, sv_i v1), (2, sv_i d)]) (st' := [sv_r a]) rfl ?_
  obtain ⟨q1, eq1, kq1⟩ := hI.ref (k := 31) k_a rfl
  refine sv_gf C (index := 121) (ci := 10) (k := 31) (r := (RX11, TX11, 47)) (v := sv_r q1) (by decide +kernel) (by rw [k_a]; rfl) rfl (by decide) fl_X11_121 (congrArg sv_a eq1) ?_
  refine sv_go C.1 C.2.1 [(.iload_n 2, 1)] (pc' := 5) (by decide +kernel) rfl (lv' := [(0, sv_r a), (1, sv_i v1), (2, sv_i d)]) (st' := [sv_i d, sv_r q1]) rfl ?_
  refine sv_ia C (n := 366) (by decide +kernel) (by rw [kq1]; rfl) (by decide) (by omega) (by omega) ?_
  rw [show σ q1 d.toNat = fx_of y d from hM q1 eq1 (d) (by omega) (by omega)]
  have w2 := fx_of_in y d
  refine sv_go C.1 C.2.1 [(.istore_n 3, 1), (.iload_n 3, 1)] (pc' := 8) (by decide +kernel) rfl (lv' := [(0, sv_r a), (1, sv_i v1), (2, sv_i d), (3, sv_i (fx_of y d))]) (st' := [sv_i (fx_of y d)]) rfl ?_
  refine sv_if_t C.1 C.2.1 (cnd := .lt) (off := 24) (tgt := 32) (by decide +kernel) (by decide) ⟨by omega, by omega⟩ (show (fx_of y d) < 0 by omega) ?_
  refine sv_go C.1 C.2.1 [(.iload_n 3, 1), (.bipush (-20), 2)] (pc' := 35) (by decide +kernel) rfl (lv' := [(0, sv_r a), (1, sv_i v1), (2, sv_i d), (3, sv_i (fx_of y d))]) (st' := [sv_i ((-20)), sv_i (fx_of y d)]) rfl ?_
  refine sv_icmp_t C.1 C.2.1 (cnd := .gt) (off := 31) (tgt := 66) (by decide +kernel) (by decide) ⟨by omega, by omega⟩ ⟨by omega, by omega⟩ (show ((-20)) < (fx_of y d) by omega) ?_
  refine sv_go C.1 C.2.1 [(.iconst 0, 1)] (pc' := 67) (by decide +kernel) rfl (lv' := [(0, sv_r a), (1, sv_i v1), (2, sv_i d), (3, sv_i (fx_of y d))]) (st' := [sv_i 0]) rfl ?_
  exact sv_iret C hr (by decide +kernel) hok (⟨rfl, rfl⟩)

set_option maxHeartbeats 4000000 in
set_option maxRecDepth 100000 in
theorem ct_X11_areLike (l : Launch) (g : sv_G) (A : Nat → Prop) (ty : Nat → Nat) (σ : Nat → Nat → Int) (hok : sv_ok ty σ) (a : Nat) (v1 : Int) (v2 : Int) (v3 : Int) (h2 : -11 ≤ v2 ∧ v2 ≤ -10) : sv_M l yX11_areLike cX11_areLike 5 (some .boolean) { frames := 0, cells := 0, slots := 0, locals := 0 } g A ty σ [sv_r a, sv_i v1, sv_i v2, sv_i v3, sv_i v2] (fun r σ' => σ = σ' ∧ r = [sv_i 1]) := by
  refine sv_enter (by decide) (Nat.le_of_ble_eq_true rfl) ?_
  intro p e s m args below meth c C hr
  have C : sv_C g A RX11 cX11_areLike 5 p s m args meth c := C
  have hr : meth.sig.returnType = (some .boolean) := hr
  refine sv_same (st2 := []) (lv2 := [(0, sv_r a), (1, sv_i v1), (2, sv_i v2), (3, sv_i v3), (4, sv_i v2)]) rfl rfl ?_
  refine sv_go C.1 C.2.1 [(.iload_n 2, 1)] (pc' := 1) (by decide +kernel) rfl (lv' := [(0, sv_r a), (1, sv_i v1), (2, sv_i v2), (3, sv_i v3), (4, sv_i v2)]) (st' := [sv_i v2]) rfl ?_
  refine sv_if_t C.1 C.2.1 (cnd := .lt) (off := 24) (tgt := 25) (by decide +kernel) (by decide) ⟨by omega, by omega⟩ (show v2 < 0 by omega) ?_
  refine sv_go C.1 C.2.1 [(.iload_n 2, 1), (.bipush (-20), 2)] (pc' := 28) (by decide +kernel) rfl (lv' := [(0, sv_r a), (1, sv_i v1), (2, sv_i v2), (3, sv_i v3), (4, sv_i v2)]) (st' := [sv_i ((-20)), sv_i v2]) rfl ?_
  refine sv_icmp_t C.1 C.2.1 (cnd := .gt) (off := 32) (tgt := 60) (by decide +kernel) (by decide) ⟨by omega, by omega⟩ ⟨by omega, by omega⟩ (show ((-20)) < v2 by omega) ?_
  refine sv_go C.1 C.2.1 [(.iload_n 2, 1), (.iload 4, 2)] (pc' := 63) (by decide +kernel) rfl (lv' := [(0, sv_r a), (1, sv_i v1), (2, sv_i v2), (3, sv_i v3), (4, sv_i v2)]) (st' := [sv_i v2, sv_i v2]) rfl ?_
  refine sv_icmp_f C.1 C.2.1 (cnd := .ne) (off := 17) (tgt := 80) (by decide +kernel) (by decide) ⟨by omega, by omega⟩ ⟨by omega, by omega⟩ (show ¬ (v2 ≠ v2) by omega) ?_
  refine sv_go C.1 C.2.1 [(.iload_n 2, 1)] (pc' := 67) (by decide +kernel) rfl (lv' := [(0, sv_r a), (1, sv_i v1), (2, sv_i v2), (3, sv_i v3), (4, sv_i v2)]) (st' := [sv_i v2]) rfl ?_
  refine sv_if_f C.1 C.2.1 (cnd := .ge) (off := 13) (tgt := 80) (by decide +kernel) (by decide) ⟨by omega, by omega⟩ (show ¬ (0 ≤ v2) by omega) ?_
  refine sv_go C.1 C.2.1 [(.iload_n 2, 1), (.bipush (-20), 2)] (pc' := 73) (by decide +kernel) rfl (lv' := [(0, sv_r a), (1, sv_i v1), (2, sv_i v2), (3, sv_i v3), (4, sv_i v2)]) (st' := [sv_i ((-20)), sv_i v2]) rfl ?_
  refine sv_icmp_f C.1 C.2.1 (cnd := .le) (off := 7) (tgt := 80) (by decide +kernel) (by decide) ⟨by omega, by omega⟩ ⟨by omega, by omega⟩ (show ¬ (v2 ≤ ((-20))) by omega) ?_
  refine sv_go C.1 C.2.1 [(.iconst 1, 1)] (pc' := 77) (by decide +kernel) rfl (lv' := [(0, sv_r a), (1, sv_i v1), (2, sv_i v2), (3, sv_i v3), (4, sv_i v2)]) (st' := [sv_i 1]) rfl ?_
  refine sv_goto C.1 C.2.1 (off := 4) (tgt := 81) (by decide +kernel) (by decide) ?_
  exact sv_zret C hr (by first | exact Or.inl rfl | exact Or.inr rfl | omega) (by decide +kernel) hok (⟨rfl, rfl⟩)

theorem ml_X11_297 : Cond.methodLink RX11 297 yX11_isPlaced ∈ lw_good := sv_mem 1366 (by decide +kernel) rfl
theorem co_X11_isPlaced : Cond.code yX11_isPlaced cX11_isPlaced 4 (some .boolean) ∈ lw_good := sv_mem 1369 (by decide +kernel) rfl
theorem im_X11_isPlaced : Cond.instanceMethod yX11_isPlaced ∈ lw_good := sv_mem 1368 (by decide +kernel) rfl
theorem se_X11_isPlaced : Cond.selects RX11 yX11_isPlaced yX11_isPlaced ∈ lw_good := sv_mem 60 (by decide +kernel) rfl
theorem ml_X11_301 : Cond.methodLink RX11 301 yX11_lead ∈ lw_good := sv_mem 1370 (by decide +kernel) rfl
theorem co_X11_lead : Cond.code yX11_lead cX11_lead 8 none ∈ lw_good := sv_mem 1373 (by decide +kernel) rfl
theorem im_X11_lead : Cond.instanceMethod yX11_lead ∈ lw_good := sv_mem 1372 (by decide +kernel) rfl
theorem se_X11_lead : Cond.selects RX11 yX11_lead yX11_lead ∈ lw_good := sv_mem 61 (by decide +kernel) rfl
set_option maxHeartbeats 4000000 in
set_option maxRecDepth 100000 in
theorem ct_X11_office (l : Launch) (g : sv_G) (A : Nat → Prop) (ty : Nat → Nat) (σ : Nat → Nat → Int) (hok : sv_ok ty σ) (hTA : ∀ q, ty q ≠ 0 → A q) (hI : sv_inv sp_1 ty σ) (hZ : sv_inv sp_0 ty σ) (a : Nat) (k_a : ty a = 10) (v1 : Int) (hv1 : sv_in v1) (y : Int) (hy : sv_in y) (d : Int) (hd : sv_in d) : sv_M l yX11_office cX11_office 4 (some .int) { frames := 4, cells := 0, slots := 0, locals := 89 } g A ty σ [sv_r a, sv_i v1, sv_i y, sv_i d] (fun r σ' => r = [sv_i (fx_office v1 y d)] ∧ sv_off [91] ty σ σ') := by
  refine sv_enter (by decide) (Nat.le_of_ble_eq_true rfl) ?_
  intro p e s m args below meth c C hr
  have C : sv_C g A RX11 cX11_office 4 p s m args meth c := C
  have hr : meth.sig.returnType = (some .int) := hr
  have hF : sv_off [91] ty σ σ := sv_off.rf
  have hlp := dy_lp_in y
  refine sv_same (st2 := []) (lv2 := [(0, sv_r a), (1, sv_i v1), (2, sv_i y), (3, sv_i d)]) rfl rfl ?_
  refine sv_go C.1 C.2.1 [(.aload_n 0, 1), (.iload_n 1, 1), (.iload_n 2, 1), (.iload_n 3, 1)] (pc' := 4) (by decide +kernel) rfl (lv' := [(0, sv_r a), (1, sv_i v1), (2, sv_i y), (3, sv_i d)]) (st' := [sv_i d, sv_i y, sv_i v1, sv_r a]) rfl ?_
  refine sv_cv C (index := 297) (k := 3) (rest := []) (ci := 10) (r := (RX11, TX11, 47)) (by decide +kernel) (ct_X11_isPlaced l g A ty σ hok (v1) ⟨by omega, by omega⟩ (y) ⟨by omega, by omega⟩ (d) ⟨by omega, by omega⟩ a) ⟨co_X11_isPlaced, in_X11, ⟨by decide, by decide, by decide +kernel⟩, Nat.le_of_ble_eq_true rfl, Nat.le_of_ble_eq_true rfl⟩ ml_X11_297 im_X11_isPlaced se_X11_isPlaced (by rw [k_a]; rfl) rfl rfl rfl (Nat.le_of_ble_eq_true rfl) ⟨Nat.zero_le _, Nat.zero_le _⟩ (fun r2 σ3 hpo1 hok4 => ?_)
  obtain ⟨rfl, ⟨h5, rfl⟩ | ⟨h5, rfl⟩⟩ := hpo1
  · refine sv_same (st2 := [sv_i 1]) (lv2 := [(0, sv_r a), (1, sv_i v1), (2, sv_i y), (3, sv_i d)]) rfl rfl ?_
    refine sv_if_t C.1 C.2.1 (cnd := .ne) (off := 6) (tgt := 13) (by decide +kernel) (by decide) ⟨by omega, by omega⟩ (show 1 ≠ 0 by omega) ?_
    refine sv_go C.1 C.2.1 [(.aload_n 0, 1), (.iload_n 1, 1), (.iload_n 2, 1)] (pc' := 16) (by decide +kernel) rfl (lv' := [(0, sv_r a), (1, sv_i v1), (2, sv_i y), (3, sv_i d)]) (st' := [sv_i y, sv_i v1, sv_r a]) rfl ?_
    refine sv_cv C (index := 301) (k := 2) (rest := []) (ci := 10) (r := (RX11, TX11, 47)) (by decide +kernel) (ct_X11_lead l g A ty σ hok4 hTA hI a k_a (v1) ⟨by omega, by omega⟩ (y) ⟨by omega, by omega⟩) ⟨co_X11_lead, in_X11, ⟨by decide, by decide, by decide +kernel⟩, Nat.le_of_ble_eq_true rfl, Nat.le_of_ble_eq_true rfl⟩ ml_X11_301 im_X11_lead se_X11_lead (by rw [k_a]; rfl) rfl rfl rfl (Nat.le_of_ble_eq_true rfl) ⟨Nat.zero_le _, Nat.zero_le _⟩ (fun r7 σ8 hpo6 hok9 => ?_)
    obtain ⟨rfl, hIu10, hFu10, xu10⟩ := hpo6
    have hGu10 := hF.tr hFu10 (by decide)
    refine sv_same (st2 := []) (lv2 := [(0, sv_r a), (1, sv_i v1), (2, sv_i y), (3, sv_i d)]) rfl rfl ?_
    refine sv_go C.1 C.2.1 [(.aload_n 0, 1)] (pc' := 20) (by decide +kernel) rfl (lv' := [(0, sv_r a), (1, sv_i v1), (2, sv_i y), (3, sv_i d)]) (st' := [sv_r a]) rfl ?_
    obtain ⟨q11, eq11, kq11⟩ := hIu10.ref (k := 31) k_a rfl
    refine sv_gf C (index := 121) (ci := 10) (k := 31) (r := (RX11, TX11, 47)) (v := sv_r q11) (by decide +kernel) (by rw [k_a]; rfl) rfl (by decide) fl_X11_121 (congrArg sv_a eq11) ?_
    refine sv_go C.1 C.2.1 [(.iload_n 3, 1)] (pc' := 24) (by decide +kernel) rfl (lv' := [(0, sv_r a), (1, sv_i v1), (2, sv_i y), (3, sv_i d)]) (st' := [sv_i d, sv_r q11]) rfl ?_
    refine sv_ia C (n := 366) (by decide +kernel) (by rw [kq11]; rfl) (by decide) (by omega) (by omega) ?_
    rw [show σ8 q11 d.toNat = fx_of y d from xu10 q11 eq11 (d) (by omega) (by omega)]
    have w12 := fx_of_in y d
    exact sv_iret C hr (by decide +kernel) hok9 (⟨congrArg (fun q => [sv_i q]) (by first | omega | (unfold fx_office; omega)), hGu10⟩)
  · refine sv_same (st2 := [sv_i 0]) (lv2 := [(0, sv_r a), (1, sv_i v1), (2, sv_i y), (3, sv_i d)]) rfl rfl ?_
    refine sv_if_f C.1 C.2.1 (cnd := .ne) (off := 6) (tgt := 13) (by decide +kernel) (by decide) ⟨by omega, by omega⟩ (show ¬ (0 ≠ 0) by omega) ?_
    refine sv_go C.1 C.2.1 [(.bipush (-2), 2)] (pc' := 12) (by decide +kernel) rfl (lv' := [(0, sv_r a), (1, sv_i v1), (2, sv_i y), (3, sv_i d)]) (st' := [sv_i ((-2))]) rfl ?_
    exact sv_iret C hr (by decide +kernel) hok4 (⟨congrArg (fun q => [sv_i q]) (by first | omega | (unfold fx_office; omega)), hF⟩)

theorem ml_X11_304 : Cond.methodLink RX11 304 yX11_isVigil ∈ lw_good := sv_mem 1390 (by decide +kernel) rfl
theorem co_X11_isVigil : Cond.code yX11_isVigil cX11_isVigil 4 (some .boolean) ∈ lw_good := sv_mem 1393 (by decide +kernel) rfl
theorem im_X11_isVigil : Cond.instanceMethod yX11_isVigil ∈ lw_good := sv_mem 1392 (by decide +kernel) rfl
theorem se_X11_isVigil : Cond.selects RX11 yX11_isVigil yX11_isVigil ∈ lw_good := sv_mem 63 (by decide +kernel) rfl
theorem fl_X11_57 : Cond.fieldLink RX11 57 "SaintsRoadModel" "lent" "[I" ∈ lw_good := sv_mem 1107 (by decide +kernel) rfl
set_option maxHeartbeats 4000000 in
set_option maxRecDepth 100000 in
theorem ct_X11_fast (l : Launch) (g : sv_G) (A : Nat → Prop) (ty : Nat → Nat) (σ : Nat → Nat → Int) (hok : sv_ok ty σ) (hTA : ∀ q, ty q ≠ 0 → A q) (hI : sv_inv sp_1 ty σ) (hZ : sv_inv sp_0 ty σ) (a : Nat) (k_a : ty a = 10) (v1 : Int) (hv1 : sv_in v1) (y : Int) (hy : sv_in y) (d : Int) (hd : sv_in d) : sv_M l yX11_fast cX11_fast 6 (some .int) { frames := 4, cells := 0, slots := 0, locals := 89 } g A ty σ [sv_r a, sv_i v1, sv_i y, sv_i d] (fun r σ' => r = [sv_i (fx_fast v1 y d)] ∧ sv_off [91] ty σ σ') := by
  refine sv_enter (by decide) (Nat.le_of_ble_eq_true rfl) ?_
  intro p e s m args below meth c C hr
  have C : sv_C g A RX11 cX11_fast 6 p s m args meth c := C
  have hr : meth.sig.returnType = (some .int) := hr
  have hF : sv_off [91] ty σ σ := sv_off.rf
  have hlp := dy_lp_in y
  have hea := dy_ea_in y
  refine sv_same (st2 := []) (lv2 := [(0, sv_r a), (1, sv_i v1), (2, sv_i y), (3, sv_i d)]) rfl rfl ?_
  refine sv_go C.1 C.2.1 [(.aload_n 0, 1), (.iload_n 1, 1), (.iload_n 2, 1), (.iload_n 3, 1)] (pc' := 4) (by decide +kernel) rfl (lv' := [(0, sv_r a), (1, sv_i v1), (2, sv_i y), (3, sv_i d)]) (st' := [sv_i d, sv_i y, sv_i v1, sv_r a]) rfl ?_
  refine sv_cv C (index := 297) (k := 3) (rest := []) (ci := 10) (r := (RX11, TX11, 47)) (by decide +kernel) (ct_X11_isPlaced l g A ty σ hok (v1) ⟨by omega, by omega⟩ (y) ⟨by omega, by omega⟩ (d) ⟨by omega, by omega⟩ a) ⟨co_X11_isPlaced, in_X11, ⟨by decide, by decide, by decide +kernel⟩, Nat.le_of_ble_eq_true rfl, Nat.le_of_ble_eq_true rfl⟩ ml_X11_297 im_X11_isPlaced se_X11_isPlaced (by rw [k_a]; rfl) rfl rfl rfl (Nat.le_of_ble_eq_true rfl) ⟨Nat.zero_le _, Nat.zero_le _⟩ (fun r2 σ3 hpo1 hok4 => ?_)
  obtain ⟨rfl, ⟨h5, rfl⟩ | ⟨h5, rfl⟩⟩ := hpo1
  · refine sv_same (st2 := [sv_i 1]) (lv2 := [(0, sv_r a), (1, sv_i v1), (2, sv_i y), (3, sv_i d)]) rfl rfl ?_
    refine sv_if_t C.1 C.2.1 (cnd := .ne) (off := 6) (tgt := 13) (by decide +kernel) (by decide) ⟨by omega, by omega⟩ (show 1 ≠ 0 by omega) ?_
    refine sv_go C.1 C.2.1 [(.aload_n 0, 1), (.iload_n 1, 1), (.iload_n 2, 1)] (pc' := 16) (by decide +kernel) rfl (lv' := [(0, sv_r a), (1, sv_i v1), (2, sv_i y), (3, sv_i d)]) (st' := [sv_i y, sv_i v1, sv_r a]) rfl ?_
    refine sv_cv C (index := 301) (k := 2) (rest := []) (ci := 10) (r := (RX11, TX11, 47)) (by decide +kernel) (ct_X11_lead l g A ty σ hok4 hTA hI a k_a (v1) ⟨by omega, by omega⟩ (y) ⟨by omega, by omega⟩) ⟨co_X11_lead, in_X11, ⟨by decide, by decide, by decide +kernel⟩, Nat.le_of_ble_eq_true rfl, Nat.le_of_ble_eq_true rfl⟩ ml_X11_301 im_X11_lead se_X11_lead (by rw [k_a]; rfl) rfl rfl rfl (Nat.le_of_ble_eq_true rfl) ⟨Nat.zero_le _, Nat.zero_le _⟩ (fun r7 σ8 hpo6 hok9 => ?_)
    obtain ⟨rfl, hIu10, hFu10, xu10⟩ := hpo6
    have hGu10 := hF.tr hFu10 (by decide)
    refine sv_same (st2 := []) (lv2 := [(0, sv_r a), (1, sv_i v1), (2, sv_i y), (3, sv_i d)]) rfl rfl ?_
    refine sv_go C.1 C.2.1 [(.iload_n 2, 1), (.iload_n 3, 1)] (pc' := 21) (by decide +kernel) rfl (lv' := [(0, sv_r a), (1, sv_i v1), (2, sv_i y), (3, sv_i d)]) (st' := [sv_i d, sv_i y]) rfl ?_
    refine sv_cs C (index := 31) (k := 2) (rest := []) (by decide +kernel) (ct_X11_weekday l g A ty σ8 hok9 (y) ⟨by omega, by omega⟩ (d) ⟨by omega, by omega⟩) ⟨co_X11_weekday, in_X11, ⟨by decide, by decide, by decide +kernel⟩, Nat.le_of_ble_eq_true rfl, Nat.le_of_ble_eq_true rfl⟩ ml_X11_31 st_X11_weekday rfl rfl (Nat.le_of_ble_eq_true rfl) ⟨Nat.zero_le _, Nat.zero_le _⟩ (fun r12 σ13 hpo11 hok14 => ?_)
    obtain ⟨rfl, rfl⟩ := hpo11
    have hn15 := dy_wd_in y d
    refine sv_same (st2 := [sv_i (dy_wd y d)]) (lv2 := [(0, sv_r a), (1, sv_i v1), (2, sv_i y), (3, sv_i d)]) rfl rfl ?_
    refine sv_if C.1 C.2.1 (cnd := .ne) (off := 5) (tgt := 29) (by decide +kernel) (by decide) ⟨by omega, by omega⟩ (fun (h16 : (dy_wd y d) ≠ 0) => ?_) (fun (h16 : ¬ ((dy_wd y d) ≠ 0)) => ?_)
    · refine sv_go C.1 C.2.1 [(.iload_n 2, 1)] (pc' := 30) (by decide +kernel) rfl (lv' := [(0, sv_r a), (1, sv_i v1), (2, sv_i y), (3, sv_i d)]) (st' := [sv_i y]) rfl ?_
      refine sv_cs C (index := 34) (k := 1) (rest := []) (by decide +kernel) (ct_X11_easterOf l g A ty σ8 hok14 (y) ⟨by omega, by omega⟩) ⟨co_X11_easterOf, in_X11, ⟨by decide, by decide, by decide +kernel⟩, Nat.le_of_ble_eq_true rfl, Nat.le_of_ble_eq_true rfl⟩ ml_X11_34 st_X11_easterOf rfl rfl (Nat.le_of_ble_eq_true rfl) ⟨Nat.zero_le _, Nat.zero_le _⟩ (fun r18 σ19 hpo17 hok20 => ?_)
      obtain ⟨rfl, rfl⟩ := hpo17
      have hn21 := dy_ea_in y
      refine sv_same (st2 := [sv_i (dy_ea y)]) (lv2 := [(0, sv_r a), (1, sv_i v1), (2, sv_i y), (3, sv_i d)]) rfl rfl ?_
      refine sv_go C.1 C.2.1 [(.istore 4, 2), (.iload_n 3, 1), (.iload 4, 2)] (pc' := 38) (by decide +kernel) rfl (lv' := [(0, sv_r a), (1, sv_i v1), (2, sv_i y), (3, sv_i d), (4, sv_i (dy_ea y))]) (st' := [sv_i (dy_ea y), sv_i d]) rfl ?_
      refine sv_icmp C.1 C.2.1 (cnd := .ge) (off := 16) (tgt := 54) (by decide +kernel) (by decide) ⟨by omega, by omega⟩ ⟨by omega, by omega⟩ (fun (h22 : (dy_ea y) ≤ d) => ?_) (fun (h22 : ¬ ((dy_ea y) ≤ d)) => ?_)
      · refine sv_go C.1 C.2.1 [(.aload_n 0, 1), (.iload_n 1, 1), (.iload_n 2, 1), (.iload_n 3, 1), (.iconst 1, 1), (.iadd, 1)] (pc' := 60) (by decide +kernel) rfl (lv' := [(0, sv_r a), (1, sv_i v1), (2, sv_i y), (3, sv_i d), (4, sv_i (dy_ea y))]) (st' := [sv_i (d + 1), sv_i y, sv_i v1, sv_r a]) rfl ?_
        refine sv_cv C (index := 304) (k := 3) (rest := []) (ci := 10) (r := (RX11, TX11, 47)) (by decide +kernel) (ct_X11_isVigil l g A ty σ8 hok20 hIu10 a k_a (y) ⟨by omega, by omega⟩ xu10 (v1) ⟨by omega, by omega⟩ (d + 1) ⟨by omega, by omega⟩) ⟨co_X11_isVigil, in_X11, ⟨by decide, by decide, by decide +kernel⟩, Nat.le_of_ble_eq_true rfl, Nat.le_of_ble_eq_true rfl⟩ ml_X11_304 im_X11_isVigil se_X11_isVigil (by rw [k_a]; rfl) rfl rfl rfl (Nat.le_of_ble_eq_true rfl) ⟨Nat.zero_le _, Nat.zero_le _⟩ (fun r24 σ25 hpo23 hok26 => ?_)
        obtain ⟨rfl, hpo23⟩ := hpo23
        obtain rfl := sv_boF hpo23
        refine sv_same (st2 := [sv_i 0]) (lv2 := [(0, sv_r a), (1, sv_i v1), (2, sv_i y), (3, sv_i d), (4, sv_i (dy_ea y))]) rfl rfl ?_
        refine sv_if_t C.1 C.2.1 (cnd := .eq) (off := 7) (tgt := 70) (by decide +kernel) (by decide) ⟨by omega, by omega⟩ (show 0 = 0 by omega) ?_
        refine sv_go C.1 C.2.1 [(.iconst 0, 1), (.istore 5, 2), (.iload 5, 2)] (pc' := 75) (by decide +kernel) rfl (lv' := [(0, sv_r a), (1, sv_i v1), (2, sv_i y), (3, sv_i d), (4, sv_i (dy_ea y)), (5, sv_i 0)]) (st' := [sv_i 0]) rfl ?_
        refine sv_if_f C.1 C.2.1 (cnd := .ne) (off := 25) (tgt := 100) (by decide +kernel) (by decide) ⟨by omega, by omega⟩ (show ¬ (0 ≠ 0) by omega) ?_
        refine sv_go C.1 C.2.1 [(.iload_n 2, 1), (.iload_n 3, 1)] (pc' := 80) (by decide +kernel) rfl (lv' := [(0, sv_r a), (1, sv_i v1), (2, sv_i y), (3, sv_i d), (4, sv_i (dy_ea y)), (5, sv_i 0)]) (st' := [sv_i d, sv_i y]) rfl ?_
        refine sv_cs C (index := 31) (k := 2) (rest := []) (by decide +kernel) (ct_X11_weekday l g A ty σ8 hok26 (y) ⟨by omega, by omega⟩ (d) ⟨by omega, by omega⟩) ⟨co_X11_weekday, in_X11, ⟨by decide, by decide, by decide +kernel⟩, Nat.le_of_ble_eq_true rfl, Nat.le_of_ble_eq_true rfl⟩ ml_X11_31 st_X11_weekday rfl rfl (Nat.le_of_ble_eq_true rfl) ⟨Nat.zero_le _, Nat.zero_le _⟩ (fun r28 σ29 hpo27 hok30 => ?_)
        obtain ⟨rfl, rfl⟩ := hpo27
        have hn31 := dy_wd_in y d
        refine sv_same (st2 := [sv_i (dy_wd y d)]) (lv2 := [(0, sv_r a), (1, sv_i v1), (2, sv_i y), (3, sv_i d), (4, sv_i (dy_ea y)), (5, sv_i 0)]) rfl rfl ?_
        refine sv_go C.1 C.2.1 [(.bipush 6, 2)] (pc' := 85) (by decide +kernel) rfl (lv' := [(0, sv_r a), (1, sv_i v1), (2, sv_i y), (3, sv_i d), (4, sv_i (dy_ea y)), (5, sv_i 0)]) (st' := [sv_i 6, sv_i (dy_wd y d)]) rfl ?_
        refine sv_icmp C.1 C.2.1 (cnd := .ne) (off := 19) (tgt := 104) (by decide +kernel) (by decide) ⟨by omega, by omega⟩ ⟨by omega, by omega⟩ (fun (h32 : (dy_wd y d) ≠ 6) => ?_) (fun (h32 : ¬ ((dy_wd y d) ≠ 6)) => ?_)
        · refine sv_go C.1 C.2.1 [(.iconst 0, 1)] (pc' := 105) (by decide +kernel) rfl (lv' := [(0, sv_r a), (1, sv_i v1), (2, sv_i y), (3, sv_i d), (4, sv_i (dy_ea y)), (5, sv_i 0)]) (st' := [sv_i 0]) rfl ?_
          exact sv_iret C hr (by decide +kernel) hok30 (⟨congrArg (fun q => [sv_i q]) (by first | omega | (unfold fx_fast; omega)), hGu10⟩)
        · refine sv_go C.1 C.2.1 [(.aload_n 0, 1), (.iload_n 1, 1), (.iload_n 2, 1), (.iload_n 3, 1), (.iconst 2, 1), (.iadd, 1)] (pc' := 94) (by decide +kernel) rfl (lv' := [(0, sv_r a), (1, sv_i v1), (2, sv_i y), (3, sv_i d), (4, sv_i (dy_ea y)), (5, sv_i 0)]) (st' := [sv_i (d + 2), sv_i y, sv_i v1, sv_r a]) rfl ?_
          refine sv_cv C (index := 304) (k := 3) (rest := []) (ci := 10) (r := (RX11, TX11, 47)) (by decide +kernel) (ct_X11_isVigil l g A ty σ8 hok30 hIu10 a k_a (y) ⟨by omega, by omega⟩ xu10 (v1) ⟨by omega, by omega⟩ (d + 2) ⟨by omega, by omega⟩) ⟨co_X11_isVigil, in_X11, ⟨by decide, by decide, by decide +kernel⟩, Nat.le_of_ble_eq_true rfl, Nat.le_of_ble_eq_true rfl⟩ ml_X11_304 im_X11_isVigil se_X11_isVigil (by rw [k_a]; rfl) rfl rfl rfl (Nat.le_of_ble_eq_true rfl) ⟨Nat.zero_le _, Nat.zero_le _⟩ (fun r34 σ35 hpo33 hok36 => ?_)
          obtain ⟨rfl, hpo33⟩ := hpo33
          obtain rfl := sv_boF hpo33
          refine sv_same (st2 := [sv_i 0]) (lv2 := [(0, sv_r a), (1, sv_i v1), (2, sv_i y), (3, sv_i d), (4, sv_i (dy_ea y)), (5, sv_i 0)]) rfl rfl ?_
          refine sv_if_t C.1 C.2.1 (cnd := .eq) (off := 7) (tgt := 104) (by decide +kernel) (by decide) ⟨by omega, by omega⟩ (show 0 = 0 by omega) ?_
          refine sv_go C.1 C.2.1 [(.iconst 0, 1)] (pc' := 105) (by decide +kernel) rfl (lv' := [(0, sv_r a), (1, sv_i v1), (2, sv_i y), (3, sv_i d), (4, sv_i (dy_ea y)), (5, sv_i 0)]) (st' := [sv_i 0]) rfl ?_
          exact sv_iret C hr (by decide +kernel) hok36 (⟨congrArg (fun q => [sv_i q]) (by first | omega | (unfold fx_fast; omega)), hGu10⟩)
      · refine sv_go C.1 C.2.1 [(.iload_n 3, 1), (.iload 4, 2), (.aload_n 0, 1)] (pc' := 45) (by decide +kernel) rfl (lv' := [(0, sv_r a), (1, sv_i v1), (2, sv_i y), (3, sv_i d), (4, sv_i (dy_ea y))]) (st' := [sv_r a, sv_i (dy_ea y), sv_i d]) rfl ?_
        obtain ⟨q37, eq37, kq37⟩ := hIu10.ref (k := 3) k_a rfl
        refine sv_gf C (index := 57) (ci := 10) (k := 3) (r := (RX11, TX11, 47)) (v := sv_r q37) (by decide +kernel) (by rw [k_a]; rfl) rfl (by decide) fl_X11_57 (congrArg sv_a eq37) ?_
        refine sv_go C.1 C.2.1 [(.iload_n 1, 1)] (pc' := 49) (by decide +kernel) rfl (lv' := [(0, sv_r a), (1, sv_i v1), (2, sv_i y), (3, sv_i d), (4, sv_i (dy_ea y))]) (st' := [sv_i v1, sv_r q37, sv_i (dy_ea y), sv_i d]) rfl ?_
        refine sv_ia C (n := 5) (by decide +kernel) (by rw [kq37]; rfl) (by decide) (by omega) (by omega) ?_
        have w38 : σ8 q37 v1.toNat = 0 := by have q := hZ.num (k := (v1 : Int).toNat) kq37 rfl; rw [hGu10.at kq37 (by decide)]; omega
        rw [w38]
        refine sv_go C.1 C.2.1 [(.isub, 1)] (pc' := 51) (by decide +kernel) rfl (lv' := [(0, sv_r a), (1, sv_i v1), (2, sv_i y), (3, sv_i d), (4, sv_i (dy_ea y))]) (st' := [sv_i ((dy_ea y) - 0), sv_i d]) rfl ?_
        refine sv_icmp_f C.1 C.2.1 (cnd := .ge) (off := 15) (tgt := 66) (by decide +kernel) (by decide) ⟨by omega, by omega⟩ ⟨by omega, by omega⟩ (show ¬ (((dy_ea y) - 0) ≤ d) by omega) ?_
        refine sv_go C.1 C.2.1 [(.aload_n 0, 1), (.iload_n 1, 1), (.iload_n 2, 1), (.iload_n 3, 1), (.iconst 1, 1), (.iadd, 1)] (pc' := 60) (by decide +kernel) rfl (lv' := [(0, sv_r a), (1, sv_i v1), (2, sv_i y), (3, sv_i d), (4, sv_i (dy_ea y))]) (st' := [sv_i (d + 1), sv_i y, sv_i v1, sv_r a]) rfl ?_
        refine sv_cv C (index := 304) (k := 3) (rest := []) (ci := 10) (r := (RX11, TX11, 47)) (by decide +kernel) (ct_X11_isVigil l g A ty σ8 hok20 hIu10 a k_a (y) ⟨by omega, by omega⟩ xu10 (v1) ⟨by omega, by omega⟩ (d + 1) ⟨by omega, by omega⟩) ⟨co_X11_isVigil, in_X11, ⟨by decide, by decide, by decide +kernel⟩, Nat.le_of_ble_eq_true rfl, Nat.le_of_ble_eq_true rfl⟩ ml_X11_304 im_X11_isVigil se_X11_isVigil (by rw [k_a]; rfl) rfl rfl rfl (Nat.le_of_ble_eq_true rfl) ⟨Nat.zero_le _, Nat.zero_le _⟩ (fun r40 σ41 hpo39 hok42 => ?_)
        obtain ⟨rfl, hpo39⟩ := hpo39
        obtain rfl := sv_boF hpo39
        refine sv_same (st2 := [sv_i 0]) (lv2 := [(0, sv_r a), (1, sv_i v1), (2, sv_i y), (3, sv_i d), (4, sv_i (dy_ea y))]) rfl rfl ?_
        refine sv_if_t C.1 C.2.1 (cnd := .eq) (off := 7) (tgt := 70) (by decide +kernel) (by decide) ⟨by omega, by omega⟩ (show 0 = 0 by omega) ?_
        refine sv_go C.1 C.2.1 [(.iconst 0, 1), (.istore 5, 2), (.iload 5, 2)] (pc' := 75) (by decide +kernel) rfl (lv' := [(0, sv_r a), (1, sv_i v1), (2, sv_i y), (3, sv_i d), (4, sv_i (dy_ea y)), (5, sv_i 0)]) (st' := [sv_i 0]) rfl ?_
        refine sv_if_f C.1 C.2.1 (cnd := .ne) (off := 25) (tgt := 100) (by decide +kernel) (by decide) ⟨by omega, by omega⟩ (show ¬ (0 ≠ 0) by omega) ?_
        refine sv_go C.1 C.2.1 [(.iload_n 2, 1), (.iload_n 3, 1)] (pc' := 80) (by decide +kernel) rfl (lv' := [(0, sv_r a), (1, sv_i v1), (2, sv_i y), (3, sv_i d), (4, sv_i (dy_ea y)), (5, sv_i 0)]) (st' := [sv_i d, sv_i y]) rfl ?_
        refine sv_cs C (index := 31) (k := 2) (rest := []) (by decide +kernel) (ct_X11_weekday l g A ty σ8 hok42 (y) ⟨by omega, by omega⟩ (d) ⟨by omega, by omega⟩) ⟨co_X11_weekday, in_X11, ⟨by decide, by decide, by decide +kernel⟩, Nat.le_of_ble_eq_true rfl, Nat.le_of_ble_eq_true rfl⟩ ml_X11_31 st_X11_weekday rfl rfl (Nat.le_of_ble_eq_true rfl) ⟨Nat.zero_le _, Nat.zero_le _⟩ (fun r44 σ45 hpo43 hok46 => ?_)
        obtain ⟨rfl, rfl⟩ := hpo43
        have hn47 := dy_wd_in y d
        refine sv_same (st2 := [sv_i (dy_wd y d)]) (lv2 := [(0, sv_r a), (1, sv_i v1), (2, sv_i y), (3, sv_i d), (4, sv_i (dy_ea y)), (5, sv_i 0)]) rfl rfl ?_
        refine sv_go C.1 C.2.1 [(.bipush 6, 2)] (pc' := 85) (by decide +kernel) rfl (lv' := [(0, sv_r a), (1, sv_i v1), (2, sv_i y), (3, sv_i d), (4, sv_i (dy_ea y)), (5, sv_i 0)]) (st' := [sv_i 6, sv_i (dy_wd y d)]) rfl ?_
        refine sv_icmp C.1 C.2.1 (cnd := .ne) (off := 19) (tgt := 104) (by decide +kernel) (by decide) ⟨by omega, by omega⟩ ⟨by omega, by omega⟩ (fun (h48 : (dy_wd y d) ≠ 6) => ?_) (fun (h48 : ¬ ((dy_wd y d) ≠ 6)) => ?_)
        · refine sv_go C.1 C.2.1 [(.iconst 0, 1)] (pc' := 105) (by decide +kernel) rfl (lv' := [(0, sv_r a), (1, sv_i v1), (2, sv_i y), (3, sv_i d), (4, sv_i (dy_ea y)), (5, sv_i 0)]) (st' := [sv_i 0]) rfl ?_
          exact sv_iret C hr (by decide +kernel) hok46 (⟨congrArg (fun q => [sv_i q]) (by first | omega | (unfold fx_fast; omega)), hGu10⟩)
        · refine sv_go C.1 C.2.1 [(.aload_n 0, 1), (.iload_n 1, 1), (.iload_n 2, 1), (.iload_n 3, 1), (.iconst 2, 1), (.iadd, 1)] (pc' := 94) (by decide +kernel) rfl (lv' := [(0, sv_r a), (1, sv_i v1), (2, sv_i y), (3, sv_i d), (4, sv_i (dy_ea y)), (5, sv_i 0)]) (st' := [sv_i (d + 2), sv_i y, sv_i v1, sv_r a]) rfl ?_
          refine sv_cv C (index := 304) (k := 3) (rest := []) (ci := 10) (r := (RX11, TX11, 47)) (by decide +kernel) (ct_X11_isVigil l g A ty σ8 hok46 hIu10 a k_a (y) ⟨by omega, by omega⟩ xu10 (v1) ⟨by omega, by omega⟩ (d + 2) ⟨by omega, by omega⟩) ⟨co_X11_isVigil, in_X11, ⟨by decide, by decide, by decide +kernel⟩, Nat.le_of_ble_eq_true rfl, Nat.le_of_ble_eq_true rfl⟩ ml_X11_304 im_X11_isVigil se_X11_isVigil (by rw [k_a]; rfl) rfl rfl rfl (Nat.le_of_ble_eq_true rfl) ⟨Nat.zero_le _, Nat.zero_le _⟩ (fun r50 σ51 hpo49 hok52 => ?_)
          obtain ⟨rfl, hpo49⟩ := hpo49
          obtain rfl := sv_boF hpo49
          refine sv_same (st2 := [sv_i 0]) (lv2 := [(0, sv_r a), (1, sv_i v1), (2, sv_i y), (3, sv_i d), (4, sv_i (dy_ea y)), (5, sv_i 0)]) rfl rfl ?_
          refine sv_if_t C.1 C.2.1 (cnd := .eq) (off := 7) (tgt := 104) (by decide +kernel) (by decide) ⟨by omega, by omega⟩ (show 0 = 0 by omega) ?_
          refine sv_go C.1 C.2.1 [(.iconst 0, 1)] (pc' := 105) (by decide +kernel) rfl (lv' := [(0, sv_r a), (1, sv_i v1), (2, sv_i y), (3, sv_i d), (4, sv_i (dy_ea y)), (5, sv_i 0)]) (st' := [sv_i 0]) rfl ?_
          exact sv_iret C hr (by decide +kernel) hok52 (⟨congrArg (fun q => [sv_i q]) (by first | omega | (unfold fx_fast; omega)), hGu10⟩)
    · refine sv_go C.1 C.2.1 [(.iconst 0, 1)] (pc' := 28) (by decide +kernel) rfl (lv' := [(0, sv_r a), (1, sv_i v1), (2, sv_i y), (3, sv_i d)]) (st' := [sv_i 0]) rfl ?_
      exact sv_iret C hr (by decide +kernel) hok14 (⟨congrArg (fun q => [sv_i q]) (by first | omega | (unfold fx_fast; omega)), hGu10⟩)
  · refine sv_same (st2 := [sv_i 0]) (lv2 := [(0, sv_r a), (1, sv_i v1), (2, sv_i y), (3, sv_i d)]) rfl rfl ?_
    refine sv_if_f C.1 C.2.1 (cnd := .ne) (off := 6) (tgt := 13) (by decide +kernel) (by decide) ⟨by omega, by omega⟩ (show ¬ (0 ≠ 0) by omega) ?_
    refine sv_go C.1 C.2.1 [(.bipush (-2), 2)] (pc' := 12) (by decide +kernel) rfl (lv' := [(0, sv_r a), (1, sv_i v1), (2, sv_i y), (3, sv_i d)]) (st' := [sv_i ((-2))]) rfl ?_
    exact sv_iret C hr (by decide +kernel) hok4 (⟨congrArg (fun q => [sv_i q]) (by first | omega | (unfold fx_fast; omega)), hF⟩)

theorem ml_X11_307 : Cond.methodLink RX11 307 yX11_waxOf ∈ lw_good := sv_mem 1398 (by decide +kernel) rfl
theorem co_X11_waxOf : Cond.code yX11_waxOf cX11_waxOf 4 (some .int) ∈ lw_good := sv_mem 1401 (by decide +kernel) rfl
theorem im_X11_waxOf : Cond.instanceMethod yX11_waxOf ∈ lw_good := sv_mem 1400 (by decide +kernel) rfl
theorem se_X11_waxOf : Cond.selects RX11 yX11_waxOf yX11_waxOf ∈ lw_good := sv_mem 64 (by decide +kernel) rfl
set_option maxHeartbeats 4000000 in
set_option maxRecDepth 100000 in
theorem ct_X11_wax (l : Launch) (g : sv_G) (A : Nat → Prop) (ty : Nat → Nat) (σ : Nat → Nat → Int) (hok : sv_ok ty σ) (hTA : ∀ q, ty q ≠ 0 → A q) (hI : sv_inv sp_1 ty σ) (hZ : sv_inv sp_0 ty σ) (a : Nat) (k_a : ty a = 10) (v1 : Int) (hv1 : sv_in v1) (y : Int) (hy : sv_in y) (f : Int) (hf : sv_in f) (t : Int) (ht : sv_in t) : sv_M l yX11_wax cX11_wax 7 (some .int) { frames := 4, cells := 0, slots := 0, locals := 89 } g A ty σ [sv_r a, sv_i v1, sv_i y, sv_i f, sv_i t] (fun r σ' => r = [sv_i (fx_wax v1 y f t)] ∧ sv_off [91] ty σ σ') := by
  refine sv_enter (by decide) (Nat.le_of_ble_eq_true rfl) ?_
  intro p e s m args below meth c C hr
  have C : sv_C g A RX11 cX11_wax 7 p s m args meth c := C
  have hr : meth.sig.returnType = (some .int) := hr
  have hF : sv_off [91] ty σ σ := sv_off.rf
  have hlp := dy_lp_in y
  refine sv_same (st2 := []) (lv2 := [(0, sv_r a), (1, sv_i v1), (2, sv_i y), (3, sv_i f), (4, sv_i t)]) rfl rfl ?_
  refine sv_go C.1 C.2.1 [(.aload_n 0, 1), (.iload_n 1, 1), (.iload_n 2, 1), (.iload_n 3, 1)] (pc' := 4) (by decide +kernel) rfl (lv' := [(0, sv_r a), (1, sv_i v1), (2, sv_i y), (3, sv_i f), (4, sv_i t)]) (st' := [sv_i f, sv_i y, sv_i v1, sv_r a]) rfl ?_
  refine sv_cv C (index := 297) (k := 3) (rest := []) (ci := 10) (r := (RX11, TX11, 47)) (by decide +kernel) (ct_X11_isPlaced l g A ty σ hok (v1) ⟨by omega, by omega⟩ (y) ⟨by omega, by omega⟩ (f) ⟨by omega, by omega⟩ a) ⟨co_X11_isPlaced, in_X11, ⟨by decide, by decide, by decide +kernel⟩, Nat.le_of_ble_eq_true rfl, Nat.le_of_ble_eq_true rfl⟩ ml_X11_297 im_X11_isPlaced se_X11_isPlaced (by rw [k_a]; rfl) rfl rfl rfl (Nat.le_of_ble_eq_true rfl) ⟨Nat.zero_le _, Nat.zero_le _⟩ (fun r2 σ3 hpo1 hok4 => ?_)
  obtain ⟨rfl, ⟨h5, rfl⟩ | ⟨h5, rfl⟩⟩ := hpo1
  · refine sv_same (st2 := [sv_i 1]) (lv2 := [(0, sv_r a), (1, sv_i v1), (2, sv_i y), (3, sv_i f), (4, sv_i t)]) rfl rfl ?_
    refine sv_if_f C.1 C.2.1 (cnd := .eq) (off := 18) (tgt := 25) (by decide +kernel) (by decide) ⟨by omega, by omega⟩ (show ¬ (1 = 0) by omega) ?_
    refine sv_go C.1 C.2.1 [(.iload_n 2, 1), (.iload 4, 2)] (pc' := 13) (by decide +kernel) rfl (lv' := [(0, sv_r a), (1, sv_i v1), (2, sv_i y), (3, sv_i f), (4, sv_i t)]) (st' := [sv_i t, sv_i y]) rfl ?_
    refine sv_cs C (index := 37) (k := 2) (rest := []) (by decide +kernel) (ct_X11_isDay l g A ty σ hok4 (y) ⟨by omega, by omega⟩ (t) ⟨by omega, by omega⟩) ⟨co_X11_isDay, in_X11, ⟨by decide, by decide, by decide +kernel⟩, Nat.le_of_ble_eq_true rfl, Nat.le_of_ble_eq_true rfl⟩ ml_X11_37 st_X11_isDay rfl rfl (Nat.le_of_ble_eq_true rfl) ⟨Nat.zero_le _, Nat.zero_le _⟩ (fun r7 σ8 hpo6 hok9 => ?_)
    obtain ⟨rfl, ⟨h10, rfl⟩ | ⟨h10, rfl⟩⟩ := hpo6
    · refine sv_same (st2 := [sv_i 1]) (lv2 := [(0, sv_r a), (1, sv_i v1), (2, sv_i y), (3, sv_i f), (4, sv_i t)]) rfl rfl ?_
      refine sv_if_f C.1 C.2.1 (cnd := .eq) (off := 9) (tgt := 25) (by decide +kernel) (by decide) ⟨by omega, by omega⟩ (show ¬ (1 = 0) by omega) ?_
      refine sv_go C.1 C.2.1 [(.iload_n 3, 1), (.iload 4, 2)] (pc' := 22) (by decide +kernel) rfl (lv' := [(0, sv_r a), (1, sv_i v1), (2, sv_i y), (3, sv_i f), (4, sv_i t)]) (st' := [sv_i t, sv_i f]) rfl ?_
      refine sv_icmp C.1 C.2.1 (cnd := .le) (off := 6) (tgt := 28) (by decide +kernel) (by decide) ⟨by omega, by omega⟩ ⟨by omega, by omega⟩ (fun (h11 : f ≤ t) => ?_) (fun (h11 : ¬ (f ≤ t)) => ?_)
      · refine sv_go C.1 C.2.1 [(.aload_n 0, 1), (.iload_n 1, 1), (.iload_n 2, 1)] (pc' := 31) (by decide +kernel) rfl (lv' := [(0, sv_r a), (1, sv_i v1), (2, sv_i y), (3, sv_i f), (4, sv_i t)]) (st' := [sv_i y, sv_i v1, sv_r a]) rfl ?_
        refine sv_cv C (index := 301) (k := 2) (rest := []) (ci := 10) (r := (RX11, TX11, 47)) (by decide +kernel) (ct_X11_lead l g A ty σ hok9 hTA hI a k_a (v1) ⟨by omega, by omega⟩ (y) ⟨by omega, by omega⟩) ⟨co_X11_lead, in_X11, ⟨by decide, by decide, by decide +kernel⟩, Nat.le_of_ble_eq_true rfl, Nat.le_of_ble_eq_true rfl⟩ ml_X11_301 im_X11_lead se_X11_lead (by rw [k_a]; rfl) rfl rfl rfl (Nat.le_of_ble_eq_true rfl) ⟨Nat.zero_le _, Nat.zero_le _⟩ (fun r13 σ14 hpo12 hok15 => ?_)
        obtain ⟨rfl, hIu16, hFu16, xu16⟩ := hpo12
        have hGu16 := hF.tr hFu16 (by decide)
        refine sv_same (st2 := []) (lv2 := [(0, sv_r a), (1, sv_i v1), (2, sv_i y), (3, sv_i f), (4, sv_i t)]) rfl rfl ?_
        refine sv_go C.1 C.2.1 [(.iconst 0, 1), (.istore 5, 2), (.iload_n 3, 1), (.istore 6, 2)] (pc' := 40) (by decide +kernel) rfl (lv' := [(0, sv_r a), (1, sv_i v1), (2, sv_i y), (3, sv_i f), (4, sv_i t), (5, sv_i 0), (6, sv_i f)]) (st' := []) rfl ?_
        have L17 : ∀ (n : Nat) (N : Int) (X : Int) , (N = 0) → (f ≤ X ∧ X ≤ t + 1) → (t + 1 - X) < (n : Int) → sv_E p l e { frames := 4, cells := 0, slots := 0, locals := 89 } s m args below meth c 7 g A ty (fun r σ' => r = [sv_i (fx_wax v1 y f t)] ∧ sv_off [91] ty σ σ') σ14 40 [(0, sv_r a), (1, sv_i v1), (2, sv_i y), (3, sv_i f), (4, sv_i t), (5, sv_i N), (6, sv_i X)] [] := by
          intro n
          induction n with
          | zero => intro N X  hN hX hmu; exact absurd hmu (by omega)
          | succ n ih18 =>
            intro N X  hN hX hmu
            refine sv_go C.1 C.2.1 [(.iload 6, 2), (.iload 4, 2)] (pc' := 44) (by decide +kernel) rfl (lv' := [(0, sv_r a), (1, sv_i v1), (2, sv_i y), (3, sv_i f), (4, sv_i t), (5, sv_i N), (6, sv_i X)]) (st' := [sv_i t, sv_i X]) rfl ?_
            refine sv_icmp C.1 C.2.1 (cnd := .gt) (off := 21) (tgt := 65) (by decide +kernel) (by decide) ⟨by omega, by omega⟩ ⟨by omega, by omega⟩ (fun (h19 : t < X) => ?_) (fun (h19 : ¬ (t < X)) => ?_)
            · refine sv_go C.1 C.2.1 [(.iload 5, 2)] (pc' := 67) (by decide +kernel) rfl (lv' := [(0, sv_r a), (1, sv_i v1), (2, sv_i y), (3, sv_i f), (4, sv_i t), (5, sv_i N), (6, sv_i X)]) (st' := [sv_i N]) rfl ?_
              exact sv_iret C hr (by decide +kernel) hok15 (⟨congrArg (fun q => [sv_i q]) (by first | omega | (unfold fx_wax; omega)), hGu16⟩)
            · refine sv_go C.1 C.2.1 [(.iload 5, 2), (.aload_n 0, 1), (.iload_n 1, 1), (.iload 6, 2)] (pc' := 53) (by decide +kernel) rfl (lv' := [(0, sv_r a), (1, sv_i v1), (2, sv_i y), (3, sv_i f), (4, sv_i t), (5, sv_i N), (6, sv_i X)]) (st' := [sv_i X, sv_i v1, sv_r a, sv_i N]) rfl ?_
              refine sv_cv C (index := 307) (k := 2) (rest := [sv_i N]) (ci := 10) (r := (RX11, TX11, 47)) (by decide +kernel) (ct_X11_waxOf l g A ty σ14 hok15 hIu16 a k_a (y) ⟨by omega, by omega⟩ xu16 (v1) ⟨by omega, by omega⟩ (X) ⟨by omega, by omega⟩) ⟨co_X11_waxOf, in_X11, ⟨by decide, by decide, by decide +kernel⟩, Nat.le_of_ble_eq_true rfl, Nat.le_of_ble_eq_true rfl⟩ ml_X11_307 im_X11_waxOf se_X11_waxOf (by rw [k_a]; rfl) rfl rfl rfl (Nat.le_of_ble_eq_true rfl) ⟨Nat.zero_le _, Nat.zero_le _⟩ (fun r21 σ22 hpo20 hok23 => ?_)
              obtain ⟨rfl, rfl⟩ := hpo20
              refine sv_same (st2 := [sv_i 0, sv_i N]) (lv2 := [(0, sv_r a), (1, sv_i v1), (2, sv_i y), (3, sv_i f), (4, sv_i t), (5, sv_i N), (6, sv_i X)]) rfl rfl ?_
              refine sv_go C.1 C.2.1 [(.iadd, 1), (.istore 5, 2), (.iinc 6 1, 3)] (pc' := 62) (by decide +kernel) rfl (lv' := [(0, sv_r a), (1, sv_i v1), (2, sv_i y), (3, sv_i f), (4, sv_i t), (5, sv_i (N + 0)), (6, sv_i (X + 1))]) (st' := []) rfl ?_
              refine sv_goto C.1 C.2.1 (off := (-22)) (tgt := 40) (by decide +kernel) (by decide) ?_
              exact ih18 (N + 0) (X + 1)  (by omega) (by omega) (by omega)
        exact L17 (((t + 1 - f : Int)).toNat + 1) 0 f  (by omega) (by omega) (by omega)
      · refine sv_go C.1 C.2.1 [(.bipush (-2), 2)] (pc' := 27) (by decide +kernel) rfl (lv' := [(0, sv_r a), (1, sv_i v1), (2, sv_i y), (3, sv_i f), (4, sv_i t)]) (st' := [sv_i ((-2))]) rfl ?_
        exact sv_iret C hr (by decide +kernel) hok9 (⟨congrArg (fun q => [sv_i q]) (by first | omega | (unfold fx_wax; omega)), hF⟩)
    · refine sv_same (st2 := [sv_i 0]) (lv2 := [(0, sv_r a), (1, sv_i v1), (2, sv_i y), (3, sv_i f), (4, sv_i t)]) rfl rfl ?_
      refine sv_if_t C.1 C.2.1 (cnd := .eq) (off := 9) (tgt := 25) (by decide +kernel) (by decide) ⟨by omega, by omega⟩ (show 0 = 0 by omega) ?_
      refine sv_go C.1 C.2.1 [(.bipush (-2), 2)] (pc' := 27) (by decide +kernel) rfl (lv' := [(0, sv_r a), (1, sv_i v1), (2, sv_i y), (3, sv_i f), (4, sv_i t)]) (st' := [sv_i ((-2))]) rfl ?_
      exact sv_iret C hr (by decide +kernel) hok9 (⟨congrArg (fun q => [sv_i q]) (by first | omega | (unfold fx_wax; omega)), hF⟩)
  · refine sv_same (st2 := [sv_i 0]) (lv2 := [(0, sv_r a), (1, sv_i v1), (2, sv_i y), (3, sv_i f), (4, sv_i t)]) rfl rfl ?_
    refine sv_if_t C.1 C.2.1 (cnd := .eq) (off := 18) (tgt := 25) (by decide +kernel) (by decide) ⟨by omega, by omega⟩ (show 0 = 0 by omega) ?_
    refine sv_go C.1 C.2.1 [(.bipush (-2), 2)] (pc' := 27) (by decide +kernel) rfl (lv' := [(0, sv_r a), (1, sv_i v1), (2, sv_i y), (3, sv_i f), (4, sv_i t)]) (st' := [sv_i ((-2))]) rfl ?_
    exact sv_iret C hr (by decide +kernel) hok4 (⟨congrArg (fun q => [sv_i q]) (by first | omega | (unfold fx_wax; omega)), hF⟩)

theorem cl_X11_310 : Cond.constantLong RX11 310 (8) ∈ lw_good := sv_mem 1406 (by decide +kernel) rfl
set_option maxHeartbeats 4000000 in
set_option maxRecDepth 100000 in
theorem ct_X11_next (l : Launch) (g : sv_G) (A : Nat → Prop) (ty : Nat → Nat) (σ : Nat → Nat → Int) (hok : sv_ok ty σ) (hTA : ∀ q, ty q ≠ 0 → A q) (hI : sv_inv sp_1 ty σ) (hZ : sv_inv sp_0 ty σ) (a : Nat) (k_a : ty a = 10) (v1 : Int) (hv1 : sv_in v1) (y : Int) (hy : sv_in y) (d : Int) (hd : sv_in d) (w1 : Int) (hw1 : sv_in w1) : sv_M l yX11_next cX11_next 7 (some .int) { frames := 4, cells := 0, slots := 0, locals := 89 } g A ty σ [sv_r a, sv_i v1, sv_i y, sv_i d, sv_i w1] (fun r σ' => r = [sv_i (fx_next v1 y d w1)] ∧ sv_off [91] ty σ σ') := by
  refine sv_enter (by decide) (Nat.le_of_ble_eq_true rfl) ?_
  intro p e s m args below meth c C hr
  have C : sv_C g A RX11 cX11_next 7 p s m args meth c := C
  have hr : meth.sig.returnType = (some .int) := hr
  have hF : sv_off [91] ty σ σ := sv_off.rf
  have hlp := dy_lp_in y
  refine sv_same (st2 := []) (lv2 := [(0, sv_r a), (1, sv_i v1), (2, sv_i y), (3, sv_i d), (4, sv_i w1)]) rfl rfl ?_
  refine sv_go C.1 C.2.1 [(.aload_n 0, 1), (.iload_n 1, 1), (.iload_n 2, 1), (.iload_n 3, 1)] (pc' := 4) (by decide +kernel) rfl (lv' := [(0, sv_r a), (1, sv_i v1), (2, sv_i y), (3, sv_i d), (4, sv_i w1)]) (st' := [sv_i d, sv_i y, sv_i v1, sv_r a]) rfl ?_
  refine sv_cv C (index := 297) (k := 3) (rest := []) (ci := 10) (r := (RX11, TX11, 47)) (by decide +kernel) (ct_X11_isPlaced l g A ty σ hok (v1) ⟨by omega, by omega⟩ (y) ⟨by omega, by omega⟩ (d) ⟨by omega, by omega⟩ a) ⟨co_X11_isPlaced, in_X11, ⟨by decide, by decide, by decide +kernel⟩, Nat.le_of_ble_eq_true rfl, Nat.le_of_ble_eq_true rfl⟩ ml_X11_297 im_X11_isPlaced se_X11_isPlaced (by rw [k_a]; rfl) rfl rfl rfl (Nat.le_of_ble_eq_true rfl) ⟨Nat.zero_le _, Nat.zero_le _⟩ (fun r2 σ3 hpo1 hok4 => ?_)
  obtain ⟨rfl, ⟨h5, rfl⟩ | ⟨h5, rfl⟩⟩ := hpo1
  · refine sv_same (st2 := [sv_i 1]) (lv2 := [(0, sv_r a), (1, sv_i v1), (2, sv_i y), (3, sv_i d), (4, sv_i w1)]) rfl rfl ?_
    refine sv_if_f C.1 C.2.1 (cnd := .eq) (off := 16) (tgt := 23) (by decide +kernel) (by decide) ⟨by omega, by omega⟩ (show ¬ (1 = 0) by omega) ?_
    refine sv_go C.1 C.2.1 [(.iload 4, 2)] (pc' := 12) (by decide +kernel) rfl (lv' := [(0, sv_r a), (1, sv_i v1), (2, sv_i y), (3, sv_i d), (4, sv_i w1)]) (st' := [sv_i w1]) rfl ?_
    refine sv_i2l C.1 C.2.1 (by decide +kernel) ⟨by omega, by omega⟩ ?_
    refine sv_go C.1 C.2.1 [(.lconst 1, 1)] (pc' := 14) (by decide +kernel) rfl (lv' := [(0, sv_r a), (1, sv_i v1), (2, sv_i y), (3, sv_i d), (4, sv_i w1)]) (st' := [sv_l 1, sv_l w1]) rfl ?_
    refine sv_ldc2 C (index := 310) (z := 8) (by decide +kernel) cl_X11_310 (by decide) ?_
    refine sv_cs C (index := 9) (k := 3) (rest := []) (by decide +kernel) (ct_X11_in l g A ty σ hok4 (w1) ⟨by omega, by omega⟩ (1) ⟨by omega, by omega⟩ (8) ⟨by omega, by omega⟩) ⟨co_X11_in, in_X11, ⟨by decide, by decide, by decide +kernel⟩, Nat.le_of_ble_eq_true rfl, Nat.le_of_ble_eq_true rfl⟩ ml_X11_9 st_X11_in rfl rfl (Nat.le_of_ble_eq_true rfl) ⟨Nat.zero_le _, Nat.zero_le _⟩ (fun r7 σ8 hpo6 hok9 => ?_)
    obtain ⟨rfl, ⟨h10, rfl⟩ | ⟨h10, rfl⟩⟩ := hpo6
    · refine sv_same (st2 := [sv_i 1]) (lv2 := [(0, sv_r a), (1, sv_i v1), (2, sv_i y), (3, sv_i d), (4, sv_i w1)]) rfl rfl ?_
      refine sv_if_t C.1 C.2.1 (cnd := .ne) (off := 6) (tgt := 26) (by decide +kernel) (by decide) ⟨by omega, by omega⟩ (show 1 ≠ 0 by omega) ?_
      refine sv_go C.1 C.2.1 [(.iload_n 2, 1), (.istore 5, 2)] (pc' := 29) (by decide +kernel) rfl (lv' := [(0, sv_r a), (1, sv_i v1), (2, sv_i y), (3, sv_i d), (4, sv_i w1), (5, sv_i y)]) (st' := []) rfl ?_
      obtain ⟨qo, eqo, kqo⟩ := hI.ref (k := 31) k_a rfl
      have L13 : ∀ (n : Nat) (X : Int) (σ11 : Nat → Nat → Int), (sv_ok ty σ11) → (sv_inv sp_1 ty σ11) → (sv_off [91] ty σ σ11) → (σ11 a 31 = (qo : Int) + 1) → (y ≤ X ∧ X ≤ 2001) → (2001 - X) < (n : Int) → sv_E p l e { frames := 4, cells := 0, slots := 0, locals := 89 } s m args below meth c 7 g A ty (fun r σ' => r = [sv_i (fx_next v1 y d w1)] ∧ sv_off [91] ty σ σ') σ11 29 [(0, sv_r a), (1, sv_i v1), (2, sv_i y), (3, sv_i d), (4, sv_i w1), (5, sv_i X)] [] := by
        intro n
        induction n with
        | zero => intro X σ11 hokc12 hIc12 hFc12 kc12_0 hX hmu; exact absurd hmu (by omega)
        | succ n ih14 =>
          intro X σ11 hokc12 hIc12 hFc12 kc12_0 hX hmu
          refine sv_go C.1 C.2.1 [(.iload 5, 2), (.iload_n 2, 1), (.bipush 30, 2), (.iadd, 1)] (pc' := 35) (by decide +kernel) rfl (lv' := [(0, sv_r a), (1, sv_i v1), (2, sv_i y), (3, sv_i d), (4, sv_i w1), (5, sv_i X)]) (st' := [sv_i (y + 30), sv_i X]) rfl ?_
          refine sv_icmp C.1 C.2.1 (cnd := .ge) (off := 94) (tgt := 129) (by decide +kernel) (by decide) ⟨by omega, by omega⟩ ⟨by omega, by omega⟩ (fun (h15 : (y + 30) ≤ X) => ?_) (fun (h15 : ¬ ((y + 30) ≤ X)) => ?_)
          · refine sv_go C.1 C.2.1 [(.iconst (-1), 1)] (pc' := 130) (by decide +kernel) rfl (lv' := [(0, sv_r a), (1, sv_i v1), (2, sv_i y), (3, sv_i d), (4, sv_i w1), (5, sv_i X)]) (st' := [sv_i ((-1))]) rfl ?_
            exact sv_iret C hr (by decide +kernel) hokc12 (⟨congrArg (fun q => [sv_i q]) (by first | omega | (unfold fx_next; omega)), hFc12⟩)
          · refine sv_go C.1 C.2.1 [(.iload 5, 2), (.sipush 2000, 3)] (pc' := 43) (by decide +kernel) rfl (lv' := [(0, sv_r a), (1, sv_i v1), (2, sv_i y), (3, sv_i d), (4, sv_i w1), (5, sv_i X)]) (st' := [sv_i 2000, sv_i X]) rfl ?_
            refine sv_icmp C.1 C.2.1 (cnd := .gt) (off := 86) (tgt := 129) (by decide +kernel) (by decide) ⟨by omega, by omega⟩ ⟨by omega, by omega⟩ (fun (h16 : 2000 < X) => ?_) (fun (h16 : ¬ (2000 < X)) => ?_)
            · refine sv_go C.1 C.2.1 [(.iconst (-1), 1)] (pc' := 130) (by decide +kernel) rfl (lv' := [(0, sv_r a), (1, sv_i v1), (2, sv_i y), (3, sv_i d), (4, sv_i w1), (5, sv_i X)]) (st' := [sv_i ((-1))]) rfl ?_
              exact sv_iret C hr (by decide +kernel) hokc12 (⟨congrArg (fun q => [sv_i q]) (by first | omega | (unfold fx_next; omega)), hFc12⟩)
            · refine sv_go C.1 C.2.1 [(.aload_n 0, 1), (.iload_n 1, 1), (.iload 5, 2)] (pc' := 50) (by decide +kernel) rfl (lv' := [(0, sv_r a), (1, sv_i v1), (2, sv_i y), (3, sv_i d), (4, sv_i w1), (5, sv_i X)]) (st' := [sv_i X, sv_i v1, sv_r a]) rfl ?_
              refine sv_cv C (index := 301) (k := 2) (rest := []) (ci := 10) (r := (RX11, TX11, 47)) (by decide +kernel) (ct_X11_lead l g A ty σ11 hokc12 hTA hIc12 a k_a (v1) ⟨by omega, by omega⟩ (X) ⟨by omega, by omega⟩) ⟨co_X11_lead, in_X11, ⟨by decide, by decide, by decide +kernel⟩, Nat.le_of_ble_eq_true rfl, Nat.le_of_ble_eq_true rfl⟩ ml_X11_301 im_X11_lead se_X11_lead (by rw [k_a]; rfl) rfl rfl rfl (Nat.le_of_ble_eq_true rfl) ⟨Nat.zero_le _, Nat.zero_le _⟩ (fun r18 σ19 hpo17 hok20 => ?_)
              obtain ⟨rfl, hIu21, hFu21, xu21⟩ := hpo17
              have hGu21 := hFc12.tr hFu21 (by decide)
              have t22 : σ19 a 31 = (qo : Int) + 1 := (hFu21.at k_a (by decide)).trans kc12_0
              refine sv_same (st2 := []) (lv2 := [(0, sv_r a), (1, sv_i v1), (2, sv_i y), (3, sv_i d), (4, sv_i w1), (5, sv_i X)]) rfl rfl ?_
              refine sv_go C.1 C.2.1 [(.iload 5, 2), (.iload_n 2, 1)] (pc' := 56) (by decide +kernel) rfl (lv' := [(0, sv_r a), (1, sv_i v1), (2, sv_i y), (3, sv_i d), (4, sv_i w1), (5, sv_i X)]) (st' := [sv_i y, sv_i X]) rfl ?_
              refine sv_icmp C.1 C.2.1 (cnd := .ne) (off := 7) (tgt := 63) (by decide +kernel) (by decide) ⟨by omega, by omega⟩ ⟨by omega, by omega⟩ (fun (h23 : X ≠ y) => ?_) (fun (h23 : ¬ (X ≠ y)) => ?_)
              · refine sv_go C.1 C.2.1 [(.iconst 0, 1), (.istore 6, 2)] (pc' := 66) (by decide +kernel) rfl (lv' := [(0, sv_r a), (1, sv_i v1), (2, sv_i y), (3, sv_i d), (4, sv_i w1), (5, sv_i X), (6, sv_i 0)]) (st' := []) rfl ?_
                have L24 : ∀ (n : Nat) (Y : Int) , (0 ≤ Y ∧ Y ≤ 366) → (366 - Y) < (n : Int) → sv_E p l e { frames := 4, cells := 0, slots := 0, locals := 89 } s m args below meth c 7 g A ty (fun r σ' => r = [sv_i (fx_next v1 y d w1)] ∧ sv_off [91] ty σ σ') σ19 66 [(0, sv_r a), (1, sv_i v1), (2, sv_i y), (3, sv_i d), (4, sv_i w1), (5, sv_i X), (6, sv_i Y)] [] := by
                  intro n
                  induction n with
                  | zero => intro Y  hY hmu; exact absurd hmu (by omega)
                  | succ n ih25 =>
                    intro Y  hY hmu
                    refine sv_go C.1 C.2.1 [(.iload 6, 2), (.iload 5, 2)] (pc' := 70) (by decide +kernel) rfl (lv' := [(0, sv_r a), (1, sv_i v1), (2, sv_i y), (3, sv_i d), (4, sv_i w1), (5, sv_i X), (6, sv_i Y)]) (st' := [sv_i X, sv_i Y]) rfl ?_
                    refine sv_cs C (index := 16) (k := 1) (rest := [sv_i Y]) (by decide +kernel) (ct_X11_daysOf l g A ty σ19 hok20 (X) ⟨by omega, by omega⟩) ⟨co_X11_daysOf, in_X11, ⟨by decide, by decide, by decide +kernel⟩, Nat.le_of_ble_eq_true rfl, Nat.le_of_ble_eq_true rfl⟩ ml_X11_16 st_X11_daysOf rfl rfl (Nat.le_of_ble_eq_true rfl) ⟨Nat.zero_le _, Nat.zero_le _⟩ (fun r27 σ28 hpo26 hok29 => ?_)
                    obtain ⟨rfl, rfl⟩ := hpo26
                    have hn30 := dy_lp_in X
                    refine sv_same (st2 := [sv_i (365 + dy_lp X), sv_i Y]) (lv2 := [(0, sv_r a), (1, sv_i v1), (2, sv_i y), (3, sv_i d), (4, sv_i w1), (5, sv_i X), (6, sv_i Y)]) rfl rfl ?_
                    refine sv_icmp C.1 C.2.1 (cnd := .ge) (off := 50) (tgt := 123) (by decide +kernel) (by decide) ⟨by omega, by omega⟩ ⟨by omega, by omega⟩ (fun (h31 : (365 + dy_lp X) ≤ Y) => ?_) (fun (h31 : ¬ ((365 + dy_lp X) ≤ Y)) => ?_)
                    · refine sv_go C.1 C.2.1 [(.iinc 5 1, 3)] (pc' := 126) (by decide +kernel) rfl (lv' := [(0, sv_r a), (1, sv_i v1), (2, sv_i y), (3, sv_i d), (4, sv_i w1), (5, sv_i (X + 1)), (6, sv_i Y)]) (st' := []) rfl ?_
                      refine sv_goto C.1 C.2.1 (off := (-97)) (tgt := 29) (by decide +kernel) (by decide) ?_
                      refine sv_pick [0, 1, 2, 3, 4, 5] (lv2 := [(0, sv_r a), (1, sv_i v1), (2, sv_i y), (3, sv_i d), (4, sv_i w1), (5, sv_i (X + 1))]) rfl ?_
                      exact ih14 (X + 1) σ19 hok29 hIu21 hGu21 t22 (by omega) (by omega)
                    · refine sv_go C.1 C.2.1 [(.aload_n 0, 1)] (pc' := 77) (by decide +kernel) rfl (lv' := [(0, sv_r a), (1, sv_i v1), (2, sv_i y), (3, sv_i d), (4, sv_i w1), (5, sv_i X), (6, sv_i Y)]) (st' := [sv_r a]) rfl ?_
                      refine sv_gf C (index := 121) (ci := 10) (k := 31) (r := (RX11, TX11, 47)) (v := sv_r qo) (by decide +kernel) (by rw [k_a]; rfl) rfl (by decide) fl_X11_121 (congrArg sv_a t22) ?_
                      refine sv_go C.1 C.2.1 [(.iload 6, 2)] (pc' := 82) (by decide +kernel) rfl (lv' := [(0, sv_r a), (1, sv_i v1), (2, sv_i y), (3, sv_i d), (4, sv_i w1), (5, sv_i X), (6, sv_i Y)]) (st' := [sv_i Y, sv_r qo]) rfl ?_
                      refine sv_ia C (n := 366) (by decide +kernel) (by rw [kqo]; rfl) (by decide) (by omega) (by omega) ?_
                      rw [show σ19 qo Y.toNat = fx_of X Y from xu21 qo t22 (Y) (by omega) (by omega)]
                      have w32 := fx_of_in X Y
                      refine sv_if_t C.1 C.2.1 (cnd := .lt) (off := 34) (tgt := 117) (by decide +kernel) (by decide) ⟨by omega, by omega⟩ (show (fx_of X Y) < 0 by omega) ?_
                      refine sv_go C.1 C.2.1 [(.iinc 6 1, 3)] (pc' := 120) (by decide +kernel) rfl (lv' := [(0, sv_r a), (1, sv_i v1), (2, sv_i y), (3, sv_i d), (4, sv_i w1), (5, sv_i X), (6, sv_i (Y + 1))]) (st' := []) rfl ?_
                      refine sv_goto C.1 C.2.1 (off := (-54)) (tgt := 66) (by decide +kernel) (by decide) ?_
                      exact ih25 (Y + 1)  (by omega) (by omega)
                exact L24 (((366 - 0 : Int)).toNat + 1) 0  (by omega) (by omega)
              · refine sv_go C.1 C.2.1 [(.iload_n 3, 1)] (pc' := 60) (by decide +kernel) rfl (lv' := [(0, sv_r a), (1, sv_i v1), (2, sv_i y), (3, sv_i d), (4, sv_i w1), (5, sv_i X)]) (st' := [sv_i d]) rfl ?_
                refine sv_goto C.1 C.2.1 (off := 4) (tgt := 64) (by decide +kernel) (by decide) ?_
                refine sv_go C.1 C.2.1 [(.istore 6, 2)] (pc' := 66) (by decide +kernel) rfl (lv' := [(0, sv_r a), (1, sv_i v1), (2, sv_i y), (3, sv_i d), (4, sv_i w1), (5, sv_i X), (6, sv_i d)]) (st' := []) rfl ?_
                have L33 : ∀ (n : Nat) (Y : Int) , (0 ≤ Y ∧ Y ≤ 366) → (366 - Y) < (n : Int) → sv_E p l e { frames := 4, cells := 0, slots := 0, locals := 89 } s m args below meth c 7 g A ty (fun r σ' => r = [sv_i (fx_next v1 y d w1)] ∧ sv_off [91] ty σ σ') σ19 66 [(0, sv_r a), (1, sv_i v1), (2, sv_i y), (3, sv_i d), (4, sv_i w1), (5, sv_i X), (6, sv_i Y)] [] := by
                  intro n
                  induction n with
                  | zero => intro Y  hY hmu; exact absurd hmu (by omega)
                  | succ n ih34 =>
                    intro Y  hY hmu
                    refine sv_go C.1 C.2.1 [(.iload 6, 2), (.iload 5, 2)] (pc' := 70) (by decide +kernel) rfl (lv' := [(0, sv_r a), (1, sv_i v1), (2, sv_i y), (3, sv_i d), (4, sv_i w1), (5, sv_i X), (6, sv_i Y)]) (st' := [sv_i X, sv_i Y]) rfl ?_
                    refine sv_cs C (index := 16) (k := 1) (rest := [sv_i Y]) (by decide +kernel) (ct_X11_daysOf l g A ty σ19 hok20 (X) ⟨by omega, by omega⟩) ⟨co_X11_daysOf, in_X11, ⟨by decide, by decide, by decide +kernel⟩, Nat.le_of_ble_eq_true rfl, Nat.le_of_ble_eq_true rfl⟩ ml_X11_16 st_X11_daysOf rfl rfl (Nat.le_of_ble_eq_true rfl) ⟨Nat.zero_le _, Nat.zero_le _⟩ (fun r36 σ37 hpo35 hok38 => ?_)
                    obtain ⟨rfl, rfl⟩ := hpo35
                    have hn39 := dy_lp_in X
                    refine sv_same (st2 := [sv_i (365 + dy_lp X), sv_i Y]) (lv2 := [(0, sv_r a), (1, sv_i v1), (2, sv_i y), (3, sv_i d), (4, sv_i w1), (5, sv_i X), (6, sv_i Y)]) rfl rfl ?_
                    refine sv_icmp C.1 C.2.1 (cnd := .ge) (off := 50) (tgt := 123) (by decide +kernel) (by decide) ⟨by omega, by omega⟩ ⟨by omega, by omega⟩ (fun (h40 : (365 + dy_lp X) ≤ Y) => ?_) (fun (h40 : ¬ ((365 + dy_lp X) ≤ Y)) => ?_)
                    · refine sv_go C.1 C.2.1 [(.iinc 5 1, 3)] (pc' := 126) (by decide +kernel) rfl (lv' := [(0, sv_r a), (1, sv_i v1), (2, sv_i y), (3, sv_i d), (4, sv_i w1), (5, sv_i (X + 1)), (6, sv_i Y)]) (st' := []) rfl ?_
                      refine sv_goto C.1 C.2.1 (off := (-97)) (tgt := 29) (by decide +kernel) (by decide) ?_
                      refine sv_pick [0, 1, 2, 3, 4, 5] (lv2 := [(0, sv_r a), (1, sv_i v1), (2, sv_i y), (3, sv_i d), (4, sv_i w1), (5, sv_i (X + 1))]) rfl ?_
                      exact ih14 (X + 1) σ19 hok38 hIu21 hGu21 t22 (by omega) (by omega)
                    · refine sv_go C.1 C.2.1 [(.aload_n 0, 1)] (pc' := 77) (by decide +kernel) rfl (lv' := [(0, sv_r a), (1, sv_i v1), (2, sv_i y), (3, sv_i d), (4, sv_i w1), (5, sv_i X), (6, sv_i Y)]) (st' := [sv_r a]) rfl ?_
                      refine sv_gf C (index := 121) (ci := 10) (k := 31) (r := (RX11, TX11, 47)) (v := sv_r qo) (by decide +kernel) (by rw [k_a]; rfl) rfl (by decide) fl_X11_121 (congrArg sv_a t22) ?_
                      refine sv_go C.1 C.2.1 [(.iload 6, 2)] (pc' := 82) (by decide +kernel) rfl (lv' := [(0, sv_r a), (1, sv_i v1), (2, sv_i y), (3, sv_i d), (4, sv_i w1), (5, sv_i X), (6, sv_i Y)]) (st' := [sv_i Y, sv_r qo]) rfl ?_
                      refine sv_ia C (n := 366) (by decide +kernel) (by rw [kqo]; rfl) (by decide) (by omega) (by omega) ?_
                      rw [show σ19 qo Y.toNat = fx_of X Y from xu21 qo t22 (Y) (by omega) (by omega)]
                      have w41 := fx_of_in X Y
                      refine sv_if_t C.1 C.2.1 (cnd := .lt) (off := 34) (tgt := 117) (by decide +kernel) (by decide) ⟨by omega, by omega⟩ (show (fx_of X Y) < 0 by omega) ?_
                      refine sv_go C.1 C.2.1 [(.iinc 6 1, 3)] (pc' := 120) (by decide +kernel) rfl (lv' := [(0, sv_r a), (1, sv_i v1), (2, sv_i y), (3, sv_i d), (4, sv_i w1), (5, sv_i X), (6, sv_i (Y + 1))]) (st' := []) rfl ?_
                      refine sv_goto C.1 C.2.1 (off := (-54)) (tgt := 66) (by decide +kernel) (by decide) ?_
                      exact ih34 (Y + 1)  (by omega) (by omega)
                exact L33 (((366 - d : Int)).toNat + 1) d  (by omega) (by omega)
      exact L13 (((2001 - y : Int)).toNat + 1) y σ hok9 hI hF eqo (by omega) (by omega)
    · refine sv_same (st2 := [sv_i 0]) (lv2 := [(0, sv_r a), (1, sv_i v1), (2, sv_i y), (3, sv_i d), (4, sv_i w1)]) rfl rfl ?_
      refine sv_if_f C.1 C.2.1 (cnd := .ne) (off := 6) (tgt := 26) (by decide +kernel) (by decide) ⟨by omega, by omega⟩ (show ¬ (0 ≠ 0) by omega) ?_
      refine sv_go C.1 C.2.1 [(.bipush (-2), 2)] (pc' := 25) (by decide +kernel) rfl (lv' := [(0, sv_r a), (1, sv_i v1), (2, sv_i y), (3, sv_i d), (4, sv_i w1)]) (st' := [sv_i ((-2))]) rfl ?_
      exact sv_iret C hr (by decide +kernel) hok9 (⟨congrArg (fun q => [sv_i q]) (by first | omega | (unfold fx_next; omega)), hF⟩)
  · refine sv_same (st2 := [sv_i 0]) (lv2 := [(0, sv_r a), (1, sv_i v1), (2, sv_i y), (3, sv_i d), (4, sv_i w1)]) rfl rfl ?_
    refine sv_if_t C.1 C.2.1 (cnd := .eq) (off := 16) (tgt := 23) (by decide +kernel) (by decide) ⟨by omega, by omega⟩ (show 0 = 0 by omega) ?_
    refine sv_go C.1 C.2.1 [(.bipush (-2), 2)] (pc' := 25) (by decide +kernel) rfl (lv' := [(0, sv_r a), (1, sv_i v1), (2, sv_i y), (3, sv_i d), (4, sv_i w1)]) (st' := [sv_i ((-2))]) rfl ?_
    exact sv_iret C hr (by decide +kernel) hok4 (⟨congrArg (fun q => [sv_i q]) (by first | omega | (unfold fx_next; omega)), hF⟩)

theorem fl_X11_124 : Cond.fieldLink RX11 124 "SaintsRoadModel" "otherOffice" "[I" ∈ lw_good := sv_mem 1136 (by decide +kernel) rfl
theorem ml_X11_312 : Cond.methodLink RX11 312 yX11_areLike ∈ lw_good := sv_mem 1411 (by decide +kernel) rfl
theorem co_X11_areLike : Cond.code yX11_areLike cX11_areLike 5 (some .boolean) ∈ lw_good := sv_mem 1414 (by decide +kernel) rfl
theorem im_X11_areLike : Cond.instanceMethod yX11_areLike ∈ lw_good := sv_mem 1413 (by decide +kernel) rfl
theorem se_X11_areLike : Cond.selects RX11 yX11_areLike yX11_areLike ∈ lw_good := sv_mem 65 (by decide +kernel) rfl
set_option maxHeartbeats 4000000 in
set_option maxRecDepth 100000 in
theorem ct_X11_unlike (l : Launch) (g : sv_G) (A : Nat → Prop) (ty : Nat → Nat) (σ : Nat → Nat → Int) (hok : sv_ok ty σ) (hTA : ∀ q, ty q ≠ 0 → A q) (hI : sv_inv sp_1 ty σ) (hZ : sv_inv sp_0 ty σ) (a : Nat) (k_a : ty a = 10) (v1 : Int) (hv1 : sv_in v1) (v2 : Int) (hv2 : sv_in v2) (y : Int) (hy : sv_in y) : sv_M l yX11_unlike cX11_unlike 6 (some .int) { frames := 3, cells := 0, slots := 0, locals := 69 } g A ty σ [sv_r a, sv_i v1, sv_i v2, sv_i y] (fun r σ' => r = [sv_i (fx_unlike v1 v2 y)] ∧ sv_off [91, 92] ty σ σ') := by
  refine sv_enter (by decide) (Nat.le_of_ble_eq_true rfl) ?_
  intro p e s m args below meth c C hr
  have C : sv_C g A RX11 cX11_unlike 6 p s m args meth c := C
  have hr : meth.sig.returnType = (some .int) := hr
  have hF : sv_off [91, 92] ty σ σ := sv_off.rf
  have hlp := dy_lp_in y
  refine sv_same (st2 := []) (lv2 := [(0, sv_r a), (1, sv_i v1), (2, sv_i v2), (3, sv_i y)]) rfl rfl ?_
  refine sv_go C.1 C.2.1 [(.iload_n 1, 1)] (pc' := 1) (by decide +kernel) rfl (lv' := [(0, sv_r a), (1, sv_i v1), (2, sv_i v2), (3, sv_i y)]) (st' := [sv_i v1]) rfl ?_
  refine sv_cs C (index := 277) (k := 1) (rest := []) (by decide +kernel) (ct_X11_isPlace l g A ty σ hok (v1) ⟨by omega, by omega⟩) ⟨co_X11_isPlace, in_X11, ⟨by decide, by decide, by decide +kernel⟩, Nat.le_of_ble_eq_true rfl, Nat.le_of_ble_eq_true rfl⟩ ml_X11_277 st_X11_isPlace rfl rfl (Nat.le_of_ble_eq_true rfl) ⟨Nat.zero_le _, Nat.zero_le _⟩ (fun r2 σ3 hpo1 hok4 => ?_)
  obtain ⟨rfl, ⟨h5, rfl⟩ | ⟨h5, rfl⟩⟩ := hpo1
  · refine sv_same (st2 := [sv_i 1]) (lv2 := [(0, sv_r a), (1, sv_i v1), (2, sv_i v2), (3, sv_i y)]) rfl rfl ?_
    refine sv_if_f C.1 C.2.1 (cnd := .eq) (off := 17) (tgt := 21) (by decide +kernel) (by decide) ⟨by omega, by omega⟩ (show ¬ (1 = 0) by omega) ?_
    refine sv_go C.1 C.2.1 [(.iload_n 2, 1)] (pc' := 8) (by decide +kernel) rfl (lv' := [(0, sv_r a), (1, sv_i v1), (2, sv_i v2), (3, sv_i y)]) (st' := [sv_i v2]) rfl ?_
    refine sv_cs C (index := 277) (k := 1) (rest := []) (by decide +kernel) (ct_X11_isPlace l g A ty σ hok4 (v2) ⟨by omega, by omega⟩) ⟨co_X11_isPlace, in_X11, ⟨by decide, by decide, by decide +kernel⟩, Nat.le_of_ble_eq_true rfl, Nat.le_of_ble_eq_true rfl⟩ ml_X11_277 st_X11_isPlace rfl rfl (Nat.le_of_ble_eq_true rfl) ⟨Nat.zero_le _, Nat.zero_le _⟩ (fun r7 σ8 hpo6 hok9 => ?_)
    obtain ⟨rfl, ⟨h10, rfl⟩ | ⟨h10, rfl⟩⟩ := hpo6
    · refine sv_same (st2 := [sv_i 1]) (lv2 := [(0, sv_r a), (1, sv_i v1), (2, sv_i v2), (3, sv_i y)]) rfl rfl ?_
      refine sv_if_f C.1 C.2.1 (cnd := .eq) (off := 10) (tgt := 21) (by decide +kernel) (by decide) ⟨by omega, by omega⟩ (show ¬ (1 = 0) by omega) ?_
      refine sv_go C.1 C.2.1 [(.iload_n 3, 1)] (pc' := 15) (by decide +kernel) rfl (lv' := [(0, sv_r a), (1, sv_i v1), (2, sv_i v2), (3, sv_i y)]) (st' := [sv_i y]) rfl ?_
      refine sv_cs C (index := 13) (k := 1) (rest := []) (by decide +kernel) (ct_X11_isYear l g A ty σ hok9 (y) ⟨by omega, by omega⟩) ⟨co_X11_isYear, in_X11, ⟨by decide, by decide, by decide +kernel⟩, Nat.le_of_ble_eq_true rfl, Nat.le_of_ble_eq_true rfl⟩ ml_X11_13 st_X11_isYear rfl rfl (Nat.le_of_ble_eq_true rfl) ⟨Nat.zero_le _, Nat.zero_le _⟩ (fun r12 σ13 hpo11 hok14 => ?_)
      obtain ⟨rfl, ⟨h15, rfl⟩ | ⟨h15, rfl⟩⟩ := hpo11
      · refine sv_same (st2 := [sv_i 1]) (lv2 := [(0, sv_r a), (1, sv_i v1), (2, sv_i v2), (3, sv_i y)]) rfl rfl ?_
        refine sv_if_t C.1 C.2.1 (cnd := .ne) (off := 6) (tgt := 24) (by decide +kernel) (by decide) ⟨by omega, by omega⟩ (show 1 ≠ 0 by omega) ?_
        refine sv_go C.1 C.2.1 [(.aload_n 0, 1), (.iload_n 2, 1), (.iload_n 3, 1)] (pc' := 27) (by decide +kernel) rfl (lv' := [(0, sv_r a), (1, sv_i v1), (2, sv_i v2), (3, sv_i y)]) (st' := [sv_i y, sv_i v2, sv_r a]) rfl ?_
        refine sv_cv C (index := 301) (k := 2) (rest := []) (ci := 10) (r := (RX11, TX11, 47)) (by decide +kernel) (ct_X11_lead l g A ty σ hok14 hTA hI a k_a (v2) ⟨by omega, by omega⟩ (y) ⟨by omega, by omega⟩) ⟨co_X11_lead, in_X11, ⟨by decide, by decide, by decide +kernel⟩, Nat.le_of_ble_eq_true rfl, Nat.le_of_ble_eq_true rfl⟩ ml_X11_301 im_X11_lead se_X11_lead (by rw [k_a]; rfl) rfl rfl rfl (Nat.le_of_ble_eq_true rfl) ⟨Nat.zero_le _, Nat.zero_le _⟩ (fun r17 σ18 hpo16 hok19 => ?_)
        obtain ⟨rfl, hIu20, hFu20, xu20⟩ := hpo16
        have hGu20 := hF.tr hFu20 (by decide)
        refine sv_same (st2 := []) (lv2 := [(0, sv_r a), (1, sv_i v1), (2, sv_i v2), (3, sv_i y)]) rfl rfl ?_
        refine sv_go C.1 C.2.1 [(.iconst 0, 1), (.istore 4, 2)] (pc' := 33) (by decide +kernel) rfl (lv' := [(0, sv_r a), (1, sv_i v1), (2, sv_i v2), (3, sv_i y), (4, sv_i 0)]) (st' := []) rfl ?_
        obtain ⟨qc, eqc, kqc⟩ := hIu20.ref (k := 32) k_a rfl
        obtain ⟨qo, eqo, kqo⟩ := hIu20.ref (k := 31) k_a rfl
        have L23 : ∀ (n : Nat) (X : Int) (σ21 : Nat → Nat → Int), (sv_ok ty σ21) → (sv_inv sp_1 ty σ21) → (sv_off [91, 92] ty σ σ21) → (σ21 a 32 = (qc : Int) + 1) → (σ21 a 31 = (qo : Int) + 1) → (0 ≤ X ∧ X ≤ 365 + dy_lp y) → (∀ i : Int, 0 ≤ i → i < X → σ21 qc i.toNat = fx_of y i) → (md_of σ21 a 31 y) → (365 + dy_lp y - X) < (n : Int) → sv_E p l e { frames := 3, cells := 0, slots := 0, locals := 69 } s m args below meth c 6 g A ty (fun r σ' => r = [sv_i (fx_unlike v1 v2 y)] ∧ sv_off [91, 92] ty σ σ') σ21 33 [(0, sv_r a), (1, sv_i v1), (2, sv_i v2), (3, sv_i y), (4, sv_i X)] [] := by
          intro n
          induction n with
          | zero => intro X σ21 hokc22 hIc22 hFc22 kc22_0 kc22_1 hX hC hM1 hmu; exact absurd hmu (by omega)
          | succ n ih24 =>
            intro X σ21 hokc22 hIc22 hFc22 kc22_0 kc22_1 hX hC hM1 hmu
            refine sv_go C.1 C.2.1 [(.iload 4, 2), (.iload_n 3, 1)] (pc' := 36) (by decide +kernel) rfl (lv' := [(0, sv_r a), (1, sv_i v1), (2, sv_i v2), (3, sv_i y), (4, sv_i X)]) (st' := [sv_i y, sv_i X]) rfl ?_
            refine sv_cs C (index := 16) (k := 1) (rest := [sv_i X]) (by decide +kernel) (ct_X11_daysOf l g A ty σ21 hokc22 (y) ⟨by omega, by omega⟩) ⟨co_X11_daysOf, in_X11, ⟨by decide, by decide, by decide +kernel⟩, Nat.le_of_ble_eq_true rfl, Nat.le_of_ble_eq_true rfl⟩ ml_X11_16 st_X11_daysOf rfl rfl (Nat.le_of_ble_eq_true rfl) ⟨Nat.zero_le _, Nat.zero_le _⟩ (fun r26 σ27 hpo25 hok28 => ?_)
            obtain ⟨rfl, rfl⟩ := hpo25
            have hn29 := dy_lp_in y
            refine sv_same (st2 := [sv_i (365 + dy_lp y), sv_i X]) (lv2 := [(0, sv_r a), (1, sv_i v1), (2, sv_i v2), (3, sv_i y), (4, sv_i X)]) rfl rfl ?_
            refine sv_icmp C.1 C.2.1 (cnd := .ge) (off := 23) (tgt := 62) (by decide +kernel) (by decide) ⟨by omega, by omega⟩ ⟨by omega, by omega⟩ (fun (h30 : (365 + dy_lp y) ≤ X) => ?_) (fun (h30 : ¬ ((365 + dy_lp y) ≤ X)) => ?_)
            · have hC2 : ∀ i : Int, 0 ≤ i → i < 365 + dy_lp y → σ21 qc i.toNat = fx_of y i := fun i h1 h2 => hC i h1 (by omega)
              refine sv_go C.1 C.2.1 [(.aload_n 0, 1), (.iload_n 1, 1), (.iload_n 3, 1)] (pc' := 65) (by decide +kernel) rfl (lv' := [(0, sv_r a), (1, sv_i v1), (2, sv_i v2), (3, sv_i y), (4, sv_i X)]) (st' := [sv_i y, sv_i v1, sv_r a]) rfl ?_
              refine sv_cv C (index := 301) (k := 2) (rest := []) (ci := 10) (r := (RX11, TX11, 47)) (by decide +kernel) (ct_X11_lead l g A ty σ21 hok28 hTA hIc22 a k_a (v1) ⟨by omega, by omega⟩ (y) ⟨by omega, by omega⟩) ⟨co_X11_lead, in_X11, ⟨by decide, by decide, by decide +kernel⟩, Nat.le_of_ble_eq_true rfl, Nat.le_of_ble_eq_true rfl⟩ ml_X11_301 im_X11_lead se_X11_lead (by rw [k_a]; rfl) rfl rfl rfl (Nat.le_of_ble_eq_true rfl) ⟨Nat.zero_le _, Nat.zero_le _⟩ (fun r32 σ33 hpo31 hok34 => ?_)
              obtain ⟨rfl, hIu35, hFu35, xu35⟩ := hpo31
              have hGu35 := hFc22.tr hFu35 (by decide)
              have t36 : σ33 a 32 = (qc : Int) + 1 := (hFu35.at k_a (by decide)).trans kc22_0
              have t37 : σ33 a 31 = (qo : Int) + 1 := (hFu35.at k_a (by decide)).trans kc22_1
              have m238 : ∀ i : Int, 0 ≤ i → i < 365 + dy_lp y → σ33 qc i.toNat = fx_of y i := fun i h1 h2 => by rw [hFu35.at kqc (by decide)]; exact hC2 i h1 h2
              refine sv_same (st2 := []) (lv2 := [(0, sv_r a), (1, sv_i v1), (2, sv_i v2), (3, sv_i y), (4, sv_i X)]) rfl rfl ?_
              refine sv_go C.1 C.2.1 [(.iconst 0, 1), (.istore 4, 2), (.iconst 0, 1), (.istore 5, 2)] (pc' := 74) (by decide +kernel) rfl (lv' := [(0, sv_r a), (1, sv_i v1), (2, sv_i v2), (3, sv_i y), (4, sv_i 0), (5, sv_i 0)]) (st' := []) rfl ?_
              have L39 : ∀ (n : Nat) (N : Int) (Y : Int) , (N = 0) → (0 ≤ Y ∧ Y ≤ 365 + dy_lp y) → (365 + dy_lp y - Y) < (n : Int) → sv_E p l e { frames := 3, cells := 0, slots := 0, locals := 69 } s m args below meth c 6 g A ty (fun r σ' => r = [sv_i (fx_unlike v1 v2 y)] ∧ sv_off [91, 92] ty σ σ') σ33 74 [(0, sv_r a), (1, sv_i v1), (2, sv_i v2), (3, sv_i y), (4, sv_i N), (5, sv_i Y)] [] := by
                intro n
                induction n with
                | zero => intro N Y  hN hY hmu; exact absurd hmu (by omega)
                | succ n ih40 =>
                  intro N Y  hN hY hmu
                  refine sv_go C.1 C.2.1 [(.iload 5, 2), (.iload_n 3, 1)] (pc' := 77) (by decide +kernel) rfl (lv' := [(0, sv_r a), (1, sv_i v1), (2, sv_i v2), (3, sv_i y), (4, sv_i N), (5, sv_i Y)]) (st' := [sv_i y, sv_i Y]) rfl ?_
                  refine sv_cs C (index := 16) (k := 1) (rest := [sv_i Y]) (by decide +kernel) (ct_X11_daysOf l g A ty σ33 hok34 (y) ⟨by omega, by omega⟩) ⟨co_X11_daysOf, in_X11, ⟨by decide, by decide, by decide +kernel⟩, Nat.le_of_ble_eq_true rfl, Nat.le_of_ble_eq_true rfl⟩ ml_X11_16 st_X11_daysOf rfl rfl (Nat.le_of_ble_eq_true rfl) ⟨Nat.zero_le _, Nat.zero_le _⟩ (fun r42 σ43 hpo41 hok44 => ?_)
                  obtain ⟨rfl, rfl⟩ := hpo41
                  have hn45 := dy_lp_in y
                  refine sv_same (st2 := [sv_i (365 + dy_lp y), sv_i Y]) (lv2 := [(0, sv_r a), (1, sv_i v1), (2, sv_i v2), (3, sv_i y), (4, sv_i N), (5, sv_i Y)]) rfl rfl ?_
                  refine sv_icmp C.1 C.2.1 (cnd := .ge) (off := 42) (tgt := 122) (by decide +kernel) (by decide) ⟨by omega, by omega⟩ ⟨by omega, by omega⟩ (fun (h46 : (365 + dy_lp y) ≤ Y) => ?_) (fun (h46 : ¬ ((365 + dy_lp y) ≤ Y)) => ?_)
                  · refine sv_go C.1 C.2.1 [(.iload 4, 2)] (pc' := 124) (by decide +kernel) rfl (lv' := [(0, sv_r a), (1, sv_i v1), (2, sv_i v2), (3, sv_i y), (4, sv_i N), (5, sv_i Y)]) (st' := [sv_i N]) rfl ?_
                    exact sv_iret C hr (by decide +kernel) hok44 (⟨congrArg (fun q => [sv_i q]) (by first | omega | (unfold fx_unlike; omega)), hGu35⟩)
                  · refine sv_go C.1 C.2.1 [(.iload 4, 2), (.aload_n 0, 1), (.iload_n 1, 1), (.aload_n 0, 1)] (pc' := 88) (by decide +kernel) rfl (lv' := [(0, sv_r a), (1, sv_i v1), (2, sv_i v2), (3, sv_i y), (4, sv_i N), (5, sv_i Y)]) (st' := [sv_r a, sv_i v1, sv_r a, sv_i N]) rfl ?_
                    refine sv_gf C (index := 121) (ci := 10) (k := 31) (r := (RX11, TX11, 47)) (v := sv_r qo) (by decide +kernel) (by rw [k_a]; rfl) rfl (by decide) fl_X11_121 (congrArg sv_a t37) ?_
                    refine sv_go C.1 C.2.1 [(.iload 5, 2)] (pc' := 93) (by decide +kernel) rfl (lv' := [(0, sv_r a), (1, sv_i v1), (2, sv_i v2), (3, sv_i y), (4, sv_i N), (5, sv_i Y)]) (st' := [sv_i Y, sv_r qo, sv_i v1, sv_r a, sv_i N]) rfl ?_
                    refine sv_ia C (n := 366) (by decide +kernel) (by rw [kqo]; rfl) (by decide) (by omega) (by omega) ?_
                    rw [show σ33 qo Y.toNat = fx_of y Y from xu35 qo t37 (Y) (by omega) (by omega)]
                    have w47 := fx_of_in y Y
                    refine sv_go C.1 C.2.1 [(.iload_n 2, 1), (.aload_n 0, 1)] (pc' := 96) (by decide +kernel) rfl (lv' := [(0, sv_r a), (1, sv_i v1), (2, sv_i v2), (3, sv_i y), (4, sv_i N), (5, sv_i Y)]) (st' := [sv_r a, sv_i v2, sv_i (fx_of y Y), sv_i v1, sv_r a, sv_i N]) rfl ?_
                    refine sv_gf C (index := 124) (ci := 10) (k := 32) (r := (RX11, TX11, 47)) (v := sv_r qc) (by decide +kernel) (by rw [k_a]; rfl) rfl (by decide) fl_X11_124 (congrArg sv_a t36) ?_
                    refine sv_go C.1 C.2.1 [(.iload 5, 2)] (pc' := 101) (by decide +kernel) rfl (lv' := [(0, sv_r a), (1, sv_i v1), (2, sv_i v2), (3, sv_i y), (4, sv_i N), (5, sv_i Y)]) (st' := [sv_i Y, sv_r qc, sv_i v2, sv_i (fx_of y Y), sv_i v1, sv_r a, sv_i N]) rfl ?_
                    refine sv_ia C (n := 366) (by decide +kernel) (by rw [kqc]; rfl) (by decide) (by omega) (by omega) ?_
                    rw [show σ33 qc Y.toNat = fx_of y Y from m238 (Y) (by omega) (by omega)]
                    have w48 := fx_of_in y Y
                    refine sv_cv C (index := 312) (k := 4) (rest := [sv_i N]) (ci := 10) (r := (RX11, TX11, 47)) (by decide +kernel) (ct_X11_areLike l g A ty σ33 hok44 a (v1) (fx_of y Y) (v2) ⟨by omega, by omega⟩) ⟨co_X11_areLike, in_X11, ⟨by decide, by decide, by decide +kernel⟩, Nat.le_of_ble_eq_true rfl, Nat.le_of_ble_eq_true rfl⟩ ml_X11_312 im_X11_areLike se_X11_areLike (by rw [k_a]; rfl) rfl rfl rfl (Nat.le_of_ble_eq_true rfl) ⟨Nat.zero_le _, Nat.zero_le _⟩ (fun r50 σ51 hpo49 hok52 => ?_)
                    obtain ⟨rfl, rfl⟩ := hpo49
                    refine sv_same (st2 := [sv_i 1, sv_i N]) (lv2 := [(0, sv_r a), (1, sv_i v1), (2, sv_i v2), (3, sv_i y), (4, sv_i N), (5, sv_i Y)]) rfl rfl ?_
                    refine sv_if_f C.1 C.2.1 (cnd := .eq) (off := 7) (tgt := 112) (by decide +kernel) (by decide) ⟨by omega, by omega⟩ (show ¬ (1 = 0) by omega) ?_
                    refine sv_go C.1 C.2.1 [(.iconst 0, 1)] (pc' := 109) (by decide +kernel) rfl (lv' := [(0, sv_r a), (1, sv_i v1), (2, sv_i v2), (3, sv_i y), (4, sv_i N), (5, sv_i Y)]) (st' := [sv_i 0, sv_i N]) rfl ?_
                    refine sv_goto C.1 C.2.1 (off := 4) (tgt := 113) (by decide +kernel) (by decide) ?_
                    refine sv_go C.1 C.2.1 [(.iadd, 1), (.istore 4, 2), (.iinc 5 1, 3)] (pc' := 119) (by decide +kernel) rfl (lv' := [(0, sv_r a), (1, sv_i v1), (2, sv_i v2), (3, sv_i y), (4, sv_i (N + 0)), (5, sv_i (Y + 1))]) (st' := []) rfl ?_
                    refine sv_goto C.1 C.2.1 (off := (-45)) (tgt := 74) (by decide +kernel) (by decide) ?_
                    exact ih40 (N + 0) (Y + 1)  (by omega) (by omega) (by omega)
              exact L39 (((365 + dy_lp y - 0 : Int)).toNat + 1) 0 0  (by omega) (by omega) (by omega)
            · refine sv_go C.1 C.2.1 [(.aload_n 0, 1)] (pc' := 43) (by decide +kernel) rfl (lv' := [(0, sv_r a), (1, sv_i v1), (2, sv_i v2), (3, sv_i y), (4, sv_i X)]) (st' := [sv_r a]) rfl ?_
              refine sv_gf C (index := 124) (ci := 10) (k := 32) (r := (RX11, TX11, 47)) (v := sv_r qc) (by decide +kernel) (by rw [k_a]; rfl) rfl (by decide) fl_X11_124 (congrArg sv_a kc22_0) ?_
              refine sv_go C.1 C.2.1 [(.iload 4, 2), (.aload_n 0, 1)] (pc' := 49) (by decide +kernel) rfl (lv' := [(0, sv_r a), (1, sv_i v1), (2, sv_i v2), (3, sv_i y), (4, sv_i X)]) (st' := [sv_r a, sv_i X, sv_r qc]) rfl ?_
              refine sv_gf C (index := 121) (ci := 10) (k := 31) (r := (RX11, TX11, 47)) (v := sv_r qo) (by decide +kernel) (by rw [k_a]; rfl) rfl (by decide) fl_X11_121 (congrArg sv_a kc22_1) ?_
              refine sv_go C.1 C.2.1 [(.iload 4, 2)] (pc' := 54) (by decide +kernel) rfl (lv' := [(0, sv_r a), (1, sv_i v1), (2, sv_i v2), (3, sv_i y), (4, sv_i X)]) (st' := [sv_i X, sv_r qo, sv_i X, sv_r qc]) rfl ?_
              refine sv_ia C (n := 366) (by decide +kernel) (by rw [kqo]; rfl) (by decide) (by omega) (by omega) ?_
              rw [show σ21 qo X.toNat = fx_of y X from hM1 qo kc22_1 (X) (by omega) (by omega)]
              have w53 := fx_of_in y X
              refine sv_is C (n := 366) (by decide +kernel) (by rw [kqc]; rfl) (by decide) (by omega) (by omega) ⟨by omega, by omega⟩ (hTA _ (by rw [kqc]; decide)) hok28 (fun hok54 => ?_)
              have hI56 := hIc22.up (a := qc) (k := (X : Int).toNat) (z := fx_of y X) (by rw [kqc]; exact trivial)
              have hF57 := hFc22.up (a := qc) (k := (X : Int).toNat) (z := fx_of y X) (by rw [kqc]; decide)
              generalize eσ55 : sv_up σ21 qc (X : Int).toNat (fx_of y X) = σ55 at hok54 hI56 hF57 ⊢
              have t58 : σ55 a 32 = (qc : Int) + 1 := by rw [← eσ55, sv_up_a (sv_ne k_a kqc (by decide))]; exact kc22_0
              have t59 : σ55 a 31 = (qo : Int) + 1 := by rw [← eσ55, sv_up_a (sv_ne k_a kqc (by decide))]; exact kc22_1
              refine sv_go C.1 C.2.1 [(.iinc 4 1, 3)] (pc' := 59) (by decide +kernel) rfl (lv' := [(0, sv_r a), (1, sv_i v1), (2, sv_i v2), (3, sv_i y), (4, sv_i (X + 1))]) (st' := []) rfl ?_
              refine sv_goto C.1 C.2.1 (off := (-26)) (tgt := 33) (by decide +kernel) (by decide) ?_
              exact ih24 (X + 1) σ55 hok54 hI56 hF57 t58 t59 (by omega) (by rw [← eσ55]; exact md_step hC rfl (by omega)) (fun h hh i h1 h2 => by have hb : h = qo := (by have q := t59; omega); rw [hb, ← eσ55, sv_up_a (sv_ne kqo kqc (by decide))]; exact hM1 qo (by have q := t59; rw [← eσ55, sv_up_a (sv_ne k_a kqc (by decide))] at q; exact q) i h1 h2) (by omega)
        exact L23 (((365 + dy_lp y - 0 : Int)).toNat + 1) 0 σ18 hok19 hIu20 hGu20 eqc eqo (by omega) (fun i h1 h2 => absurd h2 (by omega)) xu20 (by omega)
      · refine sv_same (st2 := [sv_i 0]) (lv2 := [(0, sv_r a), (1, sv_i v1), (2, sv_i v2), (3, sv_i y)]) rfl rfl ?_
        refine sv_if_f C.1 C.2.1 (cnd := .ne) (off := 6) (tgt := 24) (by decide +kernel) (by decide) ⟨by omega, by omega⟩ (show ¬ (0 ≠ 0) by omega) ?_
        refine sv_go C.1 C.2.1 [(.bipush (-2), 2)] (pc' := 23) (by decide +kernel) rfl (lv' := [(0, sv_r a), (1, sv_i v1), (2, sv_i v2), (3, sv_i y)]) (st' := [sv_i ((-2))]) rfl ?_
        exact sv_iret C hr (by decide +kernel) hok14 (⟨congrArg (fun q => [sv_i q]) (by first | omega | (unfold fx_unlike; omega)), hF⟩)
    · refine sv_same (st2 := [sv_i 0]) (lv2 := [(0, sv_r a), (1, sv_i v1), (2, sv_i v2), (3, sv_i y)]) rfl rfl ?_
      refine sv_if_t C.1 C.2.1 (cnd := .eq) (off := 10) (tgt := 21) (by decide +kernel) (by decide) ⟨by omega, by omega⟩ (show 0 = 0 by omega) ?_
      refine sv_go C.1 C.2.1 [(.bipush (-2), 2)] (pc' := 23) (by decide +kernel) rfl (lv' := [(0, sv_r a), (1, sv_i v1), (2, sv_i v2), (3, sv_i y)]) (st' := [sv_i ((-2))]) rfl ?_
      exact sv_iret C hr (by decide +kernel) hok9 (⟨congrArg (fun q => [sv_i q]) (by first | omega | (unfold fx_unlike; omega)), hF⟩)
  · refine sv_same (st2 := [sv_i 0]) (lv2 := [(0, sv_r a), (1, sv_i v1), (2, sv_i v2), (3, sv_i y)]) rfl rfl ?_
    refine sv_if_t C.1 C.2.1 (cnd := .eq) (off := 17) (tgt := 21) (by decide +kernel) (by decide) ⟨by omega, by omega⟩ (show 0 = 0 by omega) ?_
    refine sv_go C.1 C.2.1 [(.bipush (-2), 2)] (pc' := 23) (by decide +kernel) rfl (lv' := [(0, sv_r a), (1, sv_i v1), (2, sv_i v2), (3, sv_i y)]) (st' := [sv_i ((-2))]) rfl ?_
    exact sv_iret C hr (by decide +kernel) hok4 (⟨congrArg (fun q => [sv_i q]) (by first | omega | (unfold fx_unlike; omega)), hF⟩)

theorem cl_X11_319 : Cond.constantLong RX11 319 (1023) ∈ lw_good := sv_mem 1426 (by decide +kernel) rfl
theorem ci_X11_324 : Cond.constant RX11 324 (-268435456) ∈ lw_good := sv_mem 1427 (by decide +kernel) rfl
theorem fl_X11_145 : Cond.fieldLink RX11 145 "SaintsRoadModel" "lastTurn" "[I" ∈ lw_good := sv_mem 1143 (by decide +kernel) rfl
set_option maxHeartbeats 4000000 in
set_option maxRecDepth 100000 in
theorem ct_X11_rota (l : Launch) (g : sv_G) (A : Nat → Prop) (ty : Nat → Nat) (σ : Nat → Nat → Int) (hok : sv_ok ty σ) (hTA : ∀ q, ty q ≠ 0 → A q) (hI : sv_inv sp_1 ty σ) (hZ : sv_inv sp_0 ty σ) (a : Nat) (k_a : ty a = 10) (v1 : Int) (hv1 : sv_in v1) (f : Int) (hf : sv_in f) (t : Int) (ht : sv_in t) (v4 : Int) (hv4 : sv_in v4) (v5 : Int) (hv5 : sv_in v5) : sv_M l yX11_rota cX11_rota 12 (some .int) { frames := 3, cells := 0, slots := 0, locals := 69 } g A ty σ [sv_r a, sv_i v1, sv_i f, sv_i t, sv_i v4, sv_i v5] (fun r σ' => r = [sv_i (fx_rota v1 f t v4 v5)] ∧ sv_off [10, 91, 98, 99] ty σ σ') := by
  refine sv_enter (by decide) (Nat.le_of_ble_eq_true rfl) ?_
  intro p e s m args below meth c C hr
  have C : sv_C g A RX11 cX11_rota 12 p s m args meth c := C
  have hr : meth.sig.returnType = (some .int) := hr
  have hF : sv_off [10, 91, 98, 99] ty σ σ := sv_off.rf
  refine sv_same (st2 := []) (lv2 := [(0, sv_r a), (1, sv_i v1), (2, sv_i f), (3, sv_i t), (4, sv_i v4), (5, sv_i v5)]) rfl rfl ?_
  refine sv_go C.1 C.2.1 [(.iload_n 1, 1)] (pc' := 1) (by decide +kernel) rfl (lv' := [(0, sv_r a), (1, sv_i v1), (2, sv_i f), (3, sv_i t), (4, sv_i v4), (5, sv_i v5)]) (st' := [sv_i v1]) rfl ?_
  refine sv_cs C (index := 277) (k := 1) (rest := []) (by decide +kernel) (ct_X11_isPlace l g A ty σ hok (v1) ⟨by omega, by omega⟩) ⟨co_X11_isPlace, in_X11, ⟨by decide, by decide, by decide +kernel⟩, Nat.le_of_ble_eq_true rfl, Nat.le_of_ble_eq_true rfl⟩ ml_X11_277 st_X11_isPlace rfl rfl (Nat.le_of_ble_eq_true rfl) ⟨Nat.zero_le _, Nat.zero_le _⟩ (fun r2 σ3 hpo1 hok4 => ?_)
  obtain ⟨rfl, ⟨h5, rfl⟩ | ⟨h5, rfl⟩⟩ := hpo1
  · refine sv_same (st2 := [sv_i 1]) (lv2 := [(0, sv_r a), (1, sv_i v1), (2, sv_i f), (3, sv_i t), (4, sv_i v4), (5, sv_i v5)]) rfl rfl ?_
    refine sv_if_f C.1 C.2.1 (cnd := .eq) (off := 57) (tgt := 61) (by decide +kernel) (by decide) ⟨by omega, by omega⟩ (show ¬ (1 = 0) by omega) ?_
    refine sv_go C.1 C.2.1 [(.iload_n 2, 1)] (pc' := 8) (by decide +kernel) rfl (lv' := [(0, sv_r a), (1, sv_i v1), (2, sv_i f), (3, sv_i t), (4, sv_i v4), (5, sv_i v5)]) (st' := [sv_i f]) rfl ?_
    refine sv_cs C (index := 13) (k := 1) (rest := []) (by decide +kernel) (ct_X11_isYear l g A ty σ hok4 (f) ⟨by omega, by omega⟩) ⟨co_X11_isYear, in_X11, ⟨by decide, by decide, by decide +kernel⟩, Nat.le_of_ble_eq_true rfl, Nat.le_of_ble_eq_true rfl⟩ ml_X11_13 st_X11_isYear rfl rfl (Nat.le_of_ble_eq_true rfl) ⟨Nat.zero_le _, Nat.zero_le _⟩ (fun r7 σ8 hpo6 hok9 => ?_)
    obtain ⟨rfl, ⟨h10, rfl⟩ | ⟨h10, rfl⟩⟩ := hpo6
    · refine sv_same (st2 := [sv_i 1]) (lv2 := [(0, sv_r a), (1, sv_i v1), (2, sv_i f), (3, sv_i t), (4, sv_i v4), (5, sv_i v5)]) rfl rfl ?_
      refine sv_if_f C.1 C.2.1 (cnd := .eq) (off := 50) (tgt := 61) (by decide +kernel) (by decide) ⟨by omega, by omega⟩ (show ¬ (1 = 0) by omega) ?_
      refine sv_go C.1 C.2.1 [(.iload_n 3, 1)] (pc' := 15) (by decide +kernel) rfl (lv' := [(0, sv_r a), (1, sv_i v1), (2, sv_i f), (3, sv_i t), (4, sv_i v4), (5, sv_i v5)]) (st' := [sv_i t]) rfl ?_
      refine sv_i2l C.1 C.2.1 (by decide +kernel) ⟨by omega, by omega⟩ ?_
      refine sv_go C.1 C.2.1 [(.iload_n 2, 1)] (pc' := 17) (by decide +kernel) rfl (lv' := [(0, sv_r a), (1, sv_i v1), (2, sv_i f), (3, sv_i t), (4, sv_i v4), (5, sv_i v5)]) (st' := [sv_i f, sv_l t]) rfl ?_
      refine sv_i2l C.1 C.2.1 (by decide +kernel) ⟨by omega, by omega⟩ ?_
      refine sv_ldc2 C (index := 7) (z := 2000) (by decide +kernel) cl_X11_7 (by decide) ?_
      refine sv_cs C (index := 9) (k := 3) (rest := []) (by decide +kernel) (ct_X11_in l g A ty σ hok9 (t) ⟨by omega, by omega⟩ (f) ⟨by omega, by omega⟩ (2000) ⟨by omega, by omega⟩) ⟨co_X11_in, in_X11, ⟨by decide, by decide, by decide +kernel⟩, Nat.le_of_ble_eq_true rfl, Nat.le_of_ble_eq_true rfl⟩ ml_X11_9 st_X11_in rfl rfl (Nat.le_of_ble_eq_true rfl) ⟨Nat.zero_le _, Nat.zero_le _⟩ (fun r12 σ13 hpo11 hok14 => ?_)
      obtain ⟨rfl, ⟨h15, rfl⟩ | ⟨h15, rfl⟩⟩ := hpo11
      · refine sv_same (st2 := [sv_i 1]) (lv2 := [(0, sv_r a), (1, sv_i v1), (2, sv_i f), (3, sv_i t), (4, sv_i v4), (5, sv_i v5)]) rfl rfl ?_
        refine sv_if_f C.1 C.2.1 (cnd := .eq) (off := 37) (tgt := 61) (by decide +kernel) (by decide) ⟨by omega, by omega⟩ (show ¬ (1 = 0) by omega) ?_
        refine sv_go C.1 C.2.1 [(.iload_n 3, 1), (.iload_n 2, 1), (.isub, 1), (.bipush 19, 2)] (pc' := 32) (by decide +kernel) rfl (lv' := [(0, sv_r a), (1, sv_i v1), (2, sv_i f), (3, sv_i t), (4, sv_i v4), (5, sv_i v5)]) (st' := [sv_i 19, sv_i (t - f)]) rfl ?_
        refine sv_icmp C.1 C.2.1 (cnd := .gt) (off := 29) (tgt := 61) (by decide +kernel) (by decide) ⟨by omega, by omega⟩ ⟨by omega, by omega⟩ (fun (h16 : 19 < (t - f)) => ?_) (fun (h16 : ¬ (19 < (t - f))) => ?_)
        · refine sv_go C.1 C.2.1 [(.bipush (-2), 2)] (pc' := 63) (by decide +kernel) rfl (lv' := [(0, sv_r a), (1, sv_i v1), (2, sv_i f), (3, sv_i t), (4, sv_i v4), (5, sv_i v5)]) (st' := [sv_i ((-2))]) rfl ?_
          exact sv_iret C hr (by decide +kernel) hok14 (⟨congrArg (fun q => [sv_i q]) (by first | omega | (unfold fx_rota; omega)), hF⟩)
        · refine sv_go C.1 C.2.1 [(.iload 4, 2)] (pc' := 37) (by decide +kernel) rfl (lv' := [(0, sv_r a), (1, sv_i v1), (2, sv_i f), (3, sv_i t), (4, sv_i v4), (5, sv_i v5)]) (st' := [sv_i v4]) rfl ?_
          refine sv_i2l C.1 C.2.1 (by decide +kernel) ⟨by omega, by omega⟩ ?_
          refine sv_go C.1 C.2.1 [(.lconst 1, 1)] (pc' := 39) (by decide +kernel) rfl (lv' := [(0, sv_r a), (1, sv_i v1), (2, sv_i f), (3, sv_i t), (4, sv_i v4), (5, sv_i v5)]) (st' := [sv_l 1, sv_l v4]) rfl ?_
          refine sv_ldc2 C (index := 310) (z := 8) (by decide +kernel) cl_X11_310 (by decide) ?_
          refine sv_cs C (index := 9) (k := 3) (rest := []) (by decide +kernel) (ct_X11_in l g A ty σ hok14 (v4) ⟨by omega, by omega⟩ (1) ⟨by omega, by omega⟩ (8) ⟨by omega, by omega⟩) ⟨co_X11_in, in_X11, ⟨by decide, by decide, by decide +kernel⟩, Nat.le_of_ble_eq_true rfl, Nat.le_of_ble_eq_true rfl⟩ ml_X11_9 st_X11_in rfl rfl (Nat.le_of_ble_eq_true rfl) ⟨Nat.zero_le _, Nat.zero_le _⟩ (fun r18 σ19 hpo17 hok20 => ?_)
          obtain ⟨rfl, ⟨h21, rfl⟩ | ⟨h21, rfl⟩⟩ := hpo17
          · refine sv_same (st2 := [sv_i 1]) (lv2 := [(0, sv_r a), (1, sv_i v1), (2, sv_i f), (3, sv_i t), (4, sv_i v4), (5, sv_i v5)]) rfl rfl ?_
            refine sv_if_f C.1 C.2.1 (cnd := .eq) (off := 16) (tgt := 61) (by decide +kernel) (by decide) ⟨by omega, by omega⟩ (show ¬ (1 = 0) by omega) ?_
            refine sv_go C.1 C.2.1 [(.iload 5, 2)] (pc' := 50) (by decide +kernel) rfl (lv' := [(0, sv_r a), (1, sv_i v1), (2, sv_i f), (3, sv_i t), (4, sv_i v4), (5, sv_i v5)]) (st' := [sv_i v5]) rfl ?_
            refine sv_i2l C.1 C.2.1 (by decide +kernel) ⟨by omega, by omega⟩ ?_
            refine sv_go C.1 C.2.1 [(.lconst 1, 1)] (pc' := 52) (by decide +kernel) rfl (lv' := [(0, sv_r a), (1, sv_i v1), (2, sv_i f), (3, sv_i t), (4, sv_i v4), (5, sv_i v5)]) (st' := [sv_l 1, sv_l v5]) rfl ?_
            refine sv_ldc2 C (index := 319) (z := 1023) (by decide +kernel) cl_X11_319 (by decide) ?_
            refine sv_cs C (index := 9) (k := 3) (rest := []) (by decide +kernel) (ct_X11_in l g A ty σ hok20 (v5) ⟨by omega, by omega⟩ (1) ⟨by omega, by omega⟩ (1023) ⟨by omega, by omega⟩) ⟨co_X11_in, in_X11, ⟨by decide, by decide, by decide +kernel⟩, Nat.le_of_ble_eq_true rfl, Nat.le_of_ble_eq_true rfl⟩ ml_X11_9 st_X11_in rfl rfl (Nat.le_of_ble_eq_true rfl) ⟨Nat.zero_le _, Nat.zero_le _⟩ (fun r23 σ24 hpo22 hok25 => ?_)
            obtain ⟨rfl, ⟨h26, rfl⟩ | ⟨h26, rfl⟩⟩ := hpo22
            · refine sv_same (st2 := [sv_i 1]) (lv2 := [(0, sv_r a), (1, sv_i v1), (2, sv_i f), (3, sv_i t), (4, sv_i v4), (5, sv_i v5)]) rfl rfl ?_
              refine sv_if_t C.1 C.2.1 (cnd := .ne) (off := 6) (tgt := 64) (by decide +kernel) (by decide) ⟨by omega, by omega⟩ (show 1 ≠ 0 by omega) ?_
              refine sv_go C.1 C.2.1 [(.aload_n 0, 1), (.iconst 0, 1)] (pc' := 66) (by decide +kernel) rfl (lv' := [(0, sv_r a), (1, sv_i v1), (2, sv_i f), (3, sv_i t), (4, sv_i v4), (5, sv_i v5)]) (st' := [sv_i 0, sv_r a]) rfl ?_
              refine sv_pf C (index := 321) (ci := 10) (k := 40) (r := (RX11, TX11, 47)) (z := 0) (by decide +kernel) (by rw [k_a]; rfl) rfl (by decide) rfl fl_X11_321 rfl (Or.inl rfl) ⟨by omega, by omega⟩ (hTA _ (by rw [k_a]; decide)) hok25 (fun hok27 => ?_)
              have hI29 := hI.up (a := a) (k := 40) (z := 0) (by rw [k_a]; exact trivial)
              have hF30 := hF.up (a := a) (k := 40) (z := 0) (by rw [k_a]; decide)
              generalize eσ28 : sv_up σ a 40 0 = σ28 at hok27 hI29 hF30 ⊢
              have t31 : σ28 a 40 = 0 := by rw [← eσ28]; exact sv_up_s _ _ _ _
              refine sv_go C.1 C.2.1 [(.iconst 0, 1), (.istore 6, 2)] (pc' := 72) (by decide +kernel) rfl (lv' := [(0, sv_r a), (1, sv_i v1), (2, sv_i f), (3, sv_i t), (4, sv_i v4), (5, sv_i v5), (6, sv_i 0)]) (st' := []) rfl ?_
              have L34 : ∀ (n : Nat) (X : Int) (σ32 : Nat → Nat → Int), (sv_ok ty σ32) → (sv_inv sp_1 ty σ32) → (sv_off [10, 91, 98, 99] ty σ σ32) → (σ32 a 40 = 0) → (0 ≤ X ∧ X ≤ 10) → (10 - X) < (n : Int) → sv_E p l e { frames := 3, cells := 0, slots := 0, locals := 69 } s m args below meth c 12 g A ty (fun r σ' => r = [sv_i (fx_rota v1 f t v4 v5)] ∧ sv_off [10, 91, 98, 99] ty σ σ') σ32 72 [(0, sv_r a), (1, sv_i v1), (2, sv_i f), (3, sv_i t), (4, sv_i v4), (5, sv_i v5), (6, sv_i X)] [] := by
                intro n
                induction n with
                | zero => intro X σ32 hokc33 hIc33 hFc33 kc33_0 hX hmu; exact absurd hmu (by omega)
                | succ n ih35 =>
                  intro X σ32 hokc33 hIc33 hFc33 kc33_0 hX hmu
                  refine sv_go C.1 C.2.1 [(.iload 6, 2), (.bipush 10, 2)] (pc' := 76) (by decide +kernel) rfl (lv' := [(0, sv_r a), (1, sv_i v1), (2, sv_i f), (3, sv_i t), (4, sv_i v4), (5, sv_i v5), (6, sv_i X)]) (st' := [sv_i 10, sv_i X]) rfl ?_
                  refine sv_icmp C.1 C.2.1 (cnd := .ge) (off := 25) (tgt := 101) (by decide +kernel) (by decide) ⟨by omega, by omega⟩ ⟨by omega, by omega⟩ (fun (h36 : 10 ≤ X) => ?_) (fun (h36 : ¬ (10 ≤ X)) => ?_)
                  · refine sv_go C.1 C.2.1 [(.iconst (-1), 1), (.istore 6, 2)] (pc' := 104) (by decide +kernel) rfl (lv' := [(0, sv_r a), (1, sv_i v1), (2, sv_i f), (3, sv_i t), (4, sv_i v4), (5, sv_i v5), (6, sv_i ((-1)))]) (st' := []) rfl ?_
                    refine sv_ldc_w C (index := 324) (z := -268435456) (by decide +kernel) ci_X11_324 (by decide) ?_
                    refine sv_go C.1 C.2.1 [(.istore 7, 2), (.iload_n 2, 1), (.istore 8, 2)] (pc' := 112) (by decide +kernel) rfl (lv' := [(0, sv_r a), (1, sv_i v1), (2, sv_i f), (3, sv_i t), (4, sv_i v4), (5, sv_i v5), (6, sv_i ((-1))), (7, sv_i ((-268435456))), (8, sv_i f)]) (st' := []) rfl ?_
                    obtain ⟨qo, eqo, kqo⟩ := hIc33.ref (k := 31) k_a rfl
                    have L39 : ∀ (n : Nat) (X : Int) (σ37 : Nat → Nat → Int), (sv_ok ty σ37) → (sv_inv sp_1 ty σ37) → (sv_off [10, 91, 98, 99] ty σ σ37) → (σ37 a 40 = 0) → (σ37 a 31 = (qo : Int) + 1) → (f ≤ X ∧ X ≤ t + 1) → (t + 1 - X) < (n : Int) → sv_E p l e { frames := 3, cells := 0, slots := 0, locals := 69 } s m args below meth c 12 g A ty (fun r σ' => r = [sv_i (fx_rota v1 f t v4 v5)] ∧ sv_off [10, 91, 98, 99] ty σ σ') σ37 112 [(0, sv_r a), (1, sv_i v1), (2, sv_i f), (3, sv_i t), (4, sv_i v4), (5, sv_i v5), (6, sv_i ((-1))), (7, sv_i ((-268435456))), (8, sv_i X)] [] := by
                      intro n
                      induction n with
                      | zero => intro X σ37 hokc38 hIc38 hFc38 kc38_0 kc38_1 hX2 hmu; exact absurd hmu (by omega)
                      | succ n ih40 =>
                        intro X σ37 hokc38 hIc38 hFc38 kc38_0 kc38_1 hX2 hmu
                        refine sv_go C.1 C.2.1 [(.iload 8, 2), (.iload_n 3, 1)] (pc' := 115) (by decide +kernel) rfl (lv' := [(0, sv_r a), (1, sv_i v1), (2, sv_i f), (3, sv_i t), (4, sv_i v4), (5, sv_i v5), (6, sv_i ((-1))), (7, sv_i ((-268435456))), (8, sv_i X)]) (st' := [sv_i t, sv_i X]) rfl ?_
                        refine sv_icmp C.1 C.2.1 (cnd := .gt) (off := 220) (tgt := 335) (by decide +kernel) (by decide) ⟨by omega, by omega⟩ ⟨by omega, by omega⟩ (fun (h41 : t < X) => ?_) (fun (h41 : ¬ (t < X)) => ?_)
                        · refine sv_go C.1 C.2.1 [(.aload_n 0, 1)] (pc' := 336) (by decide +kernel) rfl (lv' := [(0, sv_r a), (1, sv_i v1), (2, sv_i f), (3, sv_i t), (4, sv_i v4), (5, sv_i v5), (6, sv_i ((-1))), (7, sv_i ((-268435456))), (8, sv_i X)]) (st' := [sv_r a]) rfl ?_
                          refine sv_gf C (index := 321) (ci := 10) (k := 40) (r := (RX11, TX11, 47)) (v := sv_i 0) (by decide +kernel) (by rw [k_a]; rfl) rfl (by decide) fl_X11_321 (congrArg sv_i kc38_0) ?_
                          exact sv_iret C hr (by decide +kernel) hokc38 (⟨congrArg (fun q => [sv_i q]) (by first | omega | (unfold fx_rota; omega)), hFc38⟩)
                        · refine sv_go C.1 C.2.1 [(.aload_n 0, 1), (.iload_n 1, 1), (.iload 8, 2)] (pc' := 122) (by decide +kernel) rfl (lv' := [(0, sv_r a), (1, sv_i v1), (2, sv_i f), (3, sv_i t), (4, sv_i v4), (5, sv_i v5), (6, sv_i ((-1))), (7, sv_i ((-268435456))), (8, sv_i X)]) (st' := [sv_i X, sv_i v1, sv_r a]) rfl ?_
                          refine sv_cv C (index := 301) (k := 2) (rest := []) (ci := 10) (r := (RX11, TX11, 47)) (by decide +kernel) (ct_X11_lead l g A ty σ37 hokc38 hTA hIc38 a k_a (v1) ⟨by omega, by omega⟩ (X) ⟨by omega, by omega⟩) ⟨co_X11_lead, in_X11, ⟨by decide, by decide, by decide +kernel⟩, Nat.le_of_ble_eq_true rfl, Nat.le_of_ble_eq_true rfl⟩ ml_X11_301 im_X11_lead se_X11_lead (by rw [k_a]; rfl) rfl rfl rfl (Nat.le_of_ble_eq_true rfl) ⟨Nat.zero_le _, Nat.zero_le _⟩ (fun r43 σ44 hpo42 hok45 => ?_)
                          obtain ⟨rfl, hIu46, hFu46, xu46⟩ := hpo42
                          have hGu46 := hFc38.tr hFu46 (by decide)
                          have t47 : σ44 a 40 = 0 := (hFu46.at k_a (by decide)).trans kc38_0
                          have t48 : σ44 a 31 = (qo : Int) + 1 := (hFu46.at k_a (by decide)).trans kc38_1
                          refine sv_same (st2 := []) (lv2 := [(0, sv_r a), (1, sv_i v1), (2, sv_i f), (3, sv_i t), (4, sv_i v4), (5, sv_i v5), (6, sv_i ((-1))), (7, sv_i ((-268435456))), (8, sv_i X)]) rfl rfl ?_
                          refine sv_go C.1 C.2.1 [(.iconst 0, 1), (.istore 9, 2)] (pc' := 128) (by decide +kernel) rfl (lv' := [(0, sv_r a), (1, sv_i v1), (2, sv_i f), (3, sv_i t), (4, sv_i v4), (5, sv_i v5), (6, sv_i ((-1))), (7, sv_i ((-268435456))), (8, sv_i X), (9, sv_i 0)]) (st' := []) rfl ?_
                          have L49 : ∀ (n : Nat) (Y : Int) , (0 ≤ Y ∧ Y ≤ 366) → (366 - Y) < (n : Int) → sv_E p l e { frames := 3, cells := 0, slots := 0, locals := 69 } s m args below meth c 12 g A ty (fun r σ' => r = [sv_i (fx_rota v1 f t v4 v5)] ∧ sv_off [10, 91, 98, 99] ty σ σ') σ44 128 [(0, sv_r a), (1, sv_i v1), (2, sv_i f), (3, sv_i t), (4, sv_i v4), (5, sv_i v5), (6, sv_i ((-1))), (7, sv_i ((-268435456))), (8, sv_i X), (9, sv_i Y)] [] := by
                            intro n
                            induction n with
                            | zero => intro Y  hY hmu; exact absurd hmu (by omega)
                            | succ n ih50 =>
                              intro Y  hY hmu
                              refine sv_go C.1 C.2.1 [(.iload 9, 2), (.iload 8, 2)] (pc' := 132) (by decide +kernel) rfl (lv' := [(0, sv_r a), (1, sv_i v1), (2, sv_i f), (3, sv_i t), (4, sv_i v4), (5, sv_i v5), (6, sv_i ((-1))), (7, sv_i ((-268435456))), (8, sv_i X), (9, sv_i Y)]) (st' := [sv_i X, sv_i Y]) rfl ?_
                              refine sv_cs C (index := 16) (k := 1) (rest := [sv_i Y]) (by decide +kernel) (ct_X11_daysOf l g A ty σ44 hok45 (X) ⟨by omega, by omega⟩) ⟨co_X11_daysOf, in_X11, ⟨by decide, by decide, by decide +kernel⟩, Nat.le_of_ble_eq_true rfl, Nat.le_of_ble_eq_true rfl⟩ ml_X11_16 st_X11_daysOf rfl rfl (Nat.le_of_ble_eq_true rfl) ⟨Nat.zero_le _, Nat.zero_le _⟩ (fun r52 σ53 hpo51 hok54 => ?_)
                              obtain ⟨rfl, rfl⟩ := hpo51
                              have hn55 := dy_lp_in X
                              refine sv_same (st2 := [sv_i (365 + dy_lp X), sv_i Y]) (lv2 := [(0, sv_r a), (1, sv_i v1), (2, sv_i f), (3, sv_i t), (4, sv_i v4), (5, sv_i v5), (6, sv_i ((-1))), (7, sv_i ((-268435456))), (8, sv_i X), (9, sv_i Y)]) rfl rfl ?_
                              refine sv_icmp C.1 C.2.1 (cnd := .ge) (off := 194) (tgt := 329) (by decide +kernel) (by decide) ⟨by omega, by omega⟩ ⟨by omega, by omega⟩ (fun (h56 : (365 + dy_lp X) ≤ Y) => ?_) (fun (h56 : ¬ ((365 + dy_lp X) ≤ Y)) => ?_)
                              · refine sv_go C.1 C.2.1 [(.iinc 8 1, 3)] (pc' := 332) (by decide +kernel) rfl (lv' := [(0, sv_r a), (1, sv_i v1), (2, sv_i f), (3, sv_i t), (4, sv_i v4), (5, sv_i v5), (6, sv_i ((-1))), (7, sv_i ((-268435456))), (8, sv_i (X + 1)), (9, sv_i Y)]) (st' := []) rfl ?_
                                refine sv_goto C.1 C.2.1 (off := (-220)) (tgt := 112) (by decide +kernel) (by decide) ?_
                                refine sv_pick [0, 1, 2, 3, 4, 5, 6, 7, 8] (lv2 := [(0, sv_r a), (1, sv_i v1), (2, sv_i f), (3, sv_i t), (4, sv_i v4), (5, sv_i v5), (6, sv_i ((-1))), (7, sv_i ((-268435456))), (8, sv_i (X + 1))]) rfl ?_
                                exact ih40 (X + 1) σ44 hok54 hIu46 hGu46 t47 t48 (by omega) (by omega)
                              · refine sv_go C.1 C.2.1 [(.aload_n 0, 1)] (pc' := 139) (by decide +kernel) rfl (lv' := [(0, sv_r a), (1, sv_i v1), (2, sv_i f), (3, sv_i t), (4, sv_i v4), (5, sv_i v5), (6, sv_i ((-1))), (7, sv_i ((-268435456))), (8, sv_i X), (9, sv_i Y)]) (st' := [sv_r a]) rfl ?_
                                refine sv_gf C (index := 121) (ci := 10) (k := 31) (r := (RX11, TX11, 47)) (v := sv_r qo) (by decide +kernel) (by rw [k_a]; rfl) rfl (by decide) fl_X11_121 (congrArg sv_a t48) ?_
                                refine sv_go C.1 C.2.1 [(.iload 9, 2)] (pc' := 144) (by decide +kernel) rfl (lv' := [(0, sv_r a), (1, sv_i v1), (2, sv_i f), (3, sv_i t), (4, sv_i v4), (5, sv_i v5), (6, sv_i ((-1))), (7, sv_i ((-268435456))), (8, sv_i X), (9, sv_i Y)]) (st' := [sv_i Y, sv_r qo]) rfl ?_
                                refine sv_ia C (n := 366) (by decide +kernel) (by rw [kqo]; rfl) (by decide) (by omega) (by omega) ?_
                                rw [show σ44 qo Y.toNat = fx_of X Y from xu46 qo t48 (Y) (by omega) (by omega)]
                                have w57 := fx_of_in X Y
                                refine sv_if_t C.1 C.2.1 (cnd := .lt) (off := 178) (tgt := 323) (by decide +kernel) (by decide) ⟨by omega, by omega⟩ (show (fx_of X Y) < 0 by omega) ?_
                                refine sv_go C.1 C.2.1 [(.iinc 9 1, 3)] (pc' := 326) (by decide +kernel) rfl (lv' := [(0, sv_r a), (1, sv_i v1), (2, sv_i f), (3, sv_i t), (4, sv_i v4), (5, sv_i v5), (6, sv_i ((-1))), (7, sv_i ((-268435456))), (8, sv_i X), (9, sv_i (Y + 1))]) (st' := []) rfl ?_
                                refine sv_goto C.1 C.2.1 (off := (-198)) (tgt := 128) (by decide +kernel) (by decide) ?_
                                exact ih50 (Y + 1)  (by omega) (by omega)
                          exact L49 (((366 - 0 : Int)).toNat + 1) 0  (by omega) (by omega)
                    exact L39 (((t + 1 - f : Int)).toNat + 1) f σ32 hokc33 hIc33 hFc33 kc33_0 eqo (by omega) (by omega)
                  · refine sv_go C.1 C.2.1 [(.aload_n 0, 1)] (pc' := 80) (by decide +kernel) rfl (lv' := [(0, sv_r a), (1, sv_i v1), (2, sv_i f), (3, sv_i t), (4, sv_i v4), (5, sv_i v5), (6, sv_i X)]) (st' := [sv_r a]) rfl ?_
                    obtain ⟨q58, eq58, kq58⟩ := hIc33.ref (k := 38) k_a rfl
                    refine sv_gf C (index := 142) (ci := 10) (k := 38) (r := (RX11, TX11, 47)) (v := sv_r q58) (by decide +kernel) (by rw [k_a]; rfl) rfl (by decide) fl_X11_142 (congrArg sv_a eq58) ?_
                    refine sv_go C.1 C.2.1 [(.iload 6, 2), (.iconst 0, 1)] (pc' := 86) (by decide +kernel) rfl (lv' := [(0, sv_r a), (1, sv_i v1), (2, sv_i f), (3, sv_i t), (4, sv_i v4), (5, sv_i v5), (6, sv_i X)]) (st' := [sv_i 0, sv_i X, sv_r q58]) rfl ?_
                    refine sv_is C (n := 10) (by decide +kernel) (by rw [kq58]; rfl) (by decide) (by omega) (by omega) ⟨by omega, by omega⟩ (hTA _ (by rw [kq58]; decide)) hokc33 (fun hok59 => ?_)
                    have hI61 := hIc33.up (a := q58) (k := (X : Int).toNat) (z := 0) (by rw [kq58]; exact trivial)
                    have hF62 := hFc33.up (a := q58) (k := (X : Int).toNat) (z := 0) (by rw [kq58]; decide)
                    generalize eσ60 : sv_up σ32 q58 (X : Int).toNat 0 = σ60 at hok59 hI61 hF62 ⊢
                    have t63 : σ60 a 40 = 0 := by rw [← eσ60, sv_up_a (sv_ne k_a kq58 (by decide))]; exact kc33_0
                    have t64 : σ60 a 38 = (q58 : Int) + 1 := by rw [← eσ60, sv_up_a (sv_ne k_a kq58 (by decide))]; exact eq58
                    refine sv_go C.1 C.2.1 [(.aload_n 0, 1)] (pc' := 88) (by decide +kernel) rfl (lv' := [(0, sv_r a), (1, sv_i v1), (2, sv_i f), (3, sv_i t), (4, sv_i v4), (5, sv_i v5), (6, sv_i X)]) (st' := [sv_r a]) rfl ?_
                    obtain ⟨q65, eq65, kq65⟩ := hI61.ref (k := 39) k_a rfl
                    refine sv_gf C (index := 145) (ci := 10) (k := 39) (r := (RX11, TX11, 47)) (v := sv_r q65) (by decide +kernel) (by rw [k_a]; rfl) rfl (by decide) fl_X11_145 (congrArg sv_a eq65) ?_
                    refine sv_go C.1 C.2.1 [(.iload 6, 2), (.iconst (-1), 1)] (pc' := 94) (by decide +kernel) rfl (lv' := [(0, sv_r a), (1, sv_i v1), (2, sv_i f), (3, sv_i t), (4, sv_i v4), (5, sv_i v5), (6, sv_i X)]) (st' := [sv_i ((-1)), sv_i X, sv_r q65]) rfl ?_
                    refine sv_is C (n := 10) (by decide +kernel) (by rw [kq65]; rfl) (by decide) (by omega) (by omega) ⟨by omega, by omega⟩ (hTA _ (by rw [kq65]; decide)) hok59 (fun hok66 => ?_)
                    have hI68 := hI61.up (a := q65) (k := (X : Int).toNat) (z := (-1)) (by rw [kq65]; exact trivial)
                    have hF69 := hF62.up (a := q65) (k := (X : Int).toNat) (z := (-1)) (by rw [kq65]; decide)
                    generalize eσ67 : sv_up σ60 q65 (X : Int).toNat ((-1)) = σ67 at hok66 hI68 hF69 ⊢
                    have t70 : σ67 a 40 = 0 := by rw [← eσ67, sv_up_a (sv_ne k_a kq65 (by decide))]; exact t63
                    have t71 : σ67 a 38 = (q58 : Int) + 1 := by rw [← eσ67, sv_up_a (sv_ne k_a kq65 (by decide))]; exact t64
                    have t72 : σ67 a 39 = (q65 : Int) + 1 := by rw [← eσ67, sv_up_a (sv_ne k_a kq65 (by decide))]; exact eq65
                    refine sv_go C.1 C.2.1 [(.iinc 6 1, 3)] (pc' := 98) (by decide +kernel) rfl (lv' := [(0, sv_r a), (1, sv_i v1), (2, sv_i f), (3, sv_i t), (4, sv_i v4), (5, sv_i v5), (6, sv_i (X + 1))]) (st' := []) rfl ?_
                    refine sv_goto C.1 C.2.1 (off := (-26)) (tgt := 72) (by decide +kernel) (by decide) ?_
                    exact ih35 (X + 1) σ67 hok66 hI68 hF69 t70 (by omega) (by omega)
              exact L34 (((10 - 0 : Int)).toNat + 1) 0 σ28 hok27 hI29 hF30 t31 (by omega) (by omega)
            · refine sv_same (st2 := [sv_i 0]) (lv2 := [(0, sv_r a), (1, sv_i v1), (2, sv_i f), (3, sv_i t), (4, sv_i v4), (5, sv_i v5)]) rfl rfl ?_
              refine sv_if_f C.1 C.2.1 (cnd := .ne) (off := 6) (tgt := 64) (by decide +kernel) (by decide) ⟨by omega, by omega⟩ (show ¬ (0 ≠ 0) by omega) ?_
              refine sv_go C.1 C.2.1 [(.bipush (-2), 2)] (pc' := 63) (by decide +kernel) rfl (lv' := [(0, sv_r a), (1, sv_i v1), (2, sv_i f), (3, sv_i t), (4, sv_i v4), (5, sv_i v5)]) (st' := [sv_i ((-2))]) rfl ?_
              exact sv_iret C hr (by decide +kernel) hok25 (⟨congrArg (fun q => [sv_i q]) (by first | omega | (unfold fx_rota; omega)), hF⟩)
          · refine sv_same (st2 := [sv_i 0]) (lv2 := [(0, sv_r a), (1, sv_i v1), (2, sv_i f), (3, sv_i t), (4, sv_i v4), (5, sv_i v5)]) rfl rfl ?_
            refine sv_if_t C.1 C.2.1 (cnd := .eq) (off := 16) (tgt := 61) (by decide +kernel) (by decide) ⟨by omega, by omega⟩ (show 0 = 0 by omega) ?_
            refine sv_go C.1 C.2.1 [(.bipush (-2), 2)] (pc' := 63) (by decide +kernel) rfl (lv' := [(0, sv_r a), (1, sv_i v1), (2, sv_i f), (3, sv_i t), (4, sv_i v4), (5, sv_i v5)]) (st' := [sv_i ((-2))]) rfl ?_
            exact sv_iret C hr (by decide +kernel) hok20 (⟨congrArg (fun q => [sv_i q]) (by first | omega | (unfold fx_rota; omega)), hF⟩)
      · refine sv_same (st2 := [sv_i 0]) (lv2 := [(0, sv_r a), (1, sv_i v1), (2, sv_i f), (3, sv_i t), (4, sv_i v4), (5, sv_i v5)]) rfl rfl ?_
        refine sv_if_t C.1 C.2.1 (cnd := .eq) (off := 37) (tgt := 61) (by decide +kernel) (by decide) ⟨by omega, by omega⟩ (show 0 = 0 by omega) ?_
        refine sv_go C.1 C.2.1 [(.bipush (-2), 2)] (pc' := 63) (by decide +kernel) rfl (lv' := [(0, sv_r a), (1, sv_i v1), (2, sv_i f), (3, sv_i t), (4, sv_i v4), (5, sv_i v5)]) (st' := [sv_i ((-2))]) rfl ?_
        exact sv_iret C hr (by decide +kernel) hok14 (⟨congrArg (fun q => [sv_i q]) (by first | omega | (unfold fx_rota; omega)), hF⟩)
    · refine sv_same (st2 := [sv_i 0]) (lv2 := [(0, sv_r a), (1, sv_i v1), (2, sv_i f), (3, sv_i t), (4, sv_i v4), (5, sv_i v5)]) rfl rfl ?_
      refine sv_if_t C.1 C.2.1 (cnd := .eq) (off := 50) (tgt := 61) (by decide +kernel) (by decide) ⟨by omega, by omega⟩ (show 0 = 0 by omega) ?_
      refine sv_go C.1 C.2.1 [(.bipush (-2), 2)] (pc' := 63) (by decide +kernel) rfl (lv' := [(0, sv_r a), (1, sv_i v1), (2, sv_i f), (3, sv_i t), (4, sv_i v4), (5, sv_i v5)]) (st' := [sv_i ((-2))]) rfl ?_
      exact sv_iret C hr (by decide +kernel) hok9 (⟨congrArg (fun q => [sv_i q]) (by first | omega | (unfold fx_rota; omega)), hF⟩)
  · refine sv_same (st2 := [sv_i 0]) (lv2 := [(0, sv_r a), (1, sv_i v1), (2, sv_i f), (3, sv_i t), (4, sv_i v4), (5, sv_i v5)]) rfl rfl ?_
    refine sv_if_t C.1 C.2.1 (cnd := .eq) (off := 57) (tgt := 61) (by decide +kernel) (by decide) ⟨by omega, by omega⟩ (show 0 = 0 by omega) ?_
    refine sv_go C.1 C.2.1 [(.bipush (-2), 2)] (pc' := 63) (by decide +kernel) rfl (lv' := [(0, sv_r a), (1, sv_i v1), (2, sv_i f), (3, sv_i t), (4, sv_i v4), (5, sv_i v5)]) (st' := [sv_i ((-2))]) rfl ?_
    exact sv_iret C hr (by decide +kernel) hok4 (⟨congrArg (fun q => [sv_i q]) (by first | omega | (unfold fx_rota; omega)), hF⟩)
