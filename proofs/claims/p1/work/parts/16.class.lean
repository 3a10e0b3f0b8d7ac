set_option maxHeartbeats 4000000 in
set_option maxRecDepth 100000 in
theorem ct_X9_isPlace (l : Launch) (g : sv_G) (A : Nat → Prop) (ty : Nat → Nat) (σ : Nat → Nat → Int) (hok : sv_ok ty σ) (v : Int) (hv : sv_in v) : sv_M l yX9_isPlace cX9_isPlace 1 (some .boolean) { frames := 0, cells := 0, slots := 0, locals := 0 } g A ty σ [sv_i v] (fun r σ' => σ = σ' ∧ sv_bo (0 ≤ v ∧ v ≤ 3) r) := by
  refine sv_enter (by decide) (Nat.le_of_ble_eq_true rfl) ?_
  intro p e s m args below meth c C hr
  have C : sv_C g A RX9 cX9_isPlace 1 p s m args meth c := C
  have hr : meth.sig.returnType = (some .boolean) := hr
  refine sv_same (st2 := []) (lv2 := [(0, sv_i v)]) rfl rfl ?_
  refine sv_go C.1 C.2.1 [(.iload_n 0, 1)] (pc' := 1) (by decide +kernel) rfl (lv' := [(0, sv_i v)]) (st' := [sv_i v]) rfl ?_
  refine sv_if C.1 C.2.1 (cnd := .lt) (off := 12) (tgt := 13) (by decide +kernel) (by decide) ⟨by omega, by omega⟩ (fun (h1 : v < 0) => ?_) (fun (h1 : ¬ (v < 0)) => ?_)
  · refine sv_go C.1 C.2.1 [(.iconst 0, 1)] (pc' := 14) (by decide +kernel) rfl (lv' := [(0, sv_i v)]) (st' := [sv_i 0]) rfl ?_
    exact sv_zret C hr (by first | exact Or.inl rfl | exact Or.inr rfl | omega) (by decide +kernel) hok (by first | exact ⟨rfl, Or.inl ⟨by omega, rfl⟩⟩ | exact ⟨rfl, Or.inr ⟨by omega, rfl⟩⟩)
  · refine sv_go C.1 C.2.1 [(.iload_n 0, 1), (.iconst 4, 1)] (pc' := 6) (by decide +kernel) rfl (lv' := [(0, sv_i v)]) (st' := [sv_i 4, sv_i v]) rfl ?_
    refine sv_icmp C.1 C.2.1 (cnd := .ge) (off := 7) (tgt := 13) (by decide +kernel) (by decide) ⟨by omega, by omega⟩ ⟨by omega, by omega⟩ (fun (h2 : 4 ≤ v) => ?_) (fun (h2 : ¬ (4 ≤ v)) => ?_)
    · refine sv_go C.1 C.2.1 [(.iconst 0, 1)] (pc' := 14) (by decide +kernel) rfl (lv' := [(0, sv_i v)]) (st' := [sv_i 0]) rfl ?_
      exact sv_zret C hr (by first | exact Or.inl rfl | exact Or.inr rfl | omega) (by decide +kernel) hok (by first | exact ⟨rfl, Or.inl ⟨by omega, rfl⟩⟩ | exact ⟨rfl, Or.inr ⟨by omega, rfl⟩⟩)
    · refine sv_go C.1 C.2.1 [(.iconst 1, 1)] (pc' := 10) (by decide +kernel) rfl (lv' := [(0, sv_i v)]) (st' := [sv_i 1]) rfl ?_
      refine sv_goto C.1 C.2.1 (off := 4) (tgt := 14) (by decide +kernel) (by decide) ?_
      exact sv_zret C hr (by first | exact Or.inl rfl | exact Or.inr rfl | omega) (by decide +kernel) hok (by first | exact ⟨rfl, Or.inl ⟨by omega, rfl⟩⟩ | exact ⟨rfl, Or.inr ⟨by omega, rfl⟩⟩)

set_option maxHeartbeats 4000000 in
set_option maxRecDepth 100000 in
theorem ct_X9_isRank (l : Launch) (g : sv_G) (A : Nat → Prop) (ty : Nat → Nat) (σ : Nat → Nat → Int) (hok : sv_ok ty σ) (v : Int) (hv : sv_in v) : sv_M l yX9_isRank cX9_isRank 1 (some .boolean) { frames := 0, cells := 0, slots := 0, locals := 0 } g A ty σ [sv_i v] (fun r σ' => σ = σ' ∧ sv_bo (1 ≤ v ∧ v ≤ 8) r) := by
  refine sv_enter (by decide) (Nat.le_of_ble_eq_true rfl) ?_
  intro p e s m args below meth c C hr
  have C : sv_C g A RX9 cX9_isRank 1 p s m args meth c := C
  have hr : meth.sig.returnType = (some .boolean) := hr
  refine sv_same (st2 := []) (lv2 := [(0, sv_i v)]) rfl rfl ?_
  refine sv_go C.1 C.2.1 [(.iload_n 0, 1), (.iconst 1, 1)] (pc' := 2) (by decide +kernel) rfl (lv' := [(0, sv_i v)]) (st' := [sv_i 1, sv_i v]) rfl ?_
  refine sv_icmp C.1 C.2.1 (cnd := .lt) (off := 13) (tgt := 15) (by decide +kernel) (by decide) ⟨by omega, by omega⟩ ⟨by omega, by omega⟩ (fun (h1 : v < 1) => ?_) (fun (h1 : ¬ (v < 1)) => ?_)
  · refine sv_go C.1 C.2.1 [(.iconst 0, 1)] (pc' := 16) (by decide +kernel) rfl (lv' := [(0, sv_i v)]) (st' := [sv_i 0]) rfl ?_
    exact sv_zret C hr (by first | exact Or.inl rfl | exact Or.inr rfl | omega) (by decide +kernel) hok (by first | exact ⟨rfl, Or.inl ⟨by omega, rfl⟩⟩ | exact ⟨rfl, Or.inr ⟨by omega, rfl⟩⟩)
  · refine sv_go C.1 C.2.1 [(.iload_n 0, 1), (.bipush 8, 2)] (pc' := 8) (by decide +kernel) rfl (lv' := [(0, sv_i v)]) (st' := [sv_i 8, sv_i v]) rfl ?_
    refine sv_icmp C.1 C.2.1 (cnd := .gt) (off := 7) (tgt := 15) (by decide +kernel) (by decide) ⟨by omega, by omega⟩ ⟨by omega, by omega⟩ (fun (h2 : 8 < v) => ?_) (fun (h2 : ¬ (8 < v)) => ?_)
    · refine sv_go C.1 C.2.1 [(.iconst 0, 1)] (pc' := 16) (by decide +kernel) rfl (lv' := [(0, sv_i v)]) (st' := [sv_i 0]) rfl ?_
      exact sv_zret C hr (by first | exact Or.inl rfl | exact Or.inr rfl | omega) (by decide +kernel) hok (by first | exact ⟨rfl, Or.inl ⟨by omega, rfl⟩⟩ | exact ⟨rfl, Or.inr ⟨by omega, rfl⟩⟩)
    · refine sv_go C.1 C.2.1 [(.iconst 1, 1)] (pc' := 12) (by decide +kernel) rfl (lv' := [(0, sv_i v)]) (st' := [sv_i 1]) rfl ?_
      refine sv_goto C.1 C.2.1 (off := 4) (tgt := 16) (by decide +kernel) (by decide) ?_
      exact sv_zret C hr (by first | exact Or.inl rfl | exact Or.inr rfl | omega) (by decide +kernel) hok (by first | exact ⟨rfl, Or.inl ⟨by omega, rfl⟩⟩ | exact ⟨rfl, Or.inr ⟨by omega, rfl⟩⟩)

set_option maxHeartbeats 4000000 in
set_option maxRecDepth 100000 in
theorem ct_X9_isBrotherhood (l : Launch) (g : sv_G) (A : Nat → Prop) (ty : Nat → Nat) (σ : Nat → Nat → Int) (hok : sv_ok ty σ) (v : Int) (hv : sv_in v) : sv_M l yX9_isBrotherhood cX9_isBrotherhood 1 (some .boolean) { frames := 0, cells := 0, slots := 0, locals := 0 } g A ty σ [sv_i v] (fun r σ' => σ = σ' ∧ sv_bo (0 ≤ v ∧ v ≤ 9) r) := by
  refine sv_enter (by decide) (Nat.le_of_ble_eq_true rfl) ?_
  intro p e s m args below meth c C hr
  have C : sv_C g A RX9 cX9_isBrotherhood 1 p s m args meth c := C
  have hr : meth.sig.returnType = (some .boolean) := hr
  refine sv_same (st2 := []) (lv2 := [(0, sv_i v)]) rfl rfl ?_
  refine sv_go C.1 C.2.1 [(.iload_n 0, 1)] (pc' := 1) (by decide +kernel) rfl (lv' := [(0, sv_i v)]) (st' := [sv_i v]) rfl ?_
  refine sv_if C.1 C.2.1 (cnd := .lt) (off := 13) (tgt := 14) (by decide +kernel) (by decide) ⟨by omega, by omega⟩ (fun (h1 : v < 0) => ?_) (fun (h1 : ¬ (v < 0)) => ?_)
  · refine sv_go C.1 C.2.1 [(.iconst 0, 1)] (pc' := 15) (by decide +kernel) rfl (lv' := [(0, sv_i v)]) (st' := [sv_i 0]) rfl ?_
    exact sv_zret C hr (by first | exact Or.inl rfl | exact Or.inr rfl | omega) (by decide +kernel) hok (by first | exact ⟨rfl, Or.inl ⟨by omega, rfl⟩⟩ | exact ⟨rfl, Or.inr ⟨by omega, rfl⟩⟩)
  · refine sv_go C.1 C.2.1 [(.iload_n 0, 1), (.bipush 10, 2)] (pc' := 7) (by decide +kernel) rfl (lv' := [(0, sv_i v)]) (st' := [sv_i 10, sv_i v]) rfl ?_
    refine sv_icmp C.1 C.2.1 (cnd := .ge) (off := 7) (tgt := 14) (by decide +kernel) (by decide) ⟨by omega, by omega⟩ ⟨by omega, by omega⟩ (fun (h2 : 10 ≤ v) => ?_) (fun (h2 : ¬ (10 ≤ v)) => ?_)
    · refine sv_go C.1 C.2.1 [(.iconst 0, 1)] (pc' := 15) (by decide +kernel) rfl (lv' := [(0, sv_i v)]) (st' := [sv_i 0]) rfl ?_
      exact sv_zret C hr (by first | exact Or.inl rfl | exact Or.inr rfl | omega) (by decide +kernel) hok (by first | exact ⟨rfl, Or.inl ⟨by omega, rfl⟩⟩ | exact ⟨rfl, Or.inr ⟨by omega, rfl⟩⟩)
    · refine sv_go C.1 C.2.1 [(.iconst 1, 1)] (pc' := 11) (by decide +kernel) rfl (lv' := [(0, sv_i v)]) (st' := [sv_i 1]) rfl ?_
      refine sv_goto C.1 C.2.1 (off := 4) (tgt := 15) (by decide +kernel) (by decide) ?_
      exact sv_zret C hr (by first | exact Or.inl rfl | exact Or.inr rfl | omega) (by decide +kernel) hok (by first | exact ⟨rfl, Or.inl ⟨by omega, rfl⟩⟩ | exact ⟨rfl, Or.inr ⟨by omega, rfl⟩⟩)

set_option maxHeartbeats 4000000 in
set_option maxRecDepth 100000 in
theorem ct_X9_isCorner (l : Launch) (g : sv_G) (A : Nat → Prop) (ty : Nat → Nat) (σ : Nat → Nat → Int) (hok : sv_ok ty σ) (v : Int) (hv : sv_in v) : sv_M l yX9_isCorner cX9_isCorner 1 (some .boolean) { frames := 0, cells := 0, slots := 0, locals := 0 } g A ty σ [sv_i v] (fun r σ' => σ = σ' ∧ sv_bo (0 ≤ v ∧ v ≤ 19) r) := by
  refine sv_enter (by decide) (Nat.le_of_ble_eq_true rfl) ?_
  intro p e s m args below meth c C hr
  have C : sv_C g A RX9 cX9_isCorner 1 p s m args meth c := C
  have hr : meth.sig.returnType = (some .boolean) := hr
  refine sv_same (st2 := []) (lv2 := [(0, sv_i v)]) rfl rfl ?_
  refine sv_go C.1 C.2.1 [(.iload_n 0, 1)] (pc' := 1) (by decide +kernel) rfl (lv' := [(0, sv_i v)]) (st' := [sv_i v]) rfl ?_
  refine sv_if C.1 C.2.1 (cnd := .lt) (off := 13) (tgt := 14) (by decide +kernel) (by decide) ⟨by omega, by omega⟩ (fun (h1 : v < 0) => ?_) (fun (h1 : ¬ (v < 0)) => ?_)
  · refine sv_go C.1 C.2.1 [(.iconst 0, 1)] (pc' := 15) (by decide +kernel) rfl (lv' := [(0, sv_i v)]) (st' := [sv_i 0]) rfl ?_
    exact sv_zret C hr (by first | exact Or.inl rfl | exact Or.inr rfl | omega) (by decide +kernel) hok (by first | exact ⟨rfl, Or.inl ⟨by omega, rfl⟩⟩ | exact ⟨rfl, Or.inr ⟨by omega, rfl⟩⟩)
  · refine sv_go C.1 C.2.1 [(.iload_n 0, 1), (.bipush 20, 2)] (pc' := 7) (by decide +kernel) rfl (lv' := [(0, sv_i v)]) (st' := [sv_i 20, sv_i v]) rfl ?_
    refine sv_icmp C.1 C.2.1 (cnd := .ge) (off := 7) (tgt := 14) (by decide +kernel) (by decide) ⟨by omega, by omega⟩ ⟨by omega, by omega⟩ (fun (h2 : 20 ≤ v) => ?_) (fun (h2 : ¬ (20 ≤ v)) => ?_)
    · refine sv_go C.1 C.2.1 [(.iconst 0, 1)] (pc' := 15) (by decide +kernel) rfl (lv' := [(0, sv_i v)]) (st' := [sv_i 0]) rfl ?_
      exact sv_zret C hr (by first | exact Or.inl rfl | exact Or.inr rfl | omega) (by decide +kernel) hok (by first | exact ⟨rfl, Or.inl ⟨by omega, rfl⟩⟩ | exact ⟨rfl, Or.inr ⟨by omega, rfl⟩⟩)
    · refine sv_go C.1 C.2.1 [(.iconst 1, 1)] (pc' := 11) (by decide +kernel) rfl (lv' := [(0, sv_i v)]) (st' := [sv_i 1]) rfl ?_
      refine sv_goto C.1 C.2.1 (off := 4) (tgt := 15) (by decide +kernel) (by decide) ?_
      exact sv_zret C hr (by first | exact Or.inl rfl | exact Or.inr rfl | omega) (by decide +kernel) hok (by first | exact ⟨rfl, Or.inl ⟨by omega, rfl⟩⟩ | exact ⟨rfl, Or.inr ⟨by omega, rfl⟩⟩)

set_option maxHeartbeats 4000000 in
set_option maxRecDepth 100000 in
theorem ct_X9_isProcession (l : Launch) (g : sv_G) (A : Nat → Prop) (ty : Nat → Nat) (σ : Nat → Nat → Int) (hok : sv_ok ty σ) (v : Int) (hv : sv_in v) : sv_M l yX9_isProcession cX9_isProcession 1 (some .boolean) { frames := 0, cells := 0, slots := 0, locals := 0 } g A ty σ [sv_i v] (fun r σ' => σ = σ' ∧ sv_bo (0 ≤ v ∧ v ≤ 11) r) := by
  refine sv_enter (by decide) (Nat.le_of_ble_eq_true rfl) ?_
  intro p e s m args below meth c C hr
  have C : sv_C g A RX9 cX9_isProcession 1 p s m args meth c := C
  have hr : meth.sig.returnType = (some .boolean) := hr
  refine sv_same (st2 := []) (lv2 := [(0, sv_i v)]) rfl rfl ?_
  refine sv_go C.1 C.2.1 [(.iload_n 0, 1)] (pc' := 1) (by decide +kernel) rfl (lv' := [(0, sv_i v)]) (st' := [sv_i v]) rfl ?_
  refine sv_if C.1 C.2.1 (cnd := .lt) (off := 13) (tgt := 14) (by decide +kernel) (by decide) ⟨by omega, by omega⟩ (fun (h1 : v < 0) => ?_) (fun (h1 : ¬ (v < 0)) => ?_)
  · refine sv_go C.1 C.2.1 [(.iconst 0, 1)] (pc' := 15) (by decide +kernel) rfl (lv' := [(0, sv_i v)]) (st' := [sv_i 0]) rfl ?_
    exact sv_zret C hr (by first | exact Or.inl rfl | exact Or.inr rfl | omega) (by decide +kernel) hok (by first | exact ⟨rfl, Or.inl ⟨by omega, rfl⟩⟩ | exact ⟨rfl, Or.inr ⟨by omega, rfl⟩⟩)
  · refine sv_go C.1 C.2.1 [(.iload_n 0, 1), (.bipush 12, 2)] (pc' := 7) (by decide +kernel) rfl (lv' := [(0, sv_i v)]) (st' := [sv_i 12, sv_i v]) rfl ?_
    refine sv_icmp C.1 C.2.1 (cnd := .ge) (off := 7) (tgt := 14) (by decide +kernel) (by decide) ⟨by omega, by omega⟩ ⟨by omega, by omega⟩ (fun (h2 : 12 ≤ v) => ?_) (fun (h2 : ¬ (12 ≤ v)) => ?_)
    · refine sv_go C.1 C.2.1 [(.iconst 0, 1)] (pc' := 15) (by decide +kernel) rfl (lv' := [(0, sv_i v)]) (st' := [sv_i 0]) rfl ?_
      exact sv_zret C hr (by first | exact Or.inl rfl | exact Or.inr rfl | omega) (by decide +kernel) hok (by first | exact ⟨rfl, Or.inl ⟨by omega, rfl⟩⟩ | exact ⟨rfl, Or.inr ⟨by omega, rfl⟩⟩)
    · refine sv_go C.1 C.2.1 [(.iconst 1, 1)] (pc' := 11) (by decide +kernel) rfl (lv' := [(0, sv_i v)]) (st' := [sv_i 1]) rfl ?_
      refine sv_goto C.1 C.2.1 (off := 4) (tgt := 15) (by decide +kernel) (by decide) ?_
      exact sv_zret C hr (by first | exact Or.inl rfl | exact Or.inr rfl | omega) (by decide +kernel) hok (by first | exact ⟨rfl, Or.inl ⟨by omega, rfl⟩⟩ | exact ⟨rfl, Or.inr ⟨by omega, rfl⟩⟩)

set_option maxHeartbeats 4000000 in
set_option maxRecDepth 100000 in
theorem ct_X9_isBeginning (l : Launch) (g : sv_G) (A : Nat → Prop) (ty : Nat → Nat) (σ : Nat → Nat → Int) (hok : sv_ok ty σ) (v : Int) (hv : sv_in v) : sv_M l yX9_isBeginning cX9_isBeginning 1 (some .boolean) { frames := 0, cells := 0, slots := 0, locals := 0 } g A ty σ [sv_i v] (fun r σ' => σ = σ' ∧ sv_bo (0 ≤ v ∧ v ≤ 1440) r) := by
  refine sv_enter (by decide) (Nat.le_of_ble_eq_true rfl) ?_
  intro p e s m args below meth c C hr
  have C : sv_C g A RX9 cX9_isBeginning 1 p s m args meth c := C
  have hr : meth.sig.returnType = (some .boolean) := hr
  refine sv_same (st2 := []) (lv2 := [(0, sv_i v)]) rfl rfl ?_
  refine sv_go C.1 C.2.1 [(.iload_n 0, 1)] (pc' := 1) (by decide +kernel) rfl (lv' := [(0, sv_i v)]) (st' := [sv_i v]) rfl ?_
  refine sv_if C.1 C.2.1 (cnd := .lt) (off := 14) (tgt := 15) (by decide +kernel) (by decide) ⟨by omega, by omega⟩ (fun (h1 : v < 0) => ?_) (fun (h1 : ¬ (v < 0)) => ?_)
  · refine sv_go C.1 C.2.1 [(.iconst 0, 1)] (pc' := 16) (by decide +kernel) rfl (lv' := [(0, sv_i v)]) (st' := [sv_i 0]) rfl ?_
    exact sv_zret C hr (by first | exact Or.inl rfl | exact Or.inr rfl | omega) (by decide +kernel) hok (by first | exact ⟨rfl, Or.inl ⟨by omega, rfl⟩⟩ | exact ⟨rfl, Or.inr ⟨by omega, rfl⟩⟩)
  · refine sv_go C.1 C.2.1 [(.iload_n 0, 1), (.sipush 1440, 3)] (pc' := 8) (by decide +kernel) rfl (lv' := [(0, sv_i v)]) (st' := [sv_i 1440, sv_i v]) rfl ?_
    refine sv_icmp C.1 C.2.1 (cnd := .gt) (off := 7) (tgt := 15) (by decide +kernel) (by decide) ⟨by omega, by omega⟩ ⟨by omega, by omega⟩ (fun (h2 : 1440 < v) => ?_) (fun (h2 : ¬ (1440 < v)) => ?_)
    · refine sv_go C.1 C.2.1 [(.iconst 0, 1)] (pc' := 16) (by decide +kernel) rfl (lv' := [(0, sv_i v)]) (st' := [sv_i 0]) rfl ?_
      exact sv_zret C hr (by first | exact Or.inl rfl | exact Or.inr rfl | omega) (by decide +kernel) hok (by first | exact ⟨rfl, Or.inl ⟨by omega, rfl⟩⟩ | exact ⟨rfl, Or.inr ⟨by omega, rfl⟩⟩)
    · refine sv_go C.1 C.2.1 [(.iconst 1, 1)] (pc' := 12) (by decide +kernel) rfl (lv' := [(0, sv_i v)]) (st' := [sv_i 1]) rfl ?_
      refine sv_goto C.1 C.2.1 (off := 4) (tgt := 16) (by decide +kernel) (by decide) ?_
      exact sv_zret C hr (by first | exact Or.inl rfl | exact Or.inr rfl | omega) (by decide +kernel) hok (by first | exact ⟨rfl, Or.inl ⟨by omega, rfl⟩⟩ | exact ⟨rfl, Or.inr ⟨by omega, rfl⟩⟩)

theorem fl_X7_15 : Cond.fieldLink RX7 15 "SaintsRoad$Tape" "length" "I" ∈ lw_good := sv_mem 108 (by decide +kernel) rfl
theorem fl_X7_9 : Cond.fieldLink RX7 9 "SaintsRoad$Tape" "bytes" "[B" ∈ lw_good := sv_mem 107 (by decide +kernel) rfl
set_option maxHeartbeats 4000000 in
set_option maxRecDepth 100000 in
theorem ct_X7_addInt (l : Launch) (g : sv_G) (A : Nat → Prop) (ty : Nat → Nat) (σ : Nat → Nat → Int) (hok : sv_ok ty σ) (hTA : ∀ q, ty q ≠ 0 → A q) (hI : sv_inv sp_1 ty σ) (a : Nat) (k_a : ty a = 2) (four : Int) (h4 : sv_in four) (hL : 0 ≤ σ a 1 ∧ σ a 1 + 4 ≤ 4000) : sv_M l yX7_addInt cX7_addInt 3 none { frames := 0, cells := 0, slots := 0, locals := 0 } g A ty σ [sv_r a, sv_i four] (fun r σ' => r = [] ∧ sv_inv sp_1 ty σ' ∧ sv_off [2, 20] ty σ σ' ∧ σ' a 1 = σ a 1 + 4) := by
  refine sv_enter (by decide) (Nat.le_of_ble_eq_true rfl) ?_
  intro p e s m args below meth c C hr
  have C : sv_C g A RX7 cX7_addInt 3 p s m args meth c := C
  have hr : meth.sig.returnType = none := hr
  have hF : sv_off [2, 20] ty σ σ := sv_off.rf
  refine sv_same (st2 := []) (lv2 := [(0, sv_r a), (1, sv_i four)]) rfl rfl ?_
  refine sv_go C.1 C.2.1 [(.aload_n 0, 1)] (pc' := 1) (by decide +kernel) rfl (lv' := [(0, sv_r a), (1, sv_i four)]) (st' := [sv_r a]) rfl ?_
  have w1 := sv_ok.num hok (k := 1) (ci := 6) (r := (RX7, TX7, 2)) (by rw [k_a]; rfl) rfl (by decide)
  have w1 : sv_in (σ a 1) := w1
  refine sv_gf C (index := 15) (ci := 6) (k := 1) (r := (RX7, TX7, 2)) (v := sv_i (σ a 1)) (by decide +kernel) (by rw [k_a]; rfl) rfl (by decide) fl_X7_15 rfl ?_
  refine sv_go C.1 C.2.1 [(.iconst 4, 1), (.iadd, 1), (.sipush 4000, 3)] (pc' := 9) (by decide +kernel) rfl (lv' := [(0, sv_r a), (1, sv_i four)]) (st' := [sv_i 4000, sv_i ((σ a 1) + 4)]) rfl ?_
  refine sv_icmp_t C.1 C.2.1 (cnd := .le) (off := 4) (tgt := 13) (by decide +kernel) (by decide) ⟨by omega, by omega⟩ ⟨by omega, by omega⟩ (show ((σ a 1) + 4) ≤ 4000 by omega) ?_
  refine sv_go C.1 C.2.1 [(.bipush 24, 2), (.istore_n 2, 1)] (pc' := 16) (by decide +kernel) rfl (lv' := [(0, sv_r a), (1, sv_i four), (2, sv_i 24)]) (st' := []) rfl ?_
  have L2 : ∀ (n : Nat) (X : Int) (σ1 : Nat → Nat → Int), (sv_ok ty σ1) → (sv_inv sp_1 ty σ1) → (sv_off [2, 20] ty σ σ1) → (-8 ≤ X ∧ X ≤ 24 ∧ X % 8 = 0) → (σ1 a 1 = σ a 1 + (24 - X) / 8) → (X + 8) < (n : Int) → sv_E p l e { frames := 0, cells := 0, slots := 0, locals := 0 } s m args below meth c 3 g A ty (fun r σ' => r = [] ∧ sv_inv sp_1 ty σ' ∧ sv_off [2, 20] ty σ σ' ∧ σ' a 1 = σ a 1 + 4) σ1 16 [(0, sv_r a), (1, sv_i four), (2, sv_i X)] [] := by
    intro n
    induction n with
    | zero => intro X σ1 hok1 hI1 hF1 hX hT hmu; exact absurd hmu (by omega)
    | succ n ih3 =>
      intro X σ1 hok1 hI1 hF1 hX hT hmu
      refine sv_go C.1 C.2.1 [(.iload_n 2, 1)] (pc' := 17) (by decide +kernel) rfl (lv' := [(0, sv_r a), (1, sv_i four), (2, sv_i X)]) (st' := [sv_i X]) rfl ?_
      refine sv_if C.1 C.2.1 (cnd := .lt) (off := 32) (tgt := 49) (by decide +kernel) (by decide) ⟨by omega, by omega⟩ (fun (h4 : X < 0) => ?_) (fun (h4 : ¬ (X < 0)) => ?_)
      · exact sv_vret C hr (by decide +kernel) hok1 (⟨rfl, hI1, hF1, by rw [hT]; omega⟩)
      · refine sv_go C.1 C.2.1 [(.aload_n 0, 1)] (pc' := 21) (by decide +kernel) rfl (lv' := [(0, sv_r a), (1, sv_i four), (2, sv_i X)]) (st' := [sv_r a]) rfl ?_
        obtain ⟨q5, eq5, kq5⟩ := hI1.ref (k := 0) k_a rfl
        refine sv_gf C (index := 9) (ci := 6) (k := 0) (r := (RX7, TX7, 2)) (v := sv_r q5) (by decide +kernel) (by rw [k_a]; rfl) rfl (by decide) fl_X7_9 (congrArg sv_a eq5) ?_
        refine sv_go C.1 C.2.1 [(.aload_n 0, 1)] (pc' := 25) (by decide +kernel) rfl (lv' := [(0, sv_r a), (1, sv_i four), (2, sv_i X)]) (st' := [sv_r a, sv_r q5]) rfl ?_
        refine sv_gf C (index := 15) (ci := 6) (k := 1) (r := (RX7, TX7, 2)) (v := sv_i (σ a 1 + (24 - X) / 8)) (by decide +kernel) (by rw [k_a]; rfl) rfl (by decide) fl_X7_15 (congrArg sv_i hT) ?_
        refine sv_go C.1 C.2.1 [(.iload_n 1, 1), (.iload_n 2, 1), (.ishr, 1), (.i2b, 1)] (pc' := 32) (by decide +kernel) rfl (lv' := [(0, sv_r a), (1, sv_i four), (2, sv_i X)]) (st' := [sv_i ((Int32.ofInt ((Int32.ofInt four >>> (Int32.ofInt X &&& 31)).toInt)).toInt8.toInt32.toInt), sv_i (σ a 1 + (24 - X) / 8), sv_r q5]) rfl ?_
        have hby := sv_by (Int32.ofInt ((Int32.ofInt four >>> (Int32.ofInt X &&& 31)).toInt))
        refine sv_bs C (n := 4000) (by decide +kernel) (by rw [kq5]; rfl) (by decide) (by omega) (by omega) ⟨by omega, by omega⟩ (hTA _ (by rw [kq5]; decide)) hok1 (fun hok6 => ?_)
        have hI8 := hI1.up (a := q5) (k := (σ a 1 + (24 - X) / 8 : Int).toNat) (z := (Int32.ofInt ((Int32.ofInt four >>> (Int32.ofInt X &&& 31)).toInt)).toInt8.toInt32.toInt) (by rw [kq5]; exact trivial)
        have hF9 := hF1.up (a := q5) (k := (σ a 1 + (24 - X) / 8 : Int).toNat) (z := (Int32.ofInt ((Int32.ofInt four >>> (Int32.ofInt X &&& 31)).toInt)).toInt8.toInt32.toInt) (by rw [kq5]; decide)
        generalize eσ7 : sv_up σ1 q5 (σ a 1 + (24 - X) / 8 : Int).toNat ((Int32.ofInt ((Int32.ofInt four >>> (Int32.ofInt X &&& 31)).toInt)).toInt8.toInt32.toInt) = σ7 at hok6 hI8 hF9 ⊢
        have t10 : σ7 a 1 = σ a 1 + (24 - X) / 8 := by rw [← eσ7, sv_up_a (sv_ne k_a kq5 (by decide))]; exact hT
        have t11 : σ7 a 0 = (q5 : Int) + 1 := by rw [← eσ7, sv_up_a (sv_ne k_a kq5 (by decide))]; exact eq5
        refine sv_go C.1 C.2.1 [(.aload_n 0, 1), (.dup, 1)] (pc' := 35) (by decide +kernel) rfl (lv' := [(0, sv_r a), (1, sv_i four), (2, sv_i X)]) (st' := [sv_r a, sv_r a]) rfl ?_
        refine sv_gf C (index := 15) (ci := 6) (k := 1) (r := (RX7, TX7, 2)) (v := sv_i (σ a 1 + (24 - X) / 8)) (by decide +kernel) (by rw [k_a]; rfl) rfl (by decide) fl_X7_15 (congrArg sv_i t10) ?_
        refine sv_go C.1 C.2.1 [(.iconst 1, 1), (.iadd, 1)] (pc' := 40) (by decide +kernel) rfl (lv' := [(0, sv_r a), (1, sv_i four), (2, sv_i X)]) (st' := [sv_i ((σ a 1 + (24 - X) / 8) + 1), sv_r a]) rfl ?_
        refine sv_pf C (index := 15) (ci := 6) (k := 1) (r := (RX7, TX7, 2)) (z := (σ a 1 + (24 - X) / 8) + 1) (by decide +kernel) (by rw [k_a]; rfl) rfl (by decide) rfl fl_X7_15 rfl (Or.inl rfl) ⟨by omega, by omega⟩ (hTA _ (by rw [k_a]; decide)) hok6 (fun hok12 => ?_)
        have hI14 := hI8.up (a := a) (k := 1) (z := (σ a 1 + (24 - X) / 8) + 1) (by rw [k_a]; exact trivial)
        have hF15 := hF9.up (a := a) (k := 1) (z := (σ a 1 + (24 - X) / 8) + 1) (by rw [k_a]; decide)
        generalize eσ13 : sv_up σ7 a 1 ((σ a 1 + (24 - X) / 8) + 1) = σ13 at hok12 hI14 hF15 ⊢
        have t16 : σ13 a 0 = (q5 : Int) + 1 := by rw [← eσ13, sv_up_k (by decide)]; exact t11
        have t17 : σ13 a 1 = (σ a 1 + (24 - X) / 8) + 1 := by rw [← eσ13]; exact sv_up_s _ _ _ _
        refine sv_go C.1 C.2.1 [(.iinc 2 (-8), 3)] (pc' := 46) (by decide +kernel) rfl (lv' := [(0, sv_r a), (1, sv_i four), (2, sv_i (X + (-8)))]) (st' := []) rfl ?_
        refine sv_goto C.1 C.2.1 (off := (-30)) (tgt := 16) (by decide +kernel) (by decide) ?_
        exact ih3 (X + (-8)) σ13 hok12 hI14 hF15 (by omega) (by rw [t17]; omega) (by omega)
  exact L2 (((24 + 8 : Int)).toNat + 1) 24 σ hok hI hF (by omega) (by omega) (by omega)

theorem fl_X9_10 : Cond.fieldLink RX9 10 "SaintsRoad" "tape" "LSaintsRoad$Tape;" ∈ lw_good := sv_mem 406 (by decide +kernel) rfl
theorem fl_X9_51 : Cond.fieldLink RX9 51 "SaintsRoad$Tape" "length" "I" ∈ lw_good := sv_mem 109 (by decide +kernel) rfl
theorem ml_X9_55 : Cond.methodLink RX9 55 yX7_addInt ∈ lw_good := sv_mem 429 (by decide +kernel) rfl
theorem co_X7_addInt : Cond.code yX7_addInt cX7_addInt 3 none ∈ lw_good := sv_mem 432 (by decide +kernel) rfl
theorem in_X7 : Cond.initialized RX7 ∈ lw_good := sv_mem 73 (by decide +kernel) rfl
theorem im_X7_addInt : Cond.instanceMethod yX7_addInt ∈ lw_good := sv_mem 430 (by decide +kernel) rfl
theorem se_X7_addInt : Cond.selects RX7 yX7_addInt yX7_addInt ∈ lw_good := sv_mem 431 (by decide +kernel) rfl
set_option maxHeartbeats 4000000 in
set_option maxRecDepth 100000 in
theorem ct_X9_feed (l : Launch) (g : sv_G) (A : Nat → Prop) (ty : Nat → Nat) (σ : Nat → Nat → Int) (hok : sv_ok ty σ) (hTA : ∀ q, ty q ≠ 0 → A q) (hI : sv_inv sp_1 ty σ) (hZ : sv_inv sp_0 ty σ) (a : Nat) (k_a : ty a = 1) (a1 : Int) (ha1 : sv_in a1) (a2 : Int) (ha2 : sv_in a2) (a3 : Int) (ha3 : sv_in a3) (a4 : Int) (ha4 : sv_in a4) (a5 : Int) (ha5 : sv_in a5) : sv_M l yX9_feed cX9_feed 6 (some .int) { frames := 1, cells := 0, slots := 0, locals := 22 } g A ty σ [sv_r a, sv_i a1, sv_i a2, sv_i a3, sv_i a4, sv_i a5] (fun r σ' => r = [sv_i (20)] ∧ sv_off [2, 20] ty σ σ') := by
  refine sv_enter (by decide) (Nat.le_of_ble_eq_true rfl) ?_
  intro p e s m args below meth c C hr
  have C : sv_C g A RX9 cX9_feed 6 p s m args meth c := C
  have hr : meth.sig.returnType = (some .int) := hr
  have hF : sv_off [2, 20] ty σ σ := sv_off.rf
  refine sv_same (st2 := []) (lv2 := [(0, sv_r a), (1, sv_i a1), (2, sv_i a2), (3, sv_i a3), (4, sv_i a4), (5, sv_i a5)]) rfl rfl ?_
  refine sv_go C.1 C.2.1 [(.aload_n 0, 1)] (pc' := 1) (by decide +kernel) rfl (lv' := [(0, sv_r a), (1, sv_i a1), (2, sv_i a2), (3, sv_i a3), (4, sv_i a4), (5, sv_i a5)]) (st' := [sv_r a]) rfl ?_
  obtain ⟨q1, eq1, kq1⟩ := hI.ref (k := 0) k_a rfl
  refine sv_gf C (index := 10) (ci := 8) (k := 0) (r := (RX9, TX9, 6)) (v := sv_r q1) (by decide +kernel) (by rw [k_a]; rfl) rfl (by decide) fl_X9_10 (congrArg sv_a eq1) ?_
  have t2 : σ q1 1 = 0 := by have q := hZ.num (k := 1) kq1 rfl; omega
  refine sv_gf C (index := 51) (ci := 6) (k := 1) (r := (RX7, TX7, 2)) (v := sv_i 0) (by decide +kernel) (by rw [kq1]; rfl) rfl (by decide) fl_X9_51 (congrArg sv_i t2) ?_
  refine sv_go C.1 C.2.1 [(.bipush 20, 2), (.iadd, 1), (.sipush 4000, 3)] (pc' := 13) (by decide +kernel) rfl (lv' := [(0, sv_r a), (1, sv_i a1), (2, sv_i a2), (3, sv_i a3), (4, sv_i a4), (5, sv_i a5)]) (st' := [sv_i 4000, sv_i (0 + 20)]) rfl ?_
  refine sv_icmp_t C.1 C.2.1 (cnd := .le) (off := 6) (tgt := 19) (by decide +kernel) (by decide) ⟨by omega, by omega⟩ ⟨by omega, by omega⟩ (show (0 + 20) ≤ 4000 by omega) ?_
  refine sv_go C.1 C.2.1 [(.aload_n 0, 1)] (pc' := 20) (by decide +kernel) rfl (lv' := [(0, sv_r a), (1, sv_i a1), (2, sv_i a2), (3, sv_i a3), (4, sv_i a4), (5, sv_i a5)]) (st' := [sv_r a]) rfl ?_
  refine sv_gf C (index := 10) (ci := 8) (k := 0) (r := (RX9, TX9, 6)) (v := sv_r q1) (by decide +kernel) (by rw [k_a]; rfl) rfl (by decide) fl_X9_10 (congrArg sv_a eq1) ?_
  refine sv_go C.1 C.2.1 [(.iload_n 1, 1)] (pc' := 24) (by decide +kernel) rfl (lv' := [(0, sv_r a), (1, sv_i a1), (2, sv_i a2), (3, sv_i a3), (4, sv_i a4), (5, sv_i a5)]) (st' := [sv_i a1, sv_r q1]) rfl ?_
  refine sv_cv C (index := 55) (k := 1) (rest := []) (ci := 6) (r := (RX7, TX7, 2)) (by decide +kernel) (ct_X7_addInt l g A ty σ hok hTA hI q1 kq1 (a1) ⟨by omega, by omega⟩ (by rw [t2]; omega)) ⟨co_X7_addInt, in_X7, ⟨by decide, by decide, by decide +kernel⟩, Nat.le_of_ble_eq_true rfl, Nat.le_of_ble_eq_true rfl⟩ ml_X9_55 im_X7_addInt se_X7_addInt (by rw [kq1]; rfl) rfl rfl rfl (Nat.le_of_ble_eq_true rfl) ⟨Nat.zero_le _, Nat.zero_le _⟩ (fun r4 σ5 hpo3 hok6 => ?_)
  obtain ⟨rfl, hIu7, hFu7, xu7⟩ := hpo3
  have hGu7 := hF.tr hFu7 (by decide)
  have t8 : σ5 a 0 = (q1 : Int) + 1 := (hFu7.at k_a (by decide)).trans eq1
  have t9 : σ5 q1 1 = 0 + 4 := by rw [xu7, t2]
  refine sv_same (st2 := []) (lv2 := [(0, sv_r a), (1, sv_i a1), (2, sv_i a2), (3, sv_i a3), (4, sv_i a4), (5, sv_i a5)]) rfl rfl ?_
  refine sv_go C.1 C.2.1 [(.aload_n 0, 1)] (pc' := 28) (by decide +kernel) rfl (lv' := [(0, sv_r a), (1, sv_i a1), (2, sv_i a2), (3, sv_i a3), (4, sv_i a4), (5, sv_i a5)]) (st' := [sv_r a]) rfl ?_
  refine sv_gf C (index := 10) (ci := 8) (k := 0) (r := (RX9, TX9, 6)) (v := sv_r q1) (by decide +kernel) (by rw [k_a]; rfl) rfl (by decide) fl_X9_10 (congrArg sv_a t8) ?_
  refine sv_go C.1 C.2.1 [(.iload_n 2, 1)] (pc' := 32) (by decide +kernel) rfl (lv' := [(0, sv_r a), (1, sv_i a1), (2, sv_i a2), (3, sv_i a3), (4, sv_i a4), (5, sv_i a5)]) (st' := [sv_i a2, sv_r q1]) rfl ?_
  refine sv_cv C (index := 55) (k := 1) (rest := []) (ci := 6) (r := (RX7, TX7, 2)) (by decide +kernel) (ct_X7_addInt l g A ty σ5 hok6 hTA hIu7 q1 kq1 (a2) ⟨by omega, by omega⟩ (by rw [t9]; omega)) ⟨co_X7_addInt, in_X7, ⟨by decide, by decide, by decide +kernel⟩, Nat.le_of_ble_eq_true rfl, Nat.le_of_ble_eq_true rfl⟩ ml_X9_55 im_X7_addInt se_X7_addInt (by rw [kq1]; rfl) rfl rfl rfl (Nat.le_of_ble_eq_true rfl) ⟨Nat.zero_le _, Nat.zero_le _⟩ (fun r11 σ12 hpo10 hok13 => ?_)
  obtain ⟨rfl, hIu14, hFu14, xu14⟩ := hpo10
  have hGu14 := hGu7.tr hFu14 (by decide)
  have t15 : σ12 a 0 = (q1 : Int) + 1 := (hFu14.at k_a (by decide)).trans t8
  have t16 : σ12 q1 1 = 0 + 4 + 4 := by rw [xu14, t9]
  refine sv_same (st2 := []) (lv2 := [(0, sv_r a), (1, sv_i a1), (2, sv_i a2), (3, sv_i a3), (4, sv_i a4), (5, sv_i a5)]) rfl rfl ?_
  refine sv_go C.1 C.2.1 [(.aload_n 0, 1)] (pc' := 36) (by decide +kernel) rfl (lv' := [(0, sv_r a), (1, sv_i a1), (2, sv_i a2), (3, sv_i a3), (4, sv_i a4), (5, sv_i a5)]) (st' := [sv_r a]) rfl ?_
  refine sv_gf C (index := 10) (ci := 8) (k := 0) (r := (RX9, TX9, 6)) (v := sv_r q1) (by decide +kernel) (by rw [k_a]; rfl) rfl (by decide) fl_X9_10 (congrArg sv_a t15) ?_
  refine sv_go C.1 C.2.1 [(.iload_n 3, 1)] (pc' := 40) (by decide +kernel) rfl (lv' := [(0, sv_r a), (1, sv_i a1), (2, sv_i a2), (3, sv_i a3), (4, sv_i a4), (5, sv_i a5)]) (st' := [sv_i a3, sv_r q1]) rfl ?_
  refine sv_cv C (index := 55) (k := 1) (rest := []) (ci := 6) (r := (RX7, TX7, 2)) (by decide +kernel) (ct_X7_addInt l g A ty σ12 hok13 hTA hIu14 q1 kq1 (a3) ⟨by omega, by omega⟩ (by rw [t16]; omega)) ⟨co_X7_addInt, in_X7, ⟨by decide, by decide, by decide +kernel⟩, Nat.le_of_ble_eq_true rfl, Nat.le_of_ble_eq_true rfl⟩ ml_X9_55 im_X7_addInt se_X7_addInt (by rw [kq1]; rfl) rfl rfl rfl (Nat.le_of_ble_eq_true rfl) ⟨Nat.zero_le _, Nat.zero_le _⟩ (fun r18 σ19 hpo17 hok20 => ?_)
  obtain ⟨rfl, hIu21, hFu21, xu21⟩ := hpo17
  have hGu21 := hGu14.tr hFu21 (by decide)
  have t22 : σ19 a 0 = (q1 : Int) + 1 := (hFu21.at k_a (by decide)).trans t15
  have t23 : σ19 q1 1 = 0 + 4 + 4 + 4 := by rw [xu21, t16]
  refine sv_same (st2 := []) (lv2 := [(0, sv_r a), (1, sv_i a1), (2, sv_i a2), (3, sv_i a3), (4, sv_i a4), (5, sv_i a5)]) rfl rfl ?_
  refine sv_go C.1 C.2.1 [(.aload_n 0, 1)] (pc' := 44) (by decide +kernel) rfl (lv' := [(0, sv_r a), (1, sv_i a1), (2, sv_i a2), (3, sv_i a3), (4, sv_i a4), (5, sv_i a5)]) (st' := [sv_r a]) rfl ?_
  refine sv_gf C (index := 10) (ci := 8) (k := 0) (r := (RX9, TX9, 6)) (v := sv_r q1) (by decide +kernel) (by rw [k_a]; rfl) rfl (by decide) fl_X9_10 (congrArg sv_a t22) ?_
  refine sv_go C.1 C.2.1 [(.iload 4, 2)] (pc' := 49) (by decide +kernel) rfl (lv' := [(0, sv_r a), (1, sv_i a1), (2, sv_i a2), (3, sv_i a3), (4, sv_i a4), (5, sv_i a5)]) (st' := [sv_i a4, sv_r q1]) rfl ?_
  refine sv_cv C (index := 55) (k := 1) (rest := []) (ci := 6) (r := (RX7, TX7, 2)) (by decide +kernel) (ct_X7_addInt l g A ty σ19 hok20 hTA hIu21 q1 kq1 (a4) ⟨by omega, by omega⟩ (by rw [t23]; omega)) ⟨co_X7_addInt, in_X7, ⟨by decide, by decide, by decide +kernel⟩, Nat.le_of_ble_eq_true rfl, Nat.le_of_ble_eq_true rfl⟩ ml_X9_55 im_X7_addInt se_X7_addInt (by rw [kq1]; rfl) rfl rfl rfl (Nat.le_of_ble_eq_true rfl) ⟨Nat.zero_le _, Nat.zero_le _⟩ (fun r25 σ26 hpo24 hok27 => ?_)
  obtain ⟨rfl, hIu28, hFu28, xu28⟩ := hpo24
  have hGu28 := hGu21.tr hFu28 (by decide)
  have t29 : σ26 a 0 = (q1 : Int) + 1 := (hFu28.at k_a (by decide)).trans t22
  have t30 : σ26 q1 1 = 0 + 4 + 4 + 4 + 4 := by rw [xu28, t23]
  refine sv_same (st2 := []) (lv2 := [(0, sv_r a), (1, sv_i a1), (2, sv_i a2), (3, sv_i a3), (4, sv_i a4), (5, sv_i a5)]) rfl rfl ?_
  refine sv_go C.1 C.2.1 [(.aload_n 0, 1)] (pc' := 53) (by decide +kernel) rfl (lv' := [(0, sv_r a), (1, sv_i a1), (2, sv_i a2), (3, sv_i a3), (4, sv_i a4), (5, sv_i a5)]) (st' := [sv_r a]) rfl ?_
  refine sv_gf C (index := 10) (ci := 8) (k := 0) (r := (RX9, TX9, 6)) (v := sv_r q1) (by decide +kernel) (by rw [k_a]; rfl) rfl (by decide) fl_X9_10 (congrArg sv_a t29) ?_
  refine sv_go C.1 C.2.1 [(.iload 5, 2)] (pc' := 58) (by decide +kernel) rfl (lv' := [(0, sv_r a), (1, sv_i a1), (2, sv_i a2), (3, sv_i a3), (4, sv_i a4), (5, sv_i a5)]) (st' := [sv_i a5, sv_r q1]) rfl ?_
  refine sv_cv C (index := 55) (k := 1) (rest := []) (ci := 6) (r := (RX7, TX7, 2)) (by decide +kernel) (ct_X7_addInt l g A ty σ26 hok27 hTA hIu28 q1 kq1 (a5) ⟨by omega, by omega⟩ (by rw [t30]; omega)) ⟨co_X7_addInt, in_X7, ⟨by decide, by decide, by decide +kernel⟩, Nat.le_of_ble_eq_true rfl, Nat.le_of_ble_eq_true rfl⟩ ml_X9_55 im_X7_addInt se_X7_addInt (by rw [kq1]; rfl) rfl rfl rfl (Nat.le_of_ble_eq_true rfl) ⟨Nat.zero_le _, Nat.zero_le _⟩ (fun r32 σ33 hpo31 hok34 => ?_)
  obtain ⟨rfl, hIu35, hFu35, xu35⟩ := hpo31
  have hGu35 := hGu28.tr hFu35 (by decide)
  have t36 : σ33 a 0 = (q1 : Int) + 1 := (hFu35.at k_a (by decide)).trans t29
  have t37 : σ33 q1 1 = 0 + 4 + 4 + 4 + 4 + 4 := by rw [xu35, t30]
  refine sv_same (st2 := []) (lv2 := [(0, sv_r a), (1, sv_i a1), (2, sv_i a2), (3, sv_i a3), (4, sv_i a4), (5, sv_i a5)]) rfl rfl ?_
  refine sv_go C.1 C.2.1 [(.aload_n 0, 1)] (pc' := 62) (by decide +kernel) rfl (lv' := [(0, sv_r a), (1, sv_i a1), (2, sv_i a2), (3, sv_i a3), (4, sv_i a4), (5, sv_i a5)]) (st' := [sv_r a]) rfl ?_
  refine sv_gf C (index := 10) (ci := 8) (k := 0) (r := (RX9, TX9, 6)) (v := sv_r q1) (by decide +kernel) (by rw [k_a]; rfl) rfl (by decide) fl_X9_10 (congrArg sv_a t36) ?_
  refine sv_gf C (index := 51) (ci := 6) (k := 1) (r := (RX7, TX7, 2)) (v := sv_i (0 + 4 + 4 + 4 + 4 + 4)) (by decide +kernel) (by rw [kq1]; rfl) rfl (by decide) fl_X9_51 (congrArg sv_i t37) ?_
  exact sv_iret C hr (by decide +kernel) hok34 (⟨congrArg (fun q => [sv_i q]) (by first | omega | (unfold fx_20; omega)), hGu35⟩)

set_option maxHeartbeats 4000000 in
set_option maxRecDepth 100000 in
theorem ct_X9_end (l : Launch) (g : sv_G) (A : Nat → Prop) (ty : Nat → Nat) (σ : Nat → Nat → Int) (hok : sv_ok ty σ) (hTA : ∀ q, ty q ≠ 0 → A q) (hI : sv_inv sp_1 ty σ) (hZ : sv_inv sp_0 ty σ) (a : Nat) (k_a : ty a = 1) (n1 : Int) (hn1 : sv_in n1) : sv_M l yX9_end cX9_end 2 (some .int) { frames := 0, cells := 0, slots := 0, locals := 0 } g A ty σ [sv_r a, sv_i n1] (fun r σ' => r = [sv_i (fx_end n1)] ∧ sv_off [2] ty σ σ') := by
  refine sv_enter (by decide) (Nat.le_of_ble_eq_true rfl) ?_
  intro p e s m args below meth c C hr
  have C : sv_C g A RX9 cX9_end 2 p s m args meth c := C
  have hr : meth.sig.returnType = (some .int) := hr
  have hF : sv_off [2] ty σ σ := sv_off.rf
  refine sv_same (st2 := []) (lv2 := [(0, sv_r a), (1, sv_i n1)]) rfl rfl ?_
  refine sv_go C.1 C.2.1 [(.iload_n 1, 1)] (pc' := 1) (by decide +kernel) rfl (lv' := [(0, sv_r a), (1, sv_i n1)]) (st' := [sv_i n1]) rfl ?_
  refine sv_if C.1 C.2.1 (cnd := .lt) (off := 14) (tgt := 15) (by decide +kernel) (by decide) ⟨by omega, by omega⟩ (fun (h1 : n1 < 0) => ?_) (fun (h1 : ¬ (n1 < 0)) => ?_)
  · refine sv_go C.1 C.2.1 [(.iconst (-1), 1)] (pc' := 16) (by decide +kernel) rfl (lv' := [(0, sv_r a), (1, sv_i n1)]) (st' := [sv_i ((-1))]) rfl ?_
    exact sv_iret C hr (by decide +kernel) hok (⟨congrArg (fun q => [sv_i q]) (by first | omega | (unfold fx_end; omega)), hF⟩)
  · refine sv_go C.1 C.2.1 [(.iload_n 1, 1), (.aload_n 0, 1)] (pc' := 6) (by decide +kernel) rfl (lv' := [(0, sv_r a), (1, sv_i n1)]) (st' := [sv_r a, sv_i n1]) rfl ?_
    obtain ⟨q2, eq2, kq2⟩ := hI.ref (k := 0) k_a rfl
    refine sv_gf C (index := 10) (ci := 8) (k := 0) (r := (RX9, TX9, 6)) (v := sv_r q2) (by decide +kernel) (by rw [k_a]; rfl) rfl (by decide) fl_X9_10 (congrArg sv_a eq2) ?_
    have t3 : σ q2 1 = 0 := by have q := hZ.num (k := 1) kq2 rfl; omega
    refine sv_gf C (index := 51) (ci := 6) (k := 1) (r := (RX7, TX7, 2)) (v := sv_i 0) (by decide +kernel) (by rw [kq2]; rfl) rfl (by decide) fl_X9_51 (congrArg sv_i t3) ?_
    refine sv_icmp C.1 C.2.1 (cnd := .le) (off := 5) (tgt := 17) (by decide +kernel) (by decide) ⟨by omega, by omega⟩ ⟨by omega, by omega⟩ (fun (h4 : n1 ≤ 0) => ?_) (fun (h4 : ¬ (n1 ≤ 0)) => ?_)
    · refine sv_go C.1 C.2.1 [(.aload_n 0, 1)] (pc' := 18) (by decide +kernel) rfl (lv' := [(0, sv_r a), (1, sv_i n1)]) (st' := [sv_r a]) rfl ?_
      refine sv_gf C (index := 10) (ci := 8) (k := 0) (r := (RX9, TX9, 6)) (v := sv_r q2) (by decide +kernel) (by rw [k_a]; rfl) rfl (by decide) fl_X9_10 (congrArg sv_a eq2) ?_
      refine sv_go C.1 C.2.1 [(.iload_n 1, 1)] (pc' := 22) (by decide +kernel) rfl (lv' := [(0, sv_r a), (1, sv_i n1)]) (st' := [sv_i n1, sv_r q2]) rfl ?_
      refine sv_pf C (index := 51) (ci := 6) (k := 1) (r := (RX7, TX7, 2)) (z := n1) (by decide +kernel) (by rw [kq2]; rfl) rfl (by decide) rfl fl_X9_51 rfl (Or.inl rfl) ⟨by omega, by omega⟩ (hTA _ (by rw [kq2]; decide)) hok (fun hok5 => ?_)
      have hI7 := hI.up (a := q2) (k := 1) (z := n1) (by rw [kq2]; exact trivial)
      have hF8 := hF.up (a := q2) (k := 1) (z := n1) (by rw [kq2]; decide)
      generalize eσ6 : sv_up σ q2 1 n1 = σ6 at hok5 hI7 hF8 ⊢
      have t9 : σ6 a 0 = (q2 : Int) + 1 := by rw [← eσ6, sv_up_a (sv_ne k_a kq2 (by decide))]; exact eq2
      have t10 : σ6 q2 1 = n1 := by rw [← eσ6]; exact sv_up_s _ _ _ _
      refine sv_go C.1 C.2.1 [(.iload_n 1, 1)] (pc' := 26) (by decide +kernel) rfl (lv' := [(0, sv_r a), (1, sv_i n1)]) (st' := [sv_i n1]) rfl ?_
      exact sv_iret C hr (by decide +kernel) hok5 (⟨congrArg (fun q => [sv_i q]) (by first | omega | (unfold fx_end; omega)), hF8⟩)
    · refine sv_go C.1 C.2.1 [(.iconst (-1), 1)] (pc' := 16) (by decide +kernel) rfl (lv' := [(0, sv_r a), (1, sv_i n1)]) (st' := [sv_i ((-1))]) rfl ?_
      exact sv_iret C hr (by decide +kernel) hok (⟨congrArg (fun q => [sv_i q]) (by first | omega | (unfold fx_end; omega)), hF⟩)

theorem fl_X9_19 : Cond.fieldLink RX9 19 "SaintsRoad" "reader" "LSaintsRoad$Reader;" ∈ lw_good := sv_mem 407 (by decide +kernel) rfl
theorem fl_X9_77 : Cond.fieldLink RX9 77 "SaintsRoad$Reader" "faultKind" "I" ∈ lw_good := sv_mem 124 (by decide +kernel) rfl
theorem fl_X9_80 : Cond.fieldLink RX9 80 "SaintsRoad$Reader" "faultPlace" "I" ∈ lw_good := sv_mem 126 (by decide +kernel) rfl
set_option maxHeartbeats 4000000 in
set_option maxRecDepth 100000 in
theorem ct_X9_fault (l : Launch) (g : sv_G) (A : Nat → Prop) (ty : Nat → Nat) (σ : Nat → Nat → Int) (hok : sv_ok ty σ) (hTA : ∀ q, ty q ≠ 0 → A q) (hI : sv_inv sp_1 ty σ) (hZ : sv_inv sp_0 ty σ) (a : Nat) (k_a : ty a = 1) (w1 : Int) (hw1 : sv_in w1) : sv_M l yX9_fault cX9_fault 2 (some .int) { frames := 0, cells := 0, slots := 0, locals := 0 } g A ty σ [sv_r a, sv_i w1] (fun r σ' => r = [sv_i (fx_fault w1)] ∧ sv_off [] ty σ σ') := by
  refine sv_enter (by decide) (Nat.le_of_ble_eq_true rfl) ?_
  intro p e s m args below meth c C hr
  have C : sv_C g A RX9 cX9_fault 2 p s m args meth c := C
  have hr : meth.sig.returnType = (some .int) := hr
  have hF : sv_off [] ty σ σ := sv_off.rf
  refine sv_same (st2 := []) (lv2 := [(0, sv_r a), (1, sv_i w1)]) rfl rfl ?_
  refine sv_go C.1 C.2.1 [(.iload_n 1, 1)] (pc' := 1) (by decide +kernel) rfl (lv' := [(0, sv_r a), (1, sv_i w1)]) (st' := [sv_i w1]) rfl ?_
  rcases (show w1 = 0 ∨ w1 = 1 ∨ (w1 ≠ 0 ∧ w1 ≠ 1) by omega) with h1 | h1 | h1
  · refine sv_lsI C.1 C.2.1 (dflt := 43) (ps := #[(0, 27), (1, 35)]) (len := 27) (off := 27) (tgt := 28) (by decide +kernel) (by decide) 0 h1 (by decide) (by decide) (by decide) ?_
    refine sv_go C.1 C.2.1 [(.aload_n 0, 1)] (pc' := 29) (by decide +kernel) rfl (lv' := [(0, sv_r a), (1, sv_i w1)]) (st' := [sv_r a]) rfl ?_
    obtain ⟨q2, eq2, kq2⟩ := hI.ref (k := 1) k_a rfl
    refine sv_gf C (index := 19) (ci := 8) (k := 1) (r := (RX9, TX9, 6)) (v := sv_r q2) (by decide +kernel) (by rw [k_a]; rfl) rfl (by decide) fl_X9_19 (congrArg sv_a eq2) ?_
    have t3 : σ q2 0 = 0 := by have q := hZ.num (k := 0) kq2 rfl; omega
    refine sv_gf C (index := 77) (ci := 5) (k := 0) (r := (RX6, TX6, 13)) (v := sv_i 0) (by decide +kernel) (by rw [kq2]; rfl) rfl (by decide) fl_X9_77 (congrArg sv_i t3) ?_
    exact sv_iret C hr (by decide +kernel) hok (⟨congrArg (fun q => [sv_i q]) (by first | omega | (unfold fx_fault; omega)), hF⟩)
  · refine sv_lsI C.1 C.2.1 (dflt := 43) (ps := #[(0, 27), (1, 35)]) (len := 27) (off := 35) (tgt := 36) (by decide +kernel) (by decide) 1 h1 (by decide) (by decide) (by decide) ?_
    refine sv_go C.1 C.2.1 [(.aload_n 0, 1)] (pc' := 37) (by decide +kernel) rfl (lv' := [(0, sv_r a), (1, sv_i w1)]) (st' := [sv_r a]) rfl ?_
    obtain ⟨q4, eq4, kq4⟩ := hI.ref (k := 1) k_a rfl
    refine sv_gf C (index := 19) (ci := 8) (k := 1) (r := (RX9, TX9, 6)) (v := sv_r q4) (by decide +kernel) (by rw [k_a]; rfl) rfl (by decide) fl_X9_19 (congrArg sv_a eq4) ?_
    have t5 : σ q4 1 = (-1) := by have q := hZ.num (k := 1) kq4 rfl; omega
    refine sv_gf C (index := 80) (ci := 5) (k := 1) (r := (RX6, TX6, 13)) (v := sv_i ((-1))) (by decide +kernel) (by rw [kq4]; rfl) rfl (by decide) fl_X9_80 (congrArg sv_i t5) ?_
    exact sv_iret C hr (by decide +kernel) hok (⟨congrArg (fun q => [sv_i q]) (by first | omega | (unfold fx_fault; omega)), hF⟩)
  · refine sv_lsO C.1 C.2.1 (dflt := 43) (ps := #[(0, 27), (1, 35)]) (len := 27) (tgt := 44) (by decide +kernel) (by decide) ⟨by omega, by omega⟩ (by simp only [List.forall_mem_cons]; (repeat' constructor) <;> first | omega | (intro q hq; cases hq)) (by decide) ?_
    refine sv_go C.1 C.2.1 [(.iconst (-1), 1)] (pc' := 45) (by decide +kernel) rfl (lv' := [(0, sv_r a), (1, sv_i w1)]) (st' := [sv_i ((-1))]) rfl ?_
    exact sv_iret C hr (by decide +kernel) hok (⟨congrArg (fun q => [sv_i q]) (by first | omega | (unfold fx_fault; omega)), hF⟩)

theorem ml_X9_59 : Cond.methodLink RX9 59 yX9_isPlace ∈ lw_good := sv_mem 441 (by decide +kernel) rfl
theorem co_X9_isPlace : Cond.code yX9_isPlace cX9_isPlace 1 (some .boolean) ∈ lw_good := sv_mem 443 (by decide +kernel) rfl
theorem in_X9 : Cond.initialized RX9 ∈ lw_good := sv_mem 72 (by decide +kernel) rfl
theorem st_X9_isPlace : Cond.static yX9_isPlace ∈ lw_good := sv_mem 442 (by decide +kernel) rfl
theorem fl_X9_25 : Cond.fieldLink RX9 25 "SaintsRoad" "places" "[LSaintsRoad$Place;" ∈ lw_good := sv_mem 408 (by decide +kernel) rfl
theorem fl_X9_71 : Cond.fieldLink RX9 71 "SaintsRoad$Place" "calendar" "LSaintsRoad$Calendar;" ∈ lw_good := sv_mem 279 (by decide +kernel) rfl
theorem fl_X9_74 : Cond.fieldLink RX9 74 "SaintsRoad$Calendar" "size" "I" ∈ lw_good := sv_mem 250 (by decide +kernel) rfl
set_option maxHeartbeats 4000000 in
set_option maxRecDepth 100000 in
theorem ct_X9_isFeast (l : Launch) (g : sv_G) (A : Nat → Prop) (ty : Nat → Nat) (σ : Nat → Nat → Int) (hok : sv_ok ty σ) (hI : sv_inv sp_1 ty σ) (a : Nat) (k_a : ty a = 1) (v1 : Int) (hv1 : sv_in v1) (v2 : Int) (hv2 : sv_in v2) : sv_M l yX9_isFeast cX9_isFeast 3 (some .boolean) { frames := 1, cells := 0, slots := 0, locals := 20 } g A ty σ [sv_r a, sv_i v1, sv_i v2] (fun r σ' => σ = σ' ∧ sv_bo (False) r) := by
  refine sv_enter (by decide) (Nat.le_of_ble_eq_true rfl) ?_
  intro p e s m args below meth c C hr
  have C : sv_C g A RX9 cX9_isFeast 3 p s m args meth c := C
  have hr : meth.sig.returnType = (some .boolean) := hr
  refine sv_same (st2 := []) (lv2 := [(0, sv_r a), (1, sv_i v1), (2, sv_i v2)]) rfl rfl ?_
  refine sv_go C.1 C.2.1 [(.iload_n 1, 1)] (pc' := 1) (by decide +kernel) rfl (lv' := [(0, sv_r a), (1, sv_i v1), (2, sv_i v2)]) (st' := [sv_i v1]) rfl ?_
  refine sv_cs C (index := 59) (k := 1) (rest := []) (by decide +kernel) (ct_X9_isPlace l g A ty σ hok (v1) ⟨by omega, by omega⟩) ⟨co_X9_isPlace, in_X9, ⟨by decide, by decide, by decide +kernel⟩, Nat.le_of_ble_eq_true rfl, Nat.le_of_ble_eq_true rfl⟩ ml_X9_59 st_X9_isPlace rfl rfl (Nat.le_of_ble_eq_true rfl) ⟨Nat.zero_le _, Nat.zero_le _⟩ (fun r2 σ3 hpo1 hok4 => ?_)
  obtain ⟨rfl, ⟨h5, rfl⟩ | ⟨h5, rfl⟩⟩ := hpo1
  · refine sv_same (st2 := [sv_i 1]) (lv2 := [(0, sv_r a), (1, sv_i v1), (2, sv_i v2)]) rfl rfl ?_
    refine sv_if_f C.1 C.2.1 (cnd := .eq) (off := 27) (tgt := 31) (by decide +kernel) (by decide) ⟨by omega, by omega⟩ (show ¬ (1 = 0) by omega) ?_
    refine sv_go C.1 C.2.1 [(.iload_n 2, 1)] (pc' := 8) (by decide +kernel) rfl (lv' := [(0, sv_r a), (1, sv_i v1), (2, sv_i v2)]) (st' := [sv_i v2]) rfl ?_
    refine sv_if C.1 C.2.1 (cnd := .lt) (off := 23) (tgt := 31) (by decide +kernel) (by decide) ⟨by omega, by omega⟩ (fun (h6 : v2 < 0) => ?_) (fun (h6 : ¬ (v2 < 0)) => ?_)
    · refine sv_go C.1 C.2.1 [(.iconst 0, 1)] (pc' := 32) (by decide +kernel) rfl (lv' := [(0, sv_r a), (1, sv_i v1), (2, sv_i v2)]) (st' := [sv_i 0]) rfl ?_
      exact sv_zret C hr (by first | exact Or.inl rfl | exact Or.inr rfl | omega) (by decide +kernel) hok4 (⟨rfl, Or.inr ⟨id, rfl⟩⟩)
    · refine sv_go C.1 C.2.1 [(.iload_n 2, 1), (.aload_n 0, 1)] (pc' := 13) (by decide +kernel) rfl (lv' := [(0, sv_r a), (1, sv_i v1), (2, sv_i v2)]) (st' := [sv_r a, sv_i v2]) rfl ?_
      obtain ⟨q7, eq7, kq7⟩ := hI.ref (k := 2) k_a rfl
      refine sv_gf C (index := 25) (ci := 8) (k := 2) (r := (RX9, TX9, 6)) (v := sv_r q7) (by decide +kernel) (by rw [k_a]; rfl) rfl (by decide) fl_X9_25 (congrArg sv_a eq7) ?_
      refine sv_go C.1 C.2.1 [(.iload_n 1, 1)] (pc' := 17) (by decide +kernel) rfl (lv' := [(0, sv_r a), (1, sv_i v1), (2, sv_i v2)]) (st' := [sv_i v1, sv_r q7, sv_i v2]) rfl ?_
      refine sv_aa C (N := "SaintsRoad$Place") (by decide) (n := 4) (by decide +kernel) (by rw [kq7]; rfl) (by decide) (by omega) (by omega) ?_
      obtain ⟨q8, eq8, kq8⟩ := hI.ref (k := (v1 : Int).toNat) kq7 (by first | rfl | (show (if _ then _ else _) = _; rw [if_pos (by omega)]))
      rw [eq8]
      obtain ⟨q9, eq9, kq9⟩ := hI.ref (k := 2) kq8 rfl
      refine sv_gf C (index := 71) (ci := 3) (k := 2) (r := (RX4, TX4, 11)) (v := sv_r q9) (by decide +kernel) (by rw [kq8]; rfl) rfl (by decide) fl_X9_71 (congrArg sv_a eq9) ?_
      have t10 : σ q9 2 = 0 := by have q := hI.num (k := 2) kq9 rfl; omega
      refine sv_gf C (index := 74) (ci := 1) (k := 2) (r := (RX1, TX1, 6)) (v := sv_i 0) (by decide +kernel) (by rw [kq9]; rfl) rfl (by decide) fl_X9_74 (congrArg sv_i t10) ?_
      refine sv_icmp_t C.1 C.2.1 (cnd := .ge) (off := 7) (tgt := 31) (by decide +kernel) (by decide) ⟨by omega, by omega⟩ ⟨by omega, by omega⟩ (show 0 ≤ v2 by omega) ?_
      refine sv_go C.1 C.2.1 [(.iconst 0, 1)] (pc' := 32) (by decide +kernel) rfl (lv' := [(0, sv_r a), (1, sv_i v1), (2, sv_i v2)]) (st' := [sv_i 0]) rfl ?_
      exact sv_zret C hr (by first | exact Or.inl rfl | exact Or.inr rfl | omega) (by decide +kernel) hok4 (⟨rfl, Or.inr ⟨id, rfl⟩⟩)
  · refine sv_same (st2 := [sv_i 0]) (lv2 := [(0, sv_r a), (1, sv_i v1), (2, sv_i v2)]) rfl rfl ?_
    refine sv_if_t C.1 C.2.1 (cnd := .eq) (off := 27) (tgt := 31) (by decide +kernel) (by decide) ⟨by omega, by omega⟩ (show 0 = 0 by omega) ?_
    refine sv_go C.1 C.2.1 [(.iconst 0, 1)] (pc' := 32) (by decide +kernel) rfl (lv' := [(0, sv_r a), (1, sv_i v1), (2, sv_i v2)]) (st' := [sv_i 0]) rfl ?_
    exact sv_zret C hr (by first | exact Or.inl rfl | exact Or.inr rfl | omega) (by decide +kernel) hok4 (⟨rfl, Or.inr ⟨id, rfl⟩⟩)

set_option maxHeartbeats 4000000 in
set_option maxRecDepth 100000 in
theorem ct_J6_compare_7cf53 (l : Launch) (g : sv_G) (A : Nat → Prop) (ty : Nat → Nat) (σ : Nat → Nat → Int) (hok : sv_ok ty σ) (v1 : Int) (hv1 : sv_in v1) (v2 : Int) (hv2 : sv_in v2) : sv_M l yJ6_compare_7cf53 cJ6_compare_7cf53 2 (some .int) { frames := 0, cells := 0, slots := 0, locals := 0 } g A ty σ [sv_i v1, sv_i v2] (fun r σ' => σ = σ' ∧ r = [sv_i (fx_cmp v1 v2)]) := by
  refine sv_enter (by decide) (Nat.le_of_ble_eq_true rfl) ?_
  intro p e s m args below meth c C hr
  have C : sv_C g A RJ6 cJ6_compare_7cf53 2 p s m args meth c := C
  have hr : meth.sig.returnType = (some .int) := hr
  refine sv_same (st2 := []) (lv2 := [(0, sv_i v1), (1, sv_i v2)]) rfl rfl ?_
  refine sv_go C.1 C.2.1 [(.iload_n 0, 1), (.iload_n 1, 1)] (pc' := 2) (by decide +kernel) rfl (lv' := [(0, sv_i v1), (1, sv_i v2)]) (st' := [sv_i v2, sv_i v1]) rfl ?_
  refine sv_icmp C.1 C.2.1 (cnd := .ge) (off := 7) (tgt := 9) (by decide +kernel) (by decide) ⟨by omega, by omega⟩ ⟨by omega, by omega⟩ (fun (h1 : v2 ≤ v1) => ?_) (fun (h1 : ¬ (v2 ≤ v1)) => ?_)
  · refine sv_go C.1 C.2.1 [(.iload_n 0, 1), (.iload_n 1, 1)] (pc' := 11) (by decide +kernel) rfl (lv' := [(0, sv_i v1), (1, sv_i v2)]) (st' := [sv_i v2, sv_i v1]) rfl ?_
    refine sv_icmp C.1 C.2.1 (cnd := .ne) (off := 7) (tgt := 18) (by decide +kernel) (by decide) ⟨by omega, by omega⟩ ⟨by omega, by omega⟩ (fun (h2 : v1 ≠ v2) => ?_) (fun (h2 : ¬ (v1 ≠ v2)) => ?_)
    · refine sv_go C.1 C.2.1 [(.iconst 1, 1)] (pc' := 19) (by decide +kernel) rfl (lv' := [(0, sv_i v1), (1, sv_i v2)]) (st' := [sv_i 1]) rfl ?_
      exact sv_iret C hr (by decide +kernel) hok (⟨rfl, congrArg (fun q => [sv_i q]) (by unfold fx_cmp; omega)⟩)
    · refine sv_go C.1 C.2.1 [(.iconst 0, 1)] (pc' := 15) (by decide +kernel) rfl (lv' := [(0, sv_i v1), (1, sv_i v2)]) (st' := [sv_i 0]) rfl ?_
      refine sv_goto C.1 C.2.1 (off := 4) (tgt := 19) (by decide +kernel) (by decide) ?_
      exact sv_iret C hr (by decide +kernel) hok (⟨rfl, congrArg (fun q => [sv_i q]) (by unfold fx_cmp; omega)⟩)
  · refine sv_go C.1 C.2.1 [(.iconst (-1), 1)] (pc' := 6) (by decide +kernel) rfl (lv' := [(0, sv_i v1), (1, sv_i v2)]) (st' := [sv_i ((-1))]) rfl ?_
    refine sv_goto C.1 C.2.1 (off := 13) (tgt := 19) (by decide +kernel) (by decide) ?_
    exact sv_iret C hr (by decide +kernel) hok (⟨rfl, congrArg (fun q => [sv_i q]) (by unfold fx_cmp; omega)⟩)

theorem ml_X9_184 : Cond.methodLink RX9 184 yX9_isProcession ∈ lw_good := sv_mem 897 (by decide +kernel) rfl
theorem co_X9_isProcession : Cond.code yX9_isProcession cX9_isProcession 1 (some .boolean) ∈ lw_good := sv_mem 899 (by decide +kernel) rfl
theorem st_X9_isProcession : Cond.static yX9_isProcession ∈ lw_good := sv_mem 898 (by decide +kernel) rfl
theorem fl_X9_40 : Cond.fieldLink RX9 40 "SaintsRoad" "town" "LSaintsRoad$Town;" ∈ lw_good := sv_mem 410 (by decide +kernel) rfl
theorem fl_X9_190 : Cond.fieldLink RX9 190 "SaintsRoad$Town" "processions" "[LSaintsRoad$Procession;" ∈ lw_good := sv_mem 390 (by decide +kernel) rfl
theorem fl_X9_213 : Cond.fieldLink RX9 213 "SaintsRoad$Procession" "size" "I" ∈ lw_good := sv_mem 372 (by decide +kernel) rfl
set_option maxHeartbeats 4000000 in
set_option maxRecDepth 100000 in
theorem ct_X9_isLong (l : Launch) (g : sv_G) (A : Nat → Prop) (ty : Nat → Nat) (σ : Nat → Nat → Int) (hok : sv_ok ty σ) (hI : sv_inv sp_1 ty σ) (hZ : sv_inv sp_0 ty σ) (a : Nat) (k_a : ty a = 1) (v1 : Int) (hv1 : sv_in v1) (cn : Int) (hc : 1 ≤ cn ∧ cn ≤ 2) : sv_M l yX9_isLong cX9_isLong 3 (some .boolean) { frames := 1, cells := 0, slots := 0, locals := 20 } g A ty σ [sv_r a, sv_i v1, sv_i cn] (fun r σ' => σ = σ' ∧ sv_bo (False) r) := by
  refine sv_enter (by decide) (Nat.le_of_ble_eq_true rfl) ?_
  intro p e s m args below meth c C hr
  have C : sv_C g A RX9 cX9_isLong 3 p s m args meth c := C
  have hr : meth.sig.returnType = (some .boolean) := hr
  refine sv_same (st2 := []) (lv2 := [(0, sv_r a), (1, sv_i v1), (2, sv_i cn)]) rfl rfl ?_
  refine sv_go C.1 C.2.1 [(.iload_n 1, 1)] (pc' := 1) (by decide +kernel) rfl (lv' := [(0, sv_r a), (1, sv_i v1), (2, sv_i cn)]) (st' := [sv_i v1]) rfl ?_
  refine sv_cs C (index := 184) (k := 1) (rest := []) (by decide +kernel) (ct_X9_isProcession l g A ty σ hok (v1) ⟨by omega, by omega⟩) ⟨co_X9_isProcession, in_X9, ⟨by decide, by decide, by decide +kernel⟩, Nat.le_of_ble_eq_true rfl, Nat.le_of_ble_eq_true rfl⟩ ml_X9_184 st_X9_isProcession rfl rfl (Nat.le_of_ble_eq_true rfl) ⟨Nat.zero_le _, Nat.zero_le _⟩ (fun r2 σ3 hpo1 hok4 => ?_)
  obtain ⟨rfl, ⟨h5, rfl⟩ | ⟨h5, rfl⟩⟩ := hpo1
  · refine sv_same (st2 := [sv_i 1]) (lv2 := [(0, sv_r a), (1, sv_i v1), (2, sv_i cn)]) rfl rfl ?_
    refine sv_if_f C.1 C.2.1 (cnd := .eq) (off := 23) (tgt := 27) (by decide +kernel) (by decide) ⟨by omega, by omega⟩ (show ¬ (1 = 0) by omega) ?_
    refine sv_go C.1 C.2.1 [(.aload_n 0, 1)] (pc' := 8) (by decide +kernel) rfl (lv' := [(0, sv_r a), (1, sv_i v1), (2, sv_i cn)]) (st' := [sv_r a]) rfl ?_
    obtain ⟨q6, eq6, kq6⟩ := hI.ref (k := 4) k_a rfl
    refine sv_gf C (index := 40) (ci := 8) (k := 4) (r := (RX9, TX9, 6)) (v := sv_r q6) (by decide +kernel) (by rw [k_a]; rfl) rfl (by decide) fl_X9_40 (congrArg sv_a eq6) ?_
    obtain ⟨q7, eq7, kq7⟩ := hI.ref (k := 0) kq6 rfl
    refine sv_gf C (index := 190) (ci := 7) (k := 0) (r := (RX8, TX8, 4)) (v := sv_r q7) (by decide +kernel) (by rw [kq6]; rfl) rfl (by decide) fl_X9_190 (congrArg sv_a eq7) ?_
    refine sv_go C.1 C.2.1 [(.iload_n 1, 1)] (pc' := 15) (by decide +kernel) rfl (lv' := [(0, sv_r a), (1, sv_i v1), (2, sv_i cn)]) (st' := [sv_i v1, sv_r q7]) rfl ?_
    refine sv_aa C (N := "SaintsRoad$Procession") (by decide) (n := 12) (by decide +kernel) (by rw [kq7]; rfl) (by decide) (by omega) (by omega) ?_
    obtain ⟨q8, eq8, kq8⟩ := hI.ref (k := (v1 : Int).toNat) kq7 (by first | rfl | (show (if _ then _ else _) = _; rw [if_pos (by omega)]))
    rw [eq8]
    have t9 : σ q8 0 = 0 := by have q := hZ.num (k := 0) kq8 rfl; omega
    refine sv_gf C (index := 213) (ci := 4) (k := 0) (r := (RX5, TX5, 5)) (v := sv_i 0) (by decide +kernel) (by rw [kq8]; rfl) rfl (by decide) fl_X9_213 (congrArg sv_i t9) ?_
    refine sv_go C.1 C.2.1 [(.iload_n 2, 1)] (pc' := 20) (by decide +kernel) rfl (lv' := [(0, sv_r a), (1, sv_i v1), (2, sv_i cn)]) (st' := [sv_i cn, sv_i 0]) rfl ?_
    refine sv_icmp_t C.1 C.2.1 (cnd := .lt) (off := 7) (tgt := 27) (by decide +kernel) (by decide) ⟨by omega, by omega⟩ ⟨by omega, by omega⟩ (show 0 < cn by omega) ?_
    refine sv_go C.1 C.2.1 [(.iconst 0, 1)] (pc' := 28) (by decide +kernel) rfl (lv' := [(0, sv_r a), (1, sv_i v1), (2, sv_i cn)]) (st' := [sv_i 0]) rfl ?_
    exact sv_zret C hr (by first | exact Or.inl rfl | exact Or.inr rfl | omega) (by decide +kernel) hok4 (⟨rfl, Or.inr ⟨id, rfl⟩⟩)
  · refine sv_same (st2 := [sv_i 0]) (lv2 := [(0, sv_r a), (1, sv_i v1), (2, sv_i cn)]) rfl rfl ?_
    refine sv_if_t C.1 C.2.1 (cnd := .eq) (off := 23) (tgt := 27) (by decide +kernel) (by decide) ⟨by omega, by omega⟩ (show 0 = 0 by omega) ?_
    refine sv_go C.1 C.2.1 [(.iconst 0, 1)] (pc' := 28) (by decide +kernel) rfl (lv' := [(0, sv_r a), (1, sv_i v1), (2, sv_i cn)]) (st' := [sv_i 0]) rfl ?_
    exact sv_zret C hr (by first | exact Or.inl rfl | exact Or.inr rfl | omega) (by decide +kernel) hok4 (⟨rfl, Or.inr ⟨id, rfl⟩⟩)

theorem ml_X9_83 : Cond.methodLink RX9 83 yX9_isFeast ∈ lw_good := sv_mem 630 (by decide +kernel) rfl
theorem co_X9_isFeast : Cond.code yX9_isFeast cX9_isFeast 3 (some .boolean) ∈ lw_good := sv_mem 633 (by decide +kernel) rfl
theorem im_X9_isFeast : Cond.instanceMethod yX9_isFeast ∈ lw_good := sv_mem 632 (by decide +kernel) rfl
theorem se_X9_isFeast : Cond.selects RX9 yX9_isFeast yX9_isFeast ∈ lw_good := sv_mem 18 (by decide +kernel) rfl
set_option maxHeartbeats 4000000 in
set_option maxRecDepth 100000 in
theorem ct_X9_feast (l : Launch) (g : sv_G) (A : Nat → Prop) (ty : Nat → Nat) (σ : Nat → Nat → Int) (hok : sv_ok ty σ) (hTA : ∀ q, ty q ≠ 0 → A q) (hI : sv_inv sp_1 ty σ) (hZ : sv_inv sp_0 ty σ) (a : Nat) (k_a : ty a = 1) (v1 : Int) (hv1 : sv_in v1) (v2 : Int) (hv2 : sv_in v2) (v3 : Int) (hv3 : sv_in v3) : sv_M l yX9_feast cX9_feast 4 (some .int) { frames := 2, cells := 0, slots := 0, locals := 42 } g A ty σ [sv_r a, sv_i v1, sv_i v2, sv_i v3] (fun r σ' => r = [sv_i (-1)] ∧ sv_off [] ty σ σ') := by
  refine sv_enter (by decide) (Nat.le_of_ble_eq_true rfl) ?_
  intro p e s m args below meth c C hr
  have C : sv_C g A RX9 cX9_feast 4 p s m args meth c := C
  have hr : meth.sig.returnType = (some .int) := hr
  have hF : sv_off [] ty σ σ := sv_off.rf
  refine sv_same (st2 := []) (lv2 := [(0, sv_r a), (1, sv_i v1), (2, sv_i v2), (3, sv_i v3)]) rfl rfl ?_
  refine sv_go C.1 C.2.1 [(.aload_n 0, 1), (.iload_n 1, 1), (.iload_n 2, 1)] (pc' := 3) (by decide +kernel) rfl (lv' := [(0, sv_r a), (1, sv_i v1), (2, sv_i v2), (3, sv_i v3)]) (st' := [sv_i v2, sv_i v1, sv_r a]) rfl ?_
  refine sv_cv C (index := 83) (k := 2) (rest := []) (ci := 8) (r := (RX9, TX9, 6)) (by decide +kernel) (ct_X9_isFeast l g A ty σ hok hI a k_a (v1) ⟨by omega, by omega⟩ (v2) ⟨by omega, by omega⟩) ⟨co_X9_isFeast, in_X9, ⟨by decide, by decide, by decide +kernel⟩, Nat.le_of_ble_eq_true rfl, Nat.le_of_ble_eq_true rfl⟩ ml_X9_83 im_X9_isFeast se_X9_isFeast (by rw [k_a]; rfl) rfl rfl rfl (Nat.le_of_ble_eq_true rfl) ⟨Nat.zero_le _, Nat.zero_le _⟩ (fun r2 σ3 hpo1 hok4 => ?_)
  obtain ⟨rfl, hpo1⟩ := hpo1
  obtain rfl := sv_boF hpo1
  refine sv_same (st2 := [sv_i 0]) (lv2 := [(0, sv_r a), (1, sv_i v1), (2, sv_i v2), (3, sv_i v3)]) rfl rfl ?_
  refine sv_if_f C.1 C.2.1 (cnd := .ne) (off := 5) (tgt := 11) (by decide +kernel) (by decide) ⟨by omega, by omega⟩ (show ¬ (0 ≠ 0) by omega) ?_
  refine sv_go C.1 C.2.1 [(.iconst (-1), 1)] (pc' := 10) (by decide +kernel) rfl (lv' := [(0, sv_r a), (1, sv_i v1), (2, sv_i v2), (3, sv_i v3)]) (st' := [sv_i ((-1))]) rfl ?_
  exact sv_iret C hr (by decide +kernel) hok4 (⟨congrArg (fun q => [sv_i q]) (by first | omega | (unfold x; omega)), hF⟩)

theorem ml_X9_97 : Cond.methodLink RX9 97 yX2_isYear ∈ lw_good := sv_mem 647 (by decide +kernel) rfl
theorem ml_X9_102 : Cond.methodLink RX9 102 yX2_easterOf ∈ lw_good := sv_mem 650 (by decide +kernel) rfl
theorem co_X2_easterOf : Cond.code yX2_easterOf cX2_easterOf 3 (some .int) ∈ lw_good := sv_mem 652 (by decide +kernel) rfl
theorem st_X2_easterOf : Cond.static yX2_easterOf ∈ lw_good := sv_mem 651 (by decide +kernel) rfl
set_option maxHeartbeats 4000000 in
set_option maxRecDepth 100000 in
theorem ct_X9_easter (l : Launch) (g : sv_G) (A : Nat → Prop) (ty : Nat → Nat) (σ : Nat → Nat → Int) (hok : sv_ok ty σ) (hTA : ∀ q, ty q ≠ 0 → A q) (hI : sv_inv sp_1 ty σ) (hZ : sv_inv sp_0 ty σ) (a : Nat) (k_a : ty a = 1) (y : Int) (hy : sv_in y) : sv_M l yX9_easter cX9_easter 2 (some .int) { frames := 3, cells := 0, slots := 0, locals := 63 } g A ty σ [sv_r a, sv_i y] (fun r σ' => r = [sv_i (fx_easter y)] ∧ sv_off [] ty σ σ') := by
  refine sv_enter (by decide) (Nat.le_of_ble_eq_true rfl) ?_
  intro p e s m args below meth c C hr
  have C : sv_C g A RX9 cX9_easter 2 p s m args meth c := C
  have hr : meth.sig.returnType = (some .int) := hr
  have hF : sv_off [] ty σ σ := sv_off.rf
  refine sv_same (st2 := []) (lv2 := [(0, sv_r a), (1, sv_i y)]) rfl rfl ?_
  refine sv_go C.1 C.2.1 [(.iload_n 1, 1)] (pc' := 1) (by decide +kernel) rfl (lv' := [(0, sv_r a), (1, sv_i y)]) (st' := [sv_i y]) rfl ?_
  refine sv_cs C (index := 97) (k := 1) (rest := []) (by decide +kernel) (ct_X2_isYear l g A ty σ hok (y) ⟨by omega, by omega⟩) ⟨co_X2_isYear, in_X2, ⟨by decide, by decide, by decide +kernel⟩, Nat.le_of_ble_eq_true rfl, Nat.le_of_ble_eq_true rfl⟩ ml_X9_97 st_X2_isYear rfl rfl (Nat.le_of_ble_eq_true rfl) ⟨Nat.zero_le _, Nat.zero_le _⟩ (fun r2 σ3 hpo1 hok4 => ?_)
  obtain ⟨rfl, ⟨h5, rfl⟩ | ⟨h5, rfl⟩⟩ := hpo1
  · refine sv_same (st2 := [sv_i 1]) (lv2 := [(0, sv_r a), (1, sv_i y)]) rfl rfl ?_
    refine sv_if_f C.1 C.2.1 (cnd := .eq) (off := 10) (tgt := 14) (by decide +kernel) (by decide) ⟨by omega, by omega⟩ (show ¬ (1 = 0) by omega) ?_
    refine sv_go C.1 C.2.1 [(.iload_n 1, 1)] (pc' := 8) (by decide +kernel) rfl (lv' := [(0, sv_r a), (1, sv_i y)]) (st' := [sv_i y]) rfl ?_
    refine sv_cs C (index := 102) (k := 1) (rest := []) (by decide +kernel) (ct_X2_easterOf l g A ty σ hok4 (y) ⟨by omega, by omega⟩) ⟨co_X2_easterOf, in_X2, ⟨by decide, by decide, by decide +kernel⟩, Nat.le_of_ble_eq_true rfl, Nat.le_of_ble_eq_true rfl⟩ ml_X9_102 st_X2_easterOf rfl rfl (Nat.le_of_ble_eq_true rfl) ⟨Nat.zero_le _, Nat.zero_le _⟩ (fun r7 σ8 hpo6 hok9 => ?_)
    obtain ⟨rfl, rfl⟩ := hpo6
    refine sv_same (st2 := [sv_i (dy_ea y)]) (lv2 := [(0, sv_r a), (1, sv_i y)]) rfl rfl ?_
    refine sv_goto C.1 C.2.1 (off := 5) (tgt := 16) (by decide +kernel) (by decide) ?_
    exact sv_iret C hr (by decide +kernel) hok9 (⟨congrArg (fun q => [sv_i q]) (by first | omega | (unfold fx_easter; omega)), hF⟩)
  · refine sv_same (st2 := [sv_i 0]) (lv2 := [(0, sv_r a), (1, sv_i y)]) rfl rfl ?_
    refine sv_if_t C.1 C.2.1 (cnd := .eq) (off := 10) (tgt := 14) (by decide +kernel) (by decide) ⟨by omega, by omega⟩ (show 0 = 0 by omega) ?_
    refine sv_go C.1 C.2.1 [(.bipush (-2), 2)] (pc' := 16) (by decide +kernel) rfl (lv' := [(0, sv_r a), (1, sv_i y)]) (st' := [sv_i ((-2))]) rfl ?_
    exact sv_iret C hr (by decide +kernel) hok4 (⟨congrArg (fun q => [sv_i q]) (by first | omega | (unfold fx_easter; omega)), hF⟩)

theorem ml_X9_105 : Cond.methodLink RX9 105 yX2_isDay ∈ lw_good := sv_mem 671 (by decide +kernel) rfl
theorem co_X2_isDay : Cond.code yX2_isDay cX2_isDay 2 (some .boolean) ∈ lw_good := sv_mem 673 (by decide +kernel) rfl
theorem st_X2_isDay : Cond.static yX2_isDay ∈ lw_good := sv_mem 672 (by decide +kernel) rfl
theorem ml_X9_108 : Cond.methodLink RX9 108 yX2_monthOf ∈ lw_good := sv_mem 678 (by decide +kernel) rfl
theorem co_X2_monthOf : Cond.code yX2_monthOf cX2_monthOf 3 (some .int) ∈ lw_good := sv_mem 680 (by decide +kernel) rfl
theorem st_X2_monthOf : Cond.static yX2_monthOf ∈ lw_good := sv_mem 679 (by decide +kernel) rfl
theorem ml_X9_112 : Cond.methodLink RX9 112 yX2_monthStart ∈ lw_good := sv_mem 681 (by decide +kernel) rfl
theorem ml_X9_115 : Cond.methodLink RX9 115 yX2_weekday ∈ lw_good := sv_mem 682 (by decide +kernel) rfl
set_option maxHeartbeats 4000000 in
set_option maxRecDepth 100000 in
theorem ct_X9_date (l : Launch) (g : sv_G) (A : Nat → Prop) (ty : Nat → Nat) (σ : Nat → Nat → Int) (hok : sv_ok ty σ) (hTA : ∀ q, ty q ≠ 0 → A q) (hI : sv_inv sp_1 ty σ) (hZ : sv_inv sp_0 ty σ) (a : Nat) (k_a : ty a = 1) (y : Int) (hy : sv_in y) (d : Int) (hd : sv_in d) (w1 : Int) (hw1 : sv_in w1) : sv_M l yX9_date cX9_date 5 (some .int) { frames := 3, cells := 0, slots := 0, locals := 63 } g A ty σ [sv_r a, sv_i y, sv_i d, sv_i w1] (fun r σ' => r = [sv_i (fx_date y d w1)] ∧ sv_off [] ty σ σ') := by
  refine sv_enter (by decide) (Nat.le_of_ble_eq_true rfl) ?_
  intro p e s m args below meth c C hr
  have C : sv_C g A RX9 cX9_date 5 p s m args meth c := C
  have hr : meth.sig.returnType = (some .int) := hr
  have hF : sv_off [] ty σ σ := sv_off.rf
  have hlp := dy_lp_in y
  refine sv_same (st2 := []) (lv2 := [(0, sv_r a), (1, sv_i y), (2, sv_i d), (3, sv_i w1)]) rfl rfl ?_
  refine sv_go C.1 C.2.1 [(.iload_n 1, 1), (.iload_n 2, 1)] (pc' := 2) (by decide +kernel) rfl (lv' := [(0, sv_r a), (1, sv_i y), (2, sv_i d), (3, sv_i w1)]) (st' := [sv_i d, sv_i y]) rfl ?_
  refine sv_cs C (index := 105) (k := 2) (rest := []) (by decide +kernel) (ct_X2_isDay l g A ty σ hok (y) ⟨by omega, by omega⟩ (d) ⟨by omega, by omega⟩) ⟨co_X2_isDay, in_X2, ⟨by decide, by decide, by decide +kernel⟩, Nat.le_of_ble_eq_true rfl, Nat.le_of_ble_eq_true rfl⟩ ml_X9_105 st_X2_isDay rfl rfl (Nat.le_of_ble_eq_true rfl) ⟨Nat.zero_le _, Nat.zero_le _⟩ (fun r2 σ3 hpo1 hok4 => ?_)
  obtain ⟨rfl, ⟨h5, rfl⟩ | ⟨h5, rfl⟩⟩ := hpo1
  · refine sv_same (st2 := [sv_i 1]) (lv2 := [(0, sv_r a), (1, sv_i y), (2, sv_i d), (3, sv_i w1)]) rfl rfl ?_
    refine sv_if_t C.1 C.2.1 (cnd := .ne) (off := 5) (tgt := 10) (by decide +kernel) (by decide) ⟨by omega, by omega⟩ (show 1 ≠ 0 by omega) ?_
    refine sv_go C.1 C.2.1 [(.iload_n 1, 1), (.iload_n 2, 1)] (pc' := 12) (by decide +kernel) rfl (lv' := [(0, sv_r a), (1, sv_i y), (2, sv_i d), (3, sv_i w1)]) (st' := [sv_i d, sv_i y]) rfl ?_
    refine sv_cs C (index := 108) (k := 2) (rest := []) (by decide +kernel) (ct_X2_monthOf l g A ty σ hok4 (y) ⟨by omega, by omega⟩ (d) ⟨by omega, by omega⟩) ⟨co_X2_monthOf, in_X2, ⟨by decide, by decide, by decide +kernel⟩, Nat.le_of_ble_eq_true rfl, Nat.le_of_ble_eq_true rfl⟩ ml_X9_108 st_X2_monthOf rfl rfl (Nat.le_of_ble_eq_true rfl) ⟨Nat.zero_le _, Nat.zero_le _⟩ (fun r7 σ8 hpo6 hok9 => ?_)
    obtain ⟨rfl, M10, rfl, hM10a, hM10b, hM10c⟩ := hpo6
    refine sv_same (st2 := [sv_i M10]) (lv2 := [(0, sv_r a), (1, sv_i y), (2, sv_i d), (3, sv_i w1)]) rfl rfl ?_
    refine sv_go C.1 C.2.1 [(.istore 4, 2), (.iload_n 3, 1)] (pc' := 18) (by decide +kernel) rfl (lv' := [(0, sv_r a), (1, sv_i y), (2, sv_i d), (3, sv_i w1), (4, sv_i M10)]) (st' := [sv_i w1]) rfl ?_
    have hmo := dy_mo_of (y := y) (d := d) (M := M10) (by omega) (by omega) (by omega) (by omega) (by omega)
    rcases (show w1 = 0 ∨ w1 = 1 ∨ w1 = 2 ∨ (w1 ≠ 0 ∧ w1 ≠ 1 ∧ w1 ≠ 2) by omega) with h11 | h11 | h11 | h11
    · refine sv_tsI C.1 C.2.1 (dflt := 46) (lo := 0) (hi := 2) (offs := #[26, 29, 40]) (len := 26) (off := 26) (tgt := 44) (by decide +kernel) 0 h11 (by decide) rfl (by decide) ?_
      refine sv_go C.1 C.2.1 [(.iload 4, 2)] (pc' := 46) (by decide +kernel) rfl (lv' := [(0, sv_r a), (1, sv_i y), (2, sv_i d), (3, sv_i w1), (4, sv_i M10)]) (st' := [sv_i M10]) rfl ?_
      exact sv_iret C hr (by decide +kernel) hok9 (⟨congrArg (fun q => [sv_i q]) (by first | (unfold fx_date; omega) | (unfold fx_date; rw [← hmo]; omega)), hF⟩)
    · refine sv_tsI C.1 C.2.1 (dflt := 46) (lo := 0) (hi := 2) (offs := #[26, 29, 40]) (len := 26) (off := 29) (tgt := 47) (by decide +kernel) 1 h11 (by decide) rfl (by decide) ?_
      refine sv_go C.1 C.2.1 [(.iload_n 2, 1), (.iload_n 1, 1), (.iload 4, 2)] (pc' := 51) (by decide +kernel) rfl (lv' := [(0, sv_r a), (1, sv_i y), (2, sv_i d), (3, sv_i w1), (4, sv_i M10)]) (st' := [sv_i M10, sv_i y, sv_i d]) rfl ?_
      refine sv_cs C (index := 112) (k := 2) (rest := [sv_i d]) (by decide +kernel) (ct_X2_monthStart l g A ty σ hok9 (y) ⟨by omega, by omega⟩ (M10) ⟨by omega, by omega⟩) ⟨co_X2_monthStart, in_X2, ⟨by decide, by decide, by decide +kernel⟩, Nat.le_of_ble_eq_true rfl, Nat.le_of_ble_eq_true rfl⟩ ml_X9_112 st_X2_monthStart rfl rfl (Nat.le_of_ble_eq_true rfl) ⟨Nat.zero_le _, Nat.zero_le _⟩ (fun r13 σ14 hpo12 hok15 => ?_)
      obtain ⟨rfl, rfl⟩ := hpo12
      have hn16 := dy_ms_in y M10
      refine sv_same (st2 := [sv_i (dy_ms y M10), sv_i d]) (lv2 := [(0, sv_r a), (1, sv_i y), (2, sv_i d), (3, sv_i w1), (4, sv_i M10)]) rfl rfl ?_
      refine sv_go C.1 C.2.1 [(.isub, 1), (.iconst 1, 1), (.iadd, 1)] (pc' := 57) (by decide +kernel) rfl (lv' := [(0, sv_r a), (1, sv_i y), (2, sv_i d), (3, sv_i w1), (4, sv_i M10)]) (st' := [sv_i ((d - (dy_ms y M10)) + 1)]) rfl ?_
      exact sv_iret C hr (by decide +kernel) hok15 (⟨congrArg (fun q => [sv_i q]) (by first | (unfold fx_date; omega) | (unfold fx_date; rw [← hmo]; omega)), hF⟩)
    · refine sv_tsI C.1 C.2.1 (dflt := 46) (lo := 0) (hi := 2) (offs := #[26, 29, 40]) (len := 26) (off := 40) (tgt := 58) (by decide +kernel) 2 h11 (by decide) rfl (by decide) ?_
      refine sv_go C.1 C.2.1 [(.iload_n 1, 1), (.iload_n 2, 1)] (pc' := 60) (by decide +kernel) rfl (lv' := [(0, sv_r a), (1, sv_i y), (2, sv_i d), (3, sv_i w1), (4, sv_i M10)]) (st' := [sv_i d, sv_i y]) rfl ?_
      refine sv_cs C (index := 115) (k := 2) (rest := []) (by decide +kernel) (ct_X2_weekday l g A ty σ hok9 (y) ⟨by omega, by omega⟩ (d) ⟨by omega, by omega⟩) ⟨co_X2_weekday, in_X2, ⟨by decide, by decide, by decide +kernel⟩, Nat.le_of_ble_eq_true rfl, Nat.le_of_ble_eq_true rfl⟩ ml_X9_115 st_X2_weekday rfl rfl (Nat.le_of_ble_eq_true rfl) ⟨Nat.zero_le _, Nat.zero_le _⟩ (fun r18 σ19 hpo17 hok20 => ?_)
      obtain ⟨rfl, rfl⟩ := hpo17
      refine sv_same (st2 := [sv_i (dy_wd y d)]) (lv2 := [(0, sv_r a), (1, sv_i y), (2, sv_i d), (3, sv_i w1), (4, sv_i M10)]) rfl rfl ?_
      exact sv_iret C hr (by decide +kernel) hok20 (⟨congrArg (fun q => [sv_i q]) (by first | (unfold fx_date; omega) | (unfold fx_date; rw [← hmo]; omega)), hF⟩)
    · refine sv_tsO C.1 C.2.1 (dflt := 46) (lo := 0) (hi := 2) (offs := #[26, 29, 40]) (len := 26) (tgt := 64) (by decide +kernel) ⟨by omega, by omega⟩ (by omega) (by decide) ?_
      refine sv_go C.1 C.2.1 [(.iconst (-1), 1)] (pc' := 65) (by decide +kernel) rfl (lv' := [(0, sv_r a), (1, sv_i y), (2, sv_i d), (3, sv_i w1), (4, sv_i M10)]) (st' := [sv_i ((-1))]) rfl ?_
      exact sv_iret C hr (by decide +kernel) hok9 (⟨congrArg (fun q => [sv_i q]) (by first | (unfold fx_date; omega) | (unfold fx_date; rw [← hmo]; omega)), hF⟩)
  · refine sv_same (st2 := [sv_i 0]) (lv2 := [(0, sv_r a), (1, sv_i y), (2, sv_i d), (3, sv_i w1)]) rfl rfl ?_
    refine sv_if_f C.1 C.2.1 (cnd := .ne) (off := 5) (tgt := 10) (by decide +kernel) (by decide) ⟨by omega, by omega⟩ (show ¬ (0 ≠ 0) by omega) ?_
    refine sv_go C.1 C.2.1 [(.iconst (-1), 1)] (pc' := 9) (by decide +kernel) rfl (lv' := [(0, sv_r a), (1, sv_i y), (2, sv_i d), (3, sv_i w1)]) (st' := [sv_i ((-1))]) rfl ?_
    exact sv_iret C hr (by decide +kernel) hok4 (⟨congrArg (fun q => [sv_i q]) (by first | (unfold fx_date; omega) | (unfold fx_date; rw [← hmo]; omega)), hF⟩)

set_option maxHeartbeats 4000000 in
set_option maxRecDepth 100000 in
theorem ct_X9_held (l : Launch) (g : sv_G) (A : Nat → Prop) (ty : Nat → Nat) (σ : Nat → Nat → Int) (hok : sv_ok ty σ) (hTA : ∀ q, ty q ≠ 0 → A q) (hI : sv_inv sp_1 ty σ) (hZ : sv_inv sp_0 ty σ) (a : Nat) (k_a : ty a = 1) (v1 : Int) (hv1 : sv_in v1) (v2 : Int) (hv2 : sv_in v2) (v3 : Int) (hv3 : sv_in v3) : sv_M l yX9_held cX9_held 4 (some .int) { frames := 2, cells := 0, slots := 0, locals := 42 } g A ty σ [sv_r a, sv_i v1, sv_i v2, sv_i v3] (fun r σ' => r = [sv_i (-2)] ∧ sv_off [] ty σ σ') := by
  refine sv_enter (by decide) (Nat.le_of_ble_eq_true rfl) ?_
  intro p e s m args below meth c C hr
  have C : sv_C g A RX9 cX9_held 4 p s m args meth c := C
  have hr : meth.sig.returnType = (some .int) := hr
  have hF : sv_off [] ty σ σ := sv_off.rf
  refine sv_same (st2 := []) (lv2 := [(0, sv_r a), (1, sv_i v1), (2, sv_i v2), (3, sv_i v3)]) rfl rfl ?_
  refine sv_go C.1 C.2.1 [(.aload_n 0, 1), (.iload_n 1, 1), (.iload_n 3, 1)] (pc' := 3) (by decide +kernel) rfl (lv' := [(0, sv_r a), (1, sv_i v1), (2, sv_i v2), (3, sv_i v3)]) (st' := [sv_i v3, sv_i v1, sv_r a]) rfl ?_
  refine sv_cv C (index := 83) (k := 2) (rest := []) (ci := 8) (r := (RX9, TX9, 6)) (by decide +kernel) (ct_X9_isFeast l g A ty σ hok hI a k_a (v1) ⟨by omega, by omega⟩ (v3) ⟨by omega, by omega⟩) ⟨co_X9_isFeast, in_X9, ⟨by decide, by decide, by decide +kernel⟩, Nat.le_of_ble_eq_true rfl, Nat.le_of_ble_eq_true rfl⟩ ml_X9_83 im_X9_isFeast se_X9_isFeast (by rw [k_a]; rfl) rfl rfl rfl (Nat.le_of_ble_eq_true rfl) ⟨Nat.zero_le _, Nat.zero_le _⟩ (fun r2 σ3 hpo1 hok4 => ?_)
  obtain ⟨rfl, hpo1⟩ := hpo1
  obtain rfl := sv_boF hpo1
  refine sv_same (st2 := [sv_i 0]) (lv2 := [(0, sv_r a), (1, sv_i v1), (2, sv_i v2), (3, sv_i v3)]) rfl rfl ?_
  refine sv_if_t C.1 C.2.1 (cnd := .eq) (off := 10) (tgt := 16) (by decide +kernel) (by decide) ⟨by omega, by omega⟩ (show 0 = 0 by omega) ?_
  refine sv_go C.1 C.2.1 [(.bipush (-2), 2)] (pc' := 18) (by decide +kernel) rfl (lv' := [(0, sv_r a), (1, sv_i v1), (2, sv_i v2), (3, sv_i v3)]) (st' := [sv_i ((-2))]) rfl ?_
  exact sv_iret C hr (by decide +kernel) hok4 (⟨congrArg (fun q => [sv_i q]) (by first | omega | (unfold x; omega)), hF⟩)

set_option maxHeartbeats 4000000 in
set_option maxRecDepth 100000 in
theorem ct_X9_own (l : Launch) (g : sv_G) (A : Nat → Prop) (ty : Nat → Nat) (σ : Nat → Nat → Int) (hok : sv_ok ty σ) (hTA : ∀ q, ty q ≠ 0 → A q) (hI : sv_inv sp_1 ty σ) (hZ : sv_inv sp_0 ty σ) (a : Nat) (k_a : ty a = 1) (v1 : Int) (hv1 : sv_in v1) (v2 : Int) (hv2 : sv_in v2) (v3 : Int) (hv3 : sv_in v3) : sv_M l yX9_own cX9_own 4 (some .int) { frames := 2, cells := 0, slots := 0, locals := 42 } g A ty σ [sv_r a, sv_i v1, sv_i v2, sv_i v3] (fun r σ' => r = [sv_i (-2)] ∧ sv_off [] ty σ σ') := by
  refine sv_enter (by decide) (Nat.le_of_ble_eq_true rfl) ?_
  intro p e s m args below meth c C hr
  have C : sv_C g A RX9 cX9_own 4 p s m args meth c := C
  have hr : meth.sig.returnType = (some .int) := hr
  have hF : sv_off [] ty σ σ := sv_off.rf
  refine sv_same (st2 := []) (lv2 := [(0, sv_r a), (1, sv_i v1), (2, sv_i v2), (3, sv_i v3)]) rfl rfl ?_
  refine sv_go C.1 C.2.1 [(.aload_n 0, 1), (.iload_n 1, 1), (.iload_n 3, 1)] (pc' := 3) (by decide +kernel) rfl (lv' := [(0, sv_r a), (1, sv_i v1), (2, sv_i v2), (3, sv_i v3)]) (st' := [sv_i v3, sv_i v1, sv_r a]) rfl ?_
  refine sv_cv C (index := 83) (k := 2) (rest := []) (ci := 8) (r := (RX9, TX9, 6)) (by decide +kernel) (ct_X9_isFeast l g A ty σ hok hI a k_a (v1) ⟨by omega, by omega⟩ (v3) ⟨by omega, by omega⟩) ⟨co_X9_isFeast, in_X9, ⟨by decide, by decide, by decide +kernel⟩, Nat.le_of_ble_eq_true rfl, Nat.le_of_ble_eq_true rfl⟩ ml_X9_83 im_X9_isFeast se_X9_isFeast (by rw [k_a]; rfl) rfl rfl rfl (Nat.le_of_ble_eq_true rfl) ⟨Nat.zero_le _, Nat.zero_le _⟩ (fun r2 σ3 hpo1 hok4 => ?_)
  obtain ⟨rfl, hpo1⟩ := hpo1
  obtain rfl := sv_boF hpo1
  refine sv_same (st2 := [sv_i 0]) (lv2 := [(0, sv_r a), (1, sv_i v1), (2, sv_i v2), (3, sv_i v3)]) rfl rfl ?_
  refine sv_if_t C.1 C.2.1 (cnd := .eq) (off := 10) (tgt := 16) (by decide +kernel) (by decide) ⟨by omega, by omega⟩ (show 0 = 0 by omega) ?_
  refine sv_go C.1 C.2.1 [(.bipush (-2), 2)] (pc' := 18) (by decide +kernel) rfl (lv' := [(0, sv_r a), (1, sv_i v1), (2, sv_i v2), (3, sv_i v3)]) (st' := [sv_i ((-2))]) rfl ?_
  exact sv_iret C hr (by decide +kernel) hok4 (⟨congrArg (fun q => [sv_i q]) (by first | omega | (unfold x; omega)), hF⟩)

theorem fl_X0_40 : Cond.fieldLink RX0 40 "SaintsRoad$Brotherhoods" "turns" "I" ∈ lw_good := sv_mem 321 (by decide +kernel) rfl
set_option maxHeartbeats 4000000 in
set_option maxRecDepth 100000 in
theorem ct_X0_tellTurn (l : Launch) (g : sv_G) (A : Nat → Prop) (ty : Nat → Nat) (σ : Nat → Nat → Int) (hok : sv_ok ty σ) (hI : sv_inv sp_1 ty σ) (hZ : sv_inv sp_0 ty σ) (a : Nat) (k_a : ty a = 5) (v1 : Int) (hv1 : sv_in v1) (v2 : Int) (hv2 : sv_in v2) : sv_M l yX0_tellTurn cX0_tellTurn 3 (some .int) { frames := 0, cells := 0, slots := 0, locals := 0 } g A ty σ [sv_r a, sv_i v1, sv_i v2] (fun r σ' => σ = σ' ∧ r = [sv_i (-1)]) := by
  refine sv_enter (by decide) (Nat.le_of_ble_eq_true rfl) ?_
  intro p e s m args below meth c C hr
  have C : sv_C g A RX0 cX0_tellTurn 3 p s m args meth c := C
  have hr : meth.sig.returnType = (some .int) := hr
  refine sv_same (st2 := []) (lv2 := [(0, sv_r a), (1, sv_i v1), (2, sv_i v2)]) rfl rfl ?_
  refine sv_go C.1 C.2.1 [(.iload_n 1, 1)] (pc' := 1) (by decide +kernel) rfl (lv' := [(0, sv_r a), (1, sv_i v1), (2, sv_i v2)]) (st' := [sv_i v1]) rfl ?_
  refine sv_if C.1 C.2.1 (cnd := .lt) (off := 18) (tgt := 19) (by decide +kernel) (by decide) ⟨by omega, by omega⟩ (fun (h1 : v1 < 0) => ?_) (fun (h1 : ¬ (v1 < 0)) => ?_)
  · refine sv_go C.1 C.2.1 [(.iconst (-1), 1)] (pc' := 20) (by decide +kernel) rfl (lv' := [(0, sv_r a), (1, sv_i v1), (2, sv_i v2)]) (st' := [sv_i ((-1))]) rfl ?_
    exact sv_iret C hr (by decide +kernel) hok (⟨rfl, rfl⟩)
  · refine sv_go C.1 C.2.1 [(.iload_n 1, 1), (.aload_n 0, 1)] (pc' := 6) (by decide +kernel) rfl (lv' := [(0, sv_r a), (1, sv_i v1), (2, sv_i v2)]) (st' := [sv_r a, sv_i v1]) rfl ?_
    have t2 : σ a 2 = 0 := by have q := hZ.num (k := 2) k_a rfl; omega
    refine sv_gf C (index := 40) (ci := 0) (k := 2) (r := (RX0, TX0, 12)) (v := sv_i 0) (by decide +kernel) (by rw [k_a]; rfl) rfl (by decide) fl_X0_40 (congrArg sv_i t2) ?_
    refine sv_icmp_t C.1 C.2.1 (cnd := .ge) (off := 10) (tgt := 19) (by decide +kernel) (by decide) ⟨by omega, by omega⟩ ⟨by omega, by omega⟩ (show 0 ≤ v1 by omega) ?_
    refine sv_go C.1 C.2.1 [(.iconst (-1), 1)] (pc' := 20) (by decide +kernel) rfl (lv' := [(0, sv_r a), (1, sv_i v1), (2, sv_i v2)]) (st' := [sv_i ((-1))]) rfl ?_
    exact sv_iret C hr (by decide +kernel) hok (⟨rfl, rfl⟩)

theorem fl_X9_33 : Cond.fieldLink RX9 33 "SaintsRoad" "brotherhoods" "LSaintsRoad$Brotherhoods;" ∈ lw_good := sv_mem 409 (by decide +kernel) rfl
theorem ml_X9_171 : Cond.methodLink RX9 171 yX0_tellTurn ∈ lw_good := sv_mem 866 (by decide +kernel) rfl
theorem co_X0_tellTurn : Cond.code yX0_tellTurn cX0_tellTurn 3 (some .int) ∈ lw_good := sv_mem 869 (by decide +kernel) rfl
theorem in_X0 : Cond.initialized RX0 ∈ lw_good := sv_mem 79 (by decide +kernel) rfl
theorem im_X0_tellTurn : Cond.instanceMethod yX0_tellTurn ∈ lw_good := sv_mem 867 (by decide +kernel) rfl
theorem se_X0_tellTurn : Cond.selects RX0 yX0_tellTurn yX0_tellTurn ∈ lw_good := sv_mem 868 (by decide +kernel) rfl
set_option maxHeartbeats 4000000 in
set_option maxRecDepth 100000 in
theorem ct_X9_turn (l : Launch) (g : sv_G) (A : Nat → Prop) (ty : Nat → Nat) (σ : Nat → Nat → Int) (hok : sv_ok ty σ) (hTA : ∀ q, ty q ≠ 0 → A q) (hI : sv_inv sp_1 ty σ) (hZ : sv_inv sp_0 ty σ) (a : Nat) (k_a : ty a = 1) (v1 : Int) (hv1 : sv_in v1) (v2 : Int) (hv2 : sv_in v2) : sv_M l yX9_turn cX9_turn 3 (some .int) { frames := 1, cells := 0, slots := 0, locals := 22 } g A ty σ [sv_r a, sv_i v1, sv_i v2] (fun r σ' => r = [sv_i (-1)] ∧ sv_off [] ty σ σ') := by
  refine sv_enter (by decide) (Nat.le_of_ble_eq_true rfl) ?_
  intro p e s m args below meth c C hr
  have C : sv_C g A RX9 cX9_turn 3 p s m args meth c := C
  have hr : meth.sig.returnType = (some .int) := hr
  have hF : sv_off [] ty σ σ := sv_off.rf
  refine sv_same (st2 := []) (lv2 := [(0, sv_r a), (1, sv_i v1), (2, sv_i v2)]) rfl rfl ?_
  refine sv_go C.1 C.2.1 [(.aload_n 0, 1)] (pc' := 1) (by decide +kernel) rfl (lv' := [(0, sv_r a), (1, sv_i v1), (2, sv_i v2)]) (st' := [sv_r a]) rfl ?_
  obtain ⟨q1, eq1, kq1⟩ := hI.ref (k := 3) k_a rfl
  refine sv_gf C (index := 33) (ci := 8) (k := 3) (r := (RX9, TX9, 6)) (v := sv_r q1) (by decide +kernel) (by rw [k_a]; rfl) rfl (by decide) fl_X9_33 (congrArg sv_a eq1) ?_
  refine sv_go C.1 C.2.1 [(.iload_n 1, 1), (.iload_n 2, 1)] (pc' := 6) (by decide +kernel) rfl (lv' := [(0, sv_r a), (1, sv_i v1), (2, sv_i v2)]) (st' := [sv_i v2, sv_i v1, sv_r q1]) rfl ?_
  refine sv_cv C (index := 171) (k := 2) (rest := []) (ci := 0) (r := (RX0, TX0, 12)) (by decide +kernel) (ct_X0_tellTurn l g A ty σ hok hI hZ q1 kq1 (v1) ⟨by omega, by omega⟩ (v2) ⟨by omega, by omega⟩) ⟨co_X0_tellTurn, in_X0, ⟨by decide, by decide, by decide +kernel⟩, Nat.le_of_ble_eq_true rfl, Nat.le_of_ble_eq_true rfl⟩ ml_X9_171 im_X0_tellTurn se_X0_tellTurn (by rw [kq1]; rfl) rfl rfl rfl (Nat.le_of_ble_eq_true rfl) ⟨Nat.zero_le _, Nat.zero_le _⟩ (fun r3 σ4 hpo2 hok5 => ?_)
  obtain ⟨rfl, rfl⟩ := hpo2
  refine sv_same (st2 := [sv_i ((-1))]) (lv2 := [(0, sv_r a), (1, sv_i v1), (2, sv_i v2)]) rfl rfl ?_
  exact sv_iret C hr (by decide +kernel) hok5 (⟨congrArg (fun q => [sv_i q]) (by first | omega | (unfold x; omega)), hF⟩)

theorem ml_X9_154 : Cond.methodLink RX9 154 yX9_isBrotherhood ∈ lw_good := sv_mem 824 (by decide +kernel) rfl
theorem co_X9_isBrotherhood : Cond.code yX9_isBrotherhood cX9_isBrotherhood 1 (some .boolean) ∈ lw_good := sv_mem 826 (by decide +kernel) rfl
theorem st_X9_isBrotherhood : Cond.static yX9_isBrotherhood ∈ lw_good := sv_mem 825 (by decide +kernel) rfl
theorem fl_X9_174 : Cond.fieldLink RX9 174 "SaintsRoad$Brotherhoods" "carriedBy" "[I" ∈ lw_good := sv_mem 318 (by decide +kernel) rfl
set_option maxHeartbeats 4000000 in
set_option maxRecDepth 100000 in
theorem ct_X9_carried (l : Launch) (g : sv_G) (A : Nat → Prop) (ty : Nat → Nat) (σ : Nat → Nat → Int) (hok : sv_ok ty σ) (hTA : ∀ q, ty q ≠ 0 → A q) (hI : sv_inv sp_1 ty σ) (hZ : sv_inv sp_0 ty σ) (a : Nat) (k_a : ty a = 1) (v1 : Int) (hv1 : sv_in v1) : sv_M l yX9_carried cX9_carried 2 (some .int) { frames := 1, cells := 0, slots := 0, locals := 20 } g A ty σ [sv_r a, sv_i v1] (fun r σ' => r = [sv_i (fx_br v1)] ∧ sv_off [] ty σ σ') := by
  refine sv_enter (by decide) (Nat.le_of_ble_eq_true rfl) ?_
  intro p e s m args below meth c C hr
  have C : sv_C g A RX9 cX9_carried 2 p s m args meth c := C
  have hr : meth.sig.returnType = (some .int) := hr
  have hF : sv_off [] ty σ σ := sv_off.rf
  refine sv_same (st2 := []) (lv2 := [(0, sv_r a), (1, sv_i v1)]) rfl rfl ?_
  refine sv_go C.1 C.2.1 [(.iload_n 1, 1)] (pc' := 1) (by decide +kernel) rfl (lv' := [(0, sv_r a), (1, sv_i v1)]) (st' := [sv_i v1]) rfl ?_
  refine sv_cs C (index := 154) (k := 1) (rest := []) (by decide +kernel) (ct_X9_isBrotherhood l g A ty σ hok (v1) ⟨by omega, by omega⟩) ⟨co_X9_isBrotherhood, in_X9, ⟨by decide, by decide, by decide +kernel⟩, Nat.le_of_ble_eq_true rfl, Nat.le_of_ble_eq_true rfl⟩ ml_X9_154 st_X9_isBrotherhood rfl rfl (Nat.le_of_ble_eq_true rfl) ⟨Nat.zero_le _, Nat.zero_le _⟩ (fun r2 σ3 hpo1 hok4 => ?_)
  obtain ⟨rfl, ⟨h5, rfl⟩ | ⟨h5, rfl⟩⟩ := hpo1
  · refine sv_same (st2 := [sv_i 1]) (lv2 := [(0, sv_r a), (1, sv_i v1)]) rfl rfl ?_
    refine sv_if_f C.1 C.2.1 (cnd := .eq) (off := 15) (tgt := 19) (by decide +kernel) (by decide) ⟨by omega, by omega⟩ (show ¬ (1 = 0) by omega) ?_
    refine sv_go C.1 C.2.1 [(.aload_n 0, 1)] (pc' := 8) (by decide +kernel) rfl (lv' := [(0, sv_r a), (1, sv_i v1)]) (st' := [sv_r a]) rfl ?_
    obtain ⟨q6, eq6, kq6⟩ := hI.ref (k := 3) k_a rfl
    refine sv_gf C (index := 33) (ci := 8) (k := 3) (r := (RX9, TX9, 6)) (v := sv_r q6) (by decide +kernel) (by rw [k_a]; rfl) rfl (by decide) fl_X9_33 (congrArg sv_a eq6) ?_
    obtain ⟨q7, eq7, kq7⟩ := hI.ref (k := 0) kq6 rfl
    refine sv_gf C (index := 174) (ci := 0) (k := 0) (r := (RX0, TX0, 12)) (v := sv_r q7) (by decide +kernel) (by rw [kq6]; rfl) rfl (by decide) fl_X9_174 (congrArg sv_a eq7) ?_
    refine sv_go C.1 C.2.1 [(.iload_n 1, 1)] (pc' := 15) (by decide +kernel) rfl (lv' := [(0, sv_r a), (1, sv_i v1)]) (st' := [sv_i v1, sv_r q7]) rfl ?_
    refine sv_ia C (n := 10) (by decide +kernel) (by rw [kq7]; rfl) (by decide) (by omega) (by omega) ?_
    have w8 : σ q7 v1.toNat = 0 := by have q := hZ.num (k := (v1 : Int).toNat) kq7 rfl; omega
    rw [w8]
    refine sv_goto C.1 C.2.1 (off := 5) (tgt := 21) (by decide +kernel) (by decide) ?_
    exact sv_iret C hr (by decide +kernel) hok4 (⟨congrArg (fun q => [sv_i q]) (by first | omega | (unfold fx_br; omega)), hF⟩)
  · refine sv_same (st2 := [sv_i 0]) (lv2 := [(0, sv_r a), (1, sv_i v1)]) rfl rfl ?_
    refine sv_if_t C.1 C.2.1 (cnd := .eq) (off := 15) (tgt := 19) (by decide +kernel) (by decide) ⟨by omega, by omega⟩ (show 0 = 0 by omega) ?_
    refine sv_go C.1 C.2.1 [(.bipush (-2), 2)] (pc' := 21) (by decide +kernel) rfl (lv' := [(0, sv_r a), (1, sv_i v1)]) (st' := [sv_i ((-2))]) rfl ?_
    exact sv_iret C hr (by decide +kernel) hok4 (⟨congrArg (fun q => [sv_i q]) (by first | omega | (unfold fx_br; omega)), hF⟩)

theorem fl_X0_15 : Cond.fieldLink RX0 15 "SaintsRoad$Brotherhoods" "quarrels" "[I" ∈ lw_good := sv_mem 323 (by decide +kernel) rfl
theorem fl_X0_33 : Cond.fieldLink RX0 33 "SaintsRoad$Brotherhoods" "quarrelCount" "I" ∈ lw_good := sv_mem 319 (by decide +kernel) rfl
set_option maxHeartbeats 4000000 in
set_option maxRecDepth 100000 in
theorem ct_X0_setQuarrel (l : Launch) (g : sv_G) (A : Nat → Prop) (ty : Nat → Nat) (σ : Nat → Nat → Int) (hok : sv_ok ty σ) (hTA : ∀ q, ty q ≠ 0 → A q) (hI : sv_inv sp_1 ty σ) (hZ : sv_inv sp_0 ty σ) (a : Nat) (k_a : ty a = 5) (v1 : Int) (hv1 : 0 ≤ v1 ∧ v1 ≤ 9) (v2 : Int) (hv2 : 0 ≤ v2 ∧ v2 ≤ 9) (on : Int) (hon : 0 ≤ on ∧ on ≤ 1) : sv_M l yX0_setQuarrel cX0_setQuarrel 5 (some .boolean) { frames := 0, cells := 0, slots := 0, locals := 0 } g A ty σ [sv_r a, sv_i v1, sv_i v2, sv_i on] (fun r σ' => r = [sv_i on] ∧ sv_inv sp_1 ty σ' ∧ sv_off [5, 31] ty σ σ') := by
  refine sv_enter (by decide) (Nat.le_of_ble_eq_true rfl) ?_
  intro p e s m args below meth c C hr
  have C : sv_C g A RX0 cX0_setQuarrel 5 p s m args meth c := C
  have hr : meth.sig.returnType = (some .boolean) := hr
  have hF : sv_off [5, 31] ty σ σ := sv_off.rf
  have hs0 : σ a 1 = 0 := by have q := hZ.num (k := 1) k_a rfl; omega
  refine sv_same (st2 := []) (lv2 := [(0, sv_r a), (1, sv_i v1), (2, sv_i v2), (3, sv_i on)]) rfl rfl ?_
  refine sv_go C.1 C.2.1 [(.aload_n 0, 1)] (pc' := 1) (by decide +kernel) rfl (lv' := [(0, sv_r a), (1, sv_i v1), (2, sv_i v2), (3, sv_i on)]) (st' := [sv_r a]) rfl ?_
  obtain ⟨q1, eq1, kq1⟩ := hI.ref (k := 3) k_a rfl
  refine sv_gf C (index := 15) (ci := 0) (k := 3) (r := (RX0, TX0, 12)) (v := sv_r q1) (by decide +kernel) (by rw [k_a]; rfl) rfl (by decide) fl_X0_15 (congrArg sv_a eq1) ?_
  refine sv_go C.1 C.2.1 [(.iload_n 1, 1)] (pc' := 5) (by decide +kernel) rfl (lv' := [(0, sv_r a), (1, sv_i v1), (2, sv_i v2), (3, sv_i on)]) (st' := [sv_i v1, sv_r q1]) rfl ?_
  refine sv_ia C (n := 10) (by decide +kernel) (by rw [kq1]; rfl) (by decide) (by omega) (by omega) ?_
  have w2 : σ q1 v1.toNat = 0 := by have q := hZ.num (k := (v1 : Int).toNat) kq1 rfl; omega
  rw [w2]
  refine sv_go C.1 C.2.1 [(.iload_n 2, 1), (.ishr, 1), (.iconst 1, 1), (.iand, 1)] (pc' := 10) (by decide +kernel) rfl (lv' := [(0, sv_r a), (1, sv_i v1), (2, sv_i v2), (3, sv_i on)]) (st' := [sv_i ((Int32.ofInt ((Int32.ofInt 0 >>> (Int32.ofInt v2 &&& 31)).toInt) &&& Int32.ofInt 1).toInt)]) rfl ?_
  refine sv_same (st2 := [sv_i 0]) (lv2 := [(0, sv_r a), (1, sv_i v1), (2, sv_i v2), (3, sv_i on)]) (congrArg (fun q => [sv_i q]) (sv_and0 _)) rfl ?_
  refine sv_if_t C.1 C.2.1 (cnd := .eq) (off := 7) (tgt := 17) (by decide +kernel) (by decide) ⟨by omega, by omega⟩ (show 0 = 0 by omega) ?_
  refine sv_go C.1 C.2.1 [(.iconst 0, 1), (.istore 4, 2), (.iload 4, 2), (.iload_n 3, 1)] (pc' := 23) (by decide +kernel) rfl (lv' := [(0, sv_r a), (1, sv_i v1), (2, sv_i v2), (3, sv_i on), (4, sv_i 0)]) (st' := [sv_i on, sv_i 0]) rfl ?_
  refine sv_icmp C.1 C.2.1 (cnd := .ne) (off := 5) (tgt := 28) (by decide +kernel) (by decide) ⟨by omega, by omega⟩ ⟨by omega, by omega⟩ (fun (h3 : 0 ≠ on) => ?_) (fun (h3 : ¬ (0 ≠ on)) => ?_)
  · refine sv_go C.1 C.2.1 [(.aload_n 0, 1)] (pc' := 29) (by decide +kernel) rfl (lv' := [(0, sv_r a), (1, sv_i v1), (2, sv_i v2), (3, sv_i on), (4, sv_i 0)]) (st' := [sv_r a]) rfl ?_
    refine sv_gf C (index := 15) (ci := 0) (k := 3) (r := (RX0, TX0, 12)) (v := sv_r q1) (by decide +kernel) (by rw [k_a]; rfl) rfl (by decide) fl_X0_15 (congrArg sv_a eq1) ?_
    refine sv_go C.1 C.2.1 [(.iload_n 1, 1), (.dup2, 1)] (pc' := 34) (by decide +kernel) rfl (lv' := [(0, sv_r a), (1, sv_i v1), (2, sv_i v2), (3, sv_i on), (4, sv_i 0)]) (st' := [sv_i v1, sv_r q1, sv_i v1, sv_r q1]) rfl ?_
    refine sv_ia C (n := 10) (by decide +kernel) (by rw [kq1]; rfl) (by decide) (by omega) (by omega) ?_
    have w4 : σ q1 v1.toNat = 0 := by have q := hZ.num (k := (v1 : Int).toNat) kq1 rfl; omega
    rw [w4]
    refine sv_go C.1 C.2.1 [(.iconst 1, 1), (.iload_n 2, 1), (.ishl, 1), (.ixor, 1)] (pc' := 39) (by decide +kernel) rfl (lv' := [(0, sv_r a), (1, sv_i v1), (2, sv_i v2), (3, sv_i on), (4, sv_i 0)]) (st' := [sv_i ((Int32.ofInt 0 ^^^ Int32.ofInt ((Int32.ofInt 1 <<< (Int32.ofInt v2 &&& 31)).toInt)).toInt), sv_i v1, sv_r q1]) rfl ?_
    have hq5 := sv_ioin (Int32.ofInt 0 ^^^ Int32.ofInt ((Int32.ofInt 1 <<< (Int32.ofInt v2 &&& 31)).toInt))
    refine sv_is C (n := 10) (by decide +kernel) (by rw [kq1]; rfl) (by decide) (by omega) (by omega) ⟨by omega, by omega⟩ (hTA _ (by rw [kq1]; decide)) hok (fun hok6 => ?_)
    have hI8 := hI.up (a := q1) (k := (v1 : Int).toNat) (z := (Int32.ofInt 0 ^^^ Int32.ofInt ((Int32.ofInt 1 <<< (Int32.ofInt v2 &&& 31)).toInt)).toInt) (by rw [kq1]; exact trivial)
    have hF9 := hF.up (a := q1) (k := (v1 : Int).toNat) (z := (Int32.ofInt 0 ^^^ Int32.ofInt ((Int32.ofInt 1 <<< (Int32.ofInt v2 &&& 31)).toInt)).toInt) (by rw [kq1]; decide)
    generalize eσ7 : sv_up σ q1 (v1 : Int).toNat ((Int32.ofInt 0 ^^^ Int32.ofInt ((Int32.ofInt 1 <<< (Int32.ofInt v2 &&& 31)).toInt)).toInt) = σ7 at hok6 hI8 hF9 ⊢
    have t10 : σ7 a 1 = 0 := by rw [← eσ7, sv_up_a (sv_ne k_a kq1 (by decide))]; exact hs0
    have t11 : σ7 a 3 = (q1 : Int) + 1 := by rw [← eσ7, sv_up_a (sv_ne k_a kq1 (by decide))]; exact eq1
    refine sv_go C.1 C.2.1 [(.aload_n 0, 1)] (pc' := 41) (by decide +kernel) rfl (lv' := [(0, sv_r a), (1, sv_i v1), (2, sv_i v2), (3, sv_i on), (4, sv_i 0)]) (st' := [sv_r a]) rfl ?_
    refine sv_gf C (index := 15) (ci := 0) (k := 3) (r := (RX0, TX0, 12)) (v := sv_r q1) (by decide +kernel) (by rw [k_a]; rfl) rfl (by decide) fl_X0_15 (congrArg sv_a t11) ?_
    refine sv_go C.1 C.2.1 [(.iload_n 2, 1), (.dup2, 1)] (pc' := 46) (by decide +kernel) rfl (lv' := [(0, sv_r a), (1, sv_i v1), (2, sv_i v2), (3, sv_i on), (4, sv_i 0)]) (st' := [sv_i v2, sv_r q1, sv_i v2, sv_r q1]) rfl ?_
    refine sv_ia C (n := 10) (by decide +kernel) (by rw [kq1]; rfl) (by decide) (by omega) (by omega) ?_
    have w12 := sv_ok.el hok6 (k := (v2 : Int).toNat) (t := .int) (n := 10) (by rw [kq1]; rfl) (by omega)
    generalize hw12 : σ7 q1 v2.toNat = xw12 at w12 ⊢
    have w12 : sv_in xw12 := w12
    refine sv_go C.1 C.2.1 [(.iconst 1, 1), (.iload_n 1, 1), (.ishl, 1), (.ixor, 1)] (pc' := 51) (by decide +kernel) rfl (lv' := [(0, sv_r a), (1, sv_i v1), (2, sv_i v2), (3, sv_i on), (4, sv_i 0)]) (st' := [sv_i ((Int32.ofInt xw12 ^^^ Int32.ofInt ((Int32.ofInt 1 <<< (Int32.ofInt v1 &&& 31)).toInt)).toInt), sv_i v2, sv_r q1]) rfl ?_
    have hq13 := sv_ioin (Int32.ofInt xw12 ^^^ Int32.ofInt ((Int32.ofInt 1 <<< (Int32.ofInt v1 &&& 31)).toInt))
    refine sv_is C (n := 10) (by decide +kernel) (by rw [kq1]; rfl) (by decide) (by omega) (by omega) ⟨by omega, by omega⟩ (hTA _ (by rw [kq1]; decide)) hok6 (fun hok14 => ?_)
    have hI16 := hI8.up (a := q1) (k := (v2 : Int).toNat) (z := (Int32.ofInt xw12 ^^^ Int32.ofInt ((Int32.ofInt 1 <<< (Int32.ofInt v1 &&& 31)).toInt)).toInt) (by rw [kq1]; exact trivial)
    have hF17 := hF9.up (a := q1) (k := (v2 : Int).toNat) (z := (Int32.ofInt xw12 ^^^ Int32.ofInt ((Int32.ofInt 1 <<< (Int32.ofInt v1 &&& 31)).toInt)).toInt) (by rw [kq1]; decide)
    generalize eσ15 : sv_up σ7 q1 (v2 : Int).toNat ((Int32.ofInt xw12 ^^^ Int32.ofInt ((Int32.ofInt 1 <<< (Int32.ofInt v1 &&& 31)).toInt)).toInt) = σ15 at hok14 hI16 hF17 ⊢
    have t18 : σ15 a 1 = 0 := by rw [← eσ15, sv_up_a (sv_ne k_a kq1 (by decide))]; exact t10
    have t19 : σ15 a 3 = (q1 : Int) + 1 := by rw [← eσ15, sv_up_a (sv_ne k_a kq1 (by decide))]; exact t11
    refine sv_go C.1 C.2.1 [(.aload_n 0, 1), (.dup, 1)] (pc' := 54) (by decide +kernel) rfl (lv' := [(0, sv_r a), (1, sv_i v1), (2, sv_i v2), (3, sv_i on), (4, sv_i 0)]) (st' := [sv_r a, sv_r a]) rfl ?_
    refine sv_gf C (index := 33) (ci := 0) (k := 1) (r := (RX0, TX0, 12)) (v := sv_i 0) (by decide +kernel) (by rw [k_a]; rfl) rfl (by decide) fl_X0_33 (congrArg sv_i t18) ?_
    refine sv_go C.1 C.2.1 [(.iload_n 3, 1)] (pc' := 58) (by decide +kernel) rfl (lv' := [(0, sv_r a), (1, sv_i v1), (2, sv_i v2), (3, sv_i on), (4, sv_i 0)]) (st' := [sv_i on, sv_i 0, sv_r a]) rfl ?_
    refine sv_if C.1 C.2.1 (cnd := .eq) (off := 7) (tgt := 65) (by decide +kernel) (by decide) ⟨by omega, by omega⟩ (fun (h20 : on = 0) => ?_) (fun (h20 : ¬ (on = 0)) => ?_)
    · refine sv_go C.1 C.2.1 [(.iconst (-1), 1), (.iadd, 1)] (pc' := 67) (by decide +kernel) rfl (lv' := [(0, sv_r a), (1, sv_i v1), (2, sv_i v2), (3, sv_i on), (4, sv_i 0)]) (st' := [sv_i (0 + ((-1))), sv_r a]) rfl ?_
      refine sv_pf C (index := 33) (ci := 0) (k := 1) (r := (RX0, TX0, 12)) (z := 0 + ((-1))) (by decide +kernel) (by rw [k_a]; rfl) rfl (by decide) rfl fl_X0_33 rfl (Or.inl rfl) ⟨by omega, by omega⟩ (hTA _ (by rw [k_a]; decide)) hok14 (fun hok21 => ?_)
      have hI23 := hI16.up (a := a) (k := 1) (z := 0 + ((-1))) (by rw [k_a]; exact trivial)
      have hF24 := hF17.up (a := a) (k := 1) (z := 0 + ((-1))) (by rw [k_a]; decide)
      generalize eσ22 : sv_up σ15 a 1 (0 + ((-1))) = σ22 at hok21 hI23 hF24 ⊢
      have t25 : σ22 a 3 = (q1 : Int) + 1 := by rw [← eσ22, sv_up_k (by decide)]; exact t19
      have t26 : σ22 a 1 = 0 + ((-1)) := by rw [← eσ22]; exact sv_up_s _ _ _ _
      refine sv_go C.1 C.2.1 [(.iconst 1, 1)] (pc' := 71) (by decide +kernel) rfl (lv' := [(0, sv_r a), (1, sv_i v1), (2, sv_i v2), (3, sv_i on), (4, sv_i 0)]) (st' := [sv_i 1]) rfl ?_
      exact sv_zret C hr (by first | exact Or.inl rfl | exact Or.inr rfl | omega) (by decide +kernel) hok21 (⟨congrArg (fun q => [sv_i q]) (by omega), hI23, hF24⟩)
    · refine sv_go C.1 C.2.1 [(.iconst 1, 1)] (pc' := 62) (by decide +kernel) rfl (lv' := [(0, sv_r a), (1, sv_i v1), (2, sv_i v2), (3, sv_i on), (4, sv_i 0)]) (st' := [sv_i 1, sv_i 0, sv_r a]) rfl ?_
      refine sv_goto C.1 C.2.1 (off := 4) (tgt := 66) (by decide +kernel) (by decide) ?_
      refine sv_go C.1 C.2.1 [(.iadd, 1)] (pc' := 67) (by decide +kernel) rfl (lv' := [(0, sv_r a), (1, sv_i v1), (2, sv_i v2), (3, sv_i on), (4, sv_i 0)]) (st' := [sv_i (0 + 1), sv_r a]) rfl ?_
      refine sv_pf C (index := 33) (ci := 0) (k := 1) (r := (RX0, TX0, 12)) (z := 0 + 1) (by decide +kernel) (by rw [k_a]; rfl) rfl (by decide) rfl fl_X0_33 rfl (Or.inl rfl) ⟨by omega, by omega⟩ (hTA _ (by rw [k_a]; decide)) hok14 (fun hok27 => ?_)
      have hI29 := hI16.up (a := a) (k := 1) (z := 0 + 1) (by rw [k_a]; exact trivial)
      have hF30 := hF17.up (a := a) (k := 1) (z := 0 + 1) (by rw [k_a]; decide)
      generalize eσ28 : sv_up σ15 a 1 (0 + 1) = σ28 at hok27 hI29 hF30 ⊢
      have t31 : σ28 a 3 = (q1 : Int) + 1 := by rw [← eσ28, sv_up_k (by decide)]; exact t19
      have t32 : σ28 a 1 = 0 + 1 := by rw [← eσ28]; exact sv_up_s _ _ _ _
      refine sv_go C.1 C.2.1 [(.iconst 1, 1)] (pc' := 71) (by decide +kernel) rfl (lv' := [(0, sv_r a), (1, sv_i v1), (2, sv_i v2), (3, sv_i on), (4, sv_i 0)]) (st' := [sv_i 1]) rfl ?_
      exact sv_zret C hr (by first | exact Or.inl rfl | exact Or.inr rfl | omega) (by decide +kernel) hok27 (⟨congrArg (fun q => [sv_i q]) (by omega), hI29, hF30⟩)
  · refine sv_go C.1 C.2.1 [(.iconst 0, 1)] (pc' := 27) (by decide +kernel) rfl (lv' := [(0, sv_r a), (1, sv_i v1), (2, sv_i v2), (3, sv_i on), (4, sv_i 0)]) (st' := [sv_i 0]) rfl ?_
    exact sv_zret C hr (by first | exact Or.inl rfl | exact Or.inr rfl | omega) (by decide +kernel) hok (⟨congrArg (fun q => [sv_i q]) (by omega), hI, hF⟩)

theorem ml_X9_157 : Cond.methodLink RX9 157 yX0_setQuarrel ∈ lw_good := sv_mem 827 (by decide +kernel) rfl
theorem co_X0_setQuarrel : Cond.code yX0_setQuarrel cX0_setQuarrel 5 (some .boolean) ∈ lw_good := sv_mem 830 (by decide +kernel) rfl
theorem im_X0_setQuarrel : Cond.instanceMethod yX0_setQuarrel ∈ lw_good := sv_mem 828 (by decide +kernel) rfl
theorem se_X0_setQuarrel : Cond.selects RX0 yX0_setQuarrel yX0_setQuarrel ∈ lw_good := sv_mem 829 (by decide +kernel) rfl
set_option maxHeartbeats 4000000 in
set_option maxRecDepth 100000 in
theorem ct_X9_quarrel (l : Launch) (g : sv_G) (A : Nat → Prop) (ty : Nat → Nat) (σ : Nat → Nat → Int) (hok : sv_ok ty σ) (hTA : ∀ q, ty q ≠ 0 → A q) (hI : sv_inv sp_1 ty σ) (hZ : sv_inv sp_0 ty σ) (a : Nat) (k_a : ty a = 1) (v1 : Int) (hv1 : sv_in v1) (v2 : Int) (hv2 : sv_in v2) (on : Int) (hon : 0 ≤ on ∧ on ≤ 1) : sv_M l yX9_quarrel cX9_quarrel 4 (some .int) { frames := 1, cells := 0, slots := 0, locals := 24 } g A ty σ [sv_r a, sv_i v1, sv_i v2, sv_i on] (fun r σ' => r = [sv_i (fx_quarrel v1 v2 on)] ∧ sv_off [5, 31] ty σ σ') := by
  refine sv_enter (by decide) (Nat.le_of_ble_eq_true rfl) ?_
  intro p e s m args below meth c C hr
  have C : sv_C g A RX9 cX9_quarrel 4 p s m args meth c := C
  have hr : meth.sig.returnType = (some .int) := hr
  have hF : sv_off [5, 31] ty σ σ := sv_off.rf
  refine sv_same (st2 := []) (lv2 := [(0, sv_r a), (1, sv_i v1), (2, sv_i v2), (3, sv_i on)]) rfl rfl ?_
  refine sv_go C.1 C.2.1 [(.iload_n 1, 1)] (pc' := 1) (by decide +kernel) rfl (lv' := [(0, sv_r a), (1, sv_i v1), (2, sv_i v2), (3, sv_i on)]) (st' := [sv_i v1]) rfl ?_
  refine sv_cs C (index := 154) (k := 1) (rest := []) (by decide +kernel) (ct_X9_isBrotherhood l g A ty σ hok (v1) ⟨by omega, by omega⟩) ⟨co_X9_isBrotherhood, in_X9, ⟨by decide, by decide, by decide +kernel⟩, Nat.le_of_ble_eq_true rfl, Nat.le_of_ble_eq_true rfl⟩ ml_X9_154 st_X9_isBrotherhood rfl rfl (Nat.le_of_ble_eq_true rfl) ⟨Nat.zero_le _, Nat.zero_le _⟩ (fun r2 σ3 hpo1 hok4 => ?_)
  obtain ⟨rfl, ⟨h5, rfl⟩ | ⟨h5, rfl⟩⟩ := hpo1
  · refine sv_same (st2 := [sv_i 1]) (lv2 := [(0, sv_r a), (1, sv_i v1), (2, sv_i v2), (3, sv_i on)]) rfl rfl ?_
    refine sv_if_f C.1 C.2.1 (cnd := .eq) (off := 15) (tgt := 19) (by decide +kernel) (by decide) ⟨by omega, by omega⟩ (show ¬ (1 = 0) by omega) ?_
    refine sv_go C.1 C.2.1 [(.iload_n 2, 1)] (pc' := 8) (by decide +kernel) rfl (lv' := [(0, sv_r a), (1, sv_i v1), (2, sv_i v2), (3, sv_i on)]) (st' := [sv_i v2]) rfl ?_
    refine sv_cs C (index := 154) (k := 1) (rest := []) (by decide +kernel) (ct_X9_isBrotherhood l g A ty σ hok4 (v2) ⟨by omega, by omega⟩) ⟨co_X9_isBrotherhood, in_X9, ⟨by decide, by decide, by decide +kernel⟩, Nat.le_of_ble_eq_true rfl, Nat.le_of_ble_eq_true rfl⟩ ml_X9_154 st_X9_isBrotherhood rfl rfl (Nat.le_of_ble_eq_true rfl) ⟨Nat.zero_le _, Nat.zero_le _⟩ (fun r7 σ8 hpo6 hok9 => ?_)
    obtain ⟨rfl, ⟨h10, rfl⟩ | ⟨h10, rfl⟩⟩ := hpo6
    · refine sv_same (st2 := [sv_i 1]) (lv2 := [(0, sv_r a), (1, sv_i v1), (2, sv_i v2), (3, sv_i on)]) rfl rfl ?_
      refine sv_if_f C.1 C.2.1 (cnd := .eq) (off := 8) (tgt := 19) (by decide +kernel) (by decide) ⟨by omega, by omega⟩ (show ¬ (1 = 0) by omega) ?_
      refine sv_go C.1 C.2.1 [(.iload_n 1, 1), (.iload_n 2, 1)] (pc' := 16) (by decide +kernel) rfl (lv' := [(0, sv_r a), (1, sv_i v1), (2, sv_i v2), (3, sv_i on)]) (st' := [sv_i v2, sv_i v1]) rfl ?_
      refine sv_icmp C.1 C.2.1 (cnd := .ne) (off := 6) (tgt := 22) (by decide +kernel) (by decide) ⟨by omega, by omega⟩ ⟨by omega, by omega⟩ (fun (h11 : v1 ≠ v2) => ?_) (fun (h11 : ¬ (v1 ≠ v2)) => ?_)
      · refine sv_go C.1 C.2.1 [(.aload_n 0, 1)] (pc' := 23) (by decide +kernel) rfl (lv' := [(0, sv_r a), (1, sv_i v1), (2, sv_i v2), (3, sv_i on)]) (st' := [sv_r a]) rfl ?_
        obtain ⟨q12, eq12, kq12⟩ := hI.ref (k := 3) k_a rfl
        refine sv_gf C (index := 33) (ci := 8) (k := 3) (r := (RX9, TX9, 6)) (v := sv_r q12) (by decide +kernel) (by rw [k_a]; rfl) rfl (by decide) fl_X9_33 (congrArg sv_a eq12) ?_
        refine sv_go C.1 C.2.1 [(.iload_n 1, 1), (.iload_n 2, 1), (.iload_n 3, 1)] (pc' := 29) (by decide +kernel) rfl (lv' := [(0, sv_r a), (1, sv_i v1), (2, sv_i v2), (3, sv_i on)]) (st' := [sv_i on, sv_i v2, sv_i v1, sv_r q12]) rfl ?_
        refine sv_cv C (index := 157) (k := 3) (rest := []) (ci := 0) (r := (RX0, TX0, 12)) (by decide +kernel) (ct_X0_setQuarrel l g A ty σ hok9 hTA hI hZ q12 kq12 (v1) ⟨by omega, by omega⟩ (v2) ⟨by omega, by omega⟩ (on) ⟨by omega, by omega⟩) ⟨co_X0_setQuarrel, in_X0, ⟨by decide, by decide, by decide +kernel⟩, Nat.le_of_ble_eq_true rfl, Nat.le_of_ble_eq_true rfl⟩ ml_X9_157 im_X0_setQuarrel se_X0_setQuarrel (by rw [kq12]; rfl) rfl rfl rfl (Nat.le_of_ble_eq_true rfl) ⟨Nat.zero_le _, Nat.zero_le _⟩ (fun r14 σ15 hpo13 hok16 => ?_)
        obtain ⟨rfl, hIu17, hFu17⟩ := hpo13
        have hGu17 := hF.tr hFu17 (by decide)
        have t18 : σ15 a 3 = (q12 : Int) + 1 := (hFu17.at k_a (by decide)).trans eq12
        refine sv_same (st2 := [sv_i on]) (lv2 := [(0, sv_r a), (1, sv_i v1), (2, sv_i v2), (3, sv_i on)]) rfl rfl ?_
        refine sv_if C.1 C.2.1 (cnd := .eq) (off := 7) (tgt := 39) (by decide +kernel) (by decide) ⟨by omega, by omega⟩ (fun (h19 : on = 0) => ?_) (fun (h19 : ¬ (on = 0)) => ?_)
        · refine sv_go C.1 C.2.1 [(.iconst 0, 1)] (pc' := 40) (by decide +kernel) rfl (lv' := [(0, sv_r a), (1, sv_i v1), (2, sv_i v2), (3, sv_i on)]) (st' := [sv_i 0]) rfl ?_
          exact sv_iret C hr (by decide +kernel) hok16 (⟨congrArg (fun q => [sv_i q]) (by first | omega | (unfold fx_quarrel; omega)), hGu17⟩)
        · refine sv_go C.1 C.2.1 [(.iconst 1, 1)] (pc' := 36) (by decide +kernel) rfl (lv' := [(0, sv_r a), (1, sv_i v1), (2, sv_i v2), (3, sv_i on)]) (st' := [sv_i 1]) rfl ?_
          refine sv_goto C.1 C.2.1 (off := 4) (tgt := 40) (by decide +kernel) (by decide) ?_
          exact sv_iret C hr (by decide +kernel) hok16 (⟨congrArg (fun q => [sv_i q]) (by first | omega | (unfold fx_quarrel; omega)), hGu17⟩)
      · refine sv_go C.1 C.2.1 [(.bipush (-2), 2)] (pc' := 21) (by decide +kernel) rfl (lv' := [(0, sv_r a), (1, sv_i v1), (2, sv_i v2), (3, sv_i on)]) (st' := [sv_i ((-2))]) rfl ?_
        exact sv_iret C hr (by decide +kernel) hok9 (⟨congrArg (fun q => [sv_i q]) (by first | omega | (unfold fx_quarrel; omega)), hF⟩)
    · refine sv_same (st2 := [sv_i 0]) (lv2 := [(0, sv_r a), (1, sv_i v1), (2, sv_i v2), (3, sv_i on)]) rfl rfl ?_
      refine sv_if_t C.1 C.2.1 (cnd := .eq) (off := 8) (tgt := 19) (by decide +kernel) (by decide) ⟨by omega, by omega⟩ (show 0 = 0 by omega) ?_
      refine sv_go C.1 C.2.1 [(.bipush (-2), 2)] (pc' := 21) (by decide +kernel) rfl (lv' := [(0, sv_r a), (1, sv_i v1), (2, sv_i v2), (3, sv_i on)]) (st' := [sv_i ((-2))]) rfl ?_
      exact sv_iret C hr (by decide +kernel) hok9 (⟨congrArg (fun q => [sv_i q]) (by first | omega | (unfold fx_quarrel; omega)), hF⟩)
  · refine sv_same (st2 := [sv_i 0]) (lv2 := [(0, sv_r a), (1, sv_i v1), (2, sv_i v2), (3, sv_i on)]) rfl rfl ?_
    refine sv_if_t C.1 C.2.1 (cnd := .eq) (off := 15) (tgt := 19) (by decide +kernel) (by decide) ⟨by omega, by omega⟩ (show 0 = 0 by omega) ?_
    refine sv_go C.1 C.2.1 [(.bipush (-2), 2)] (pc' := 21) (by decide +kernel) rfl (lv' := [(0, sv_r a), (1, sv_i v1), (2, sv_i v2), (3, sv_i on)]) (st' := [sv_i ((-2))]) rfl ?_
    exact sv_iret C hr (by decide +kernel) hok4 (⟨congrArg (fun q => [sv_i q]) (by first | omega | (unfold fx_quarrel; omega)), hF⟩)

theorem mn_X8_25 : Cond.methodLinkNest RX8 25 yX9_isCorner "SaintsRoad" ∈ sv_nest := sv_memN 889 (by decide +kernel) rfl
theorem co_X9_isCorner : Cond.code yX9_isCorner cX9_isCorner 1 (some .boolean) ∈ lw_good := sv_mem 880 (by decide +kernel) rfl
theorem st_X9_isCorner : Cond.static yX9_isCorner ∈ lw_good := sv_mem 879 (by decide +kernel) rfl
theorem fl_X8_17 : Cond.fieldLink RX8 17 "SaintsRoad$Town" "minutes" "[I" ∈ lw_good := sv_mem 393 (by decide +kernel) rfl
set_option maxHeartbeats 4000000 in
set_option maxRecDepth 100000 in
theorem ct_X8_minutesBetween (l : Launch) (g : sv_G) (A : Nat → Prop) (ty : Nat → Nat) (σ : Nat → Nat → Int) (hok : sv_ok ty σ) (hI : sv_inv sp_1 ty σ) (hZ : sv_inv sp_0 ty σ) (a : Nat) (k_a : ty a = 6) (v1 : Int) (hv1 : sv_in v1) (v2 : Int) (hv2 : sv_in v2) : sv_M l yX8_minutesBetween cX8_minutesBetween 3 (some .int) { frames := 1, cells := 0, slots := 0, locals := 20 } g A ty σ [sv_r a, sv_i v1, sv_i v2] (fun r σ' => σ = σ' ∧ r = [sv_i (0)]) := by
  refine sv_enter (by decide) (Nat.le_of_ble_eq_true rfl) ?_
  intro p e s m args below meth c C hr
  have C : sv_C g A RX8 cX8_minutesBetween 3 p s m args meth c := C
  have hr : meth.sig.returnType = (some .int) := hr
  refine sv_same (st2 := []) (lv2 := [(0, sv_r a), (1, sv_i v1), (2, sv_i v2)]) rfl rfl ?_
  refine sv_go C.1 C.2.1 [(.iload_n 1, 1)] (pc' := 1) (by decide +kernel) rfl (lv' := [(0, sv_r a), (1, sv_i v1), (2, sv_i v2)]) (st' := [sv_i v1]) rfl ?_
  refine sv_csN C (index := 25) (k := 1) (rest := []) (by decide +kernel) (ct_X9_isCorner l g A ty σ hok (v1) ⟨by omega, by omega⟩) ⟨co_X9_isCorner, in_X9, ⟨by decide, by decide, by decide +kernel⟩, Nat.le_of_ble_eq_true rfl, Nat.le_of_ble_eq_true rfl⟩ mn_X8_25 st_X9_isCorner rfl rfl (Nat.le_of_ble_eq_true rfl) ⟨Nat.zero_le _, Nat.zero_le _⟩ (fun r2 σ3 hpo1 hok4 => ?_)
  obtain ⟨rfl, ⟨h5, rfl⟩ | ⟨h5, rfl⟩⟩ := hpo1
  · refine sv_same (st2 := [sv_i 1]) (lv2 := [(0, sv_r a), (1, sv_i v1), (2, sv_i v2)]) rfl rfl ?_
    refine sv_if_f C.1 C.2.1 (cnd := .eq) (off := 24) (tgt := 28) (by decide +kernel) (by decide) ⟨by omega, by omega⟩ (show ¬ (1 = 0) by omega) ?_
    refine sv_go C.1 C.2.1 [(.iload_n 2, 1)] (pc' := 8) (by decide +kernel) rfl (lv' := [(0, sv_r a), (1, sv_i v1), (2, sv_i v2)]) (st' := [sv_i v2]) rfl ?_
    refine sv_csN C (index := 25) (k := 1) (rest := []) (by decide +kernel) (ct_X9_isCorner l g A ty σ hok4 (v2) ⟨by omega, by omega⟩) ⟨co_X9_isCorner, in_X9, ⟨by decide, by decide, by decide +kernel⟩, Nat.le_of_ble_eq_true rfl, Nat.le_of_ble_eq_true rfl⟩ mn_X8_25 st_X9_isCorner rfl rfl (Nat.le_of_ble_eq_true rfl) ⟨Nat.zero_le _, Nat.zero_le _⟩ (fun r7 σ8 hpo6 hok9 => ?_)
    obtain ⟨rfl, ⟨h10, rfl⟩ | ⟨h10, rfl⟩⟩ := hpo6
    · refine sv_same (st2 := [sv_i 1]) (lv2 := [(0, sv_r a), (1, sv_i v1), (2, sv_i v2)]) rfl rfl ?_
      refine sv_if_f C.1 C.2.1 (cnd := .eq) (off := 17) (tgt := 28) (by decide +kernel) (by decide) ⟨by omega, by omega⟩ (show ¬ (1 = 0) by omega) ?_
      refine sv_go C.1 C.2.1 [(.aload_n 0, 1)] (pc' := 15) (by decide +kernel) rfl (lv' := [(0, sv_r a), (1, sv_i v1), (2, sv_i v2)]) (st' := [sv_r a]) rfl ?_
      obtain ⟨q11, eq11, kq11⟩ := hI.ref (k := 2) k_a rfl
      refine sv_gf C (index := 17) (ci := 7) (k := 2) (r := (RX8, TX8, 4)) (v := sv_r q11) (by decide +kernel) (by rw [k_a]; rfl) rfl (by decide) fl_X8_17 (congrArg sv_a eq11) ?_
      refine sv_go C.1 C.2.1 [(.bipush 20, 2), (.iload_n 1, 1), (.imul, 1), (.iload_n 2, 1), (.iadd, 1)] (pc' := 24) (by decide +kernel) rfl (lv' := [(0, sv_r a), (1, sv_i v1), (2, sv_i v2)]) (st' := [sv_i ((20 * v1) + v2), sv_r q11]) rfl ?_
      refine sv_ia C (n := 400) (by decide +kernel) (by rw [kq11]; rfl) (by decide) (by omega) (by omega) ?_
      have w12 : σ q11 ((20 * v1) + v2).toNat = 0 := by have q := hZ.num (k := ((20 * v1) + v2 : Int).toNat) kq11 rfl; omega
      rw [w12]
      refine sv_goto C.1 C.2.1 (off := 4) (tgt := 29) (by decide +kernel) (by decide) ?_
      exact sv_iret C hr (by decide +kernel) hok9 (⟨rfl, rfl⟩)
    · refine sv_same (st2 := [sv_i 0]) (lv2 := [(0, sv_r a), (1, sv_i v1), (2, sv_i v2)]) rfl rfl ?_
      refine sv_if_t C.1 C.2.1 (cnd := .eq) (off := 17) (tgt := 28) (by decide +kernel) (by decide) ⟨by omega, by omega⟩ (show 0 = 0 by omega) ?_
      refine sv_go C.1 C.2.1 [(.iconst 0, 1)] (pc' := 29) (by decide +kernel) rfl (lv' := [(0, sv_r a), (1, sv_i v1), (2, sv_i v2)]) (st' := [sv_i 0]) rfl ?_
      exact sv_iret C hr (by decide +kernel) hok9 (⟨rfl, rfl⟩)
  · refine sv_same (st2 := [sv_i 0]) (lv2 := [(0, sv_r a), (1, sv_i v1), (2, sv_i v2)]) rfl rfl ?_
    refine sv_if_t C.1 C.2.1 (cnd := .eq) (off := 24) (tgt := 28) (by decide +kernel) (by decide) ⟨by omega, by omega⟩ (show 0 = 0 by omega) ?_
    refine sv_go C.1 C.2.1 [(.iconst 0, 1)] (pc' := 29) (by decide +kernel) rfl (lv' := [(0, sv_r a), (1, sv_i v1), (2, sv_i v2)]) (st' := [sv_i 0]) rfl ?_
    exact sv_iret C hr (by decide +kernel) hok4 (⟨rfl, rfl⟩)

theorem ml_X8_29 : Cond.methodLink RX8 29 yX8_minutesBetween ∈ lw_good := sv_mem 885 (by decide +kernel) rfl
theorem co_X8_minutesBetween : Cond.code yX8_minutesBetween cX8_minutesBetween 3 (some .int) ∈ lw_good := sv_mem 888 (by decide +kernel) rfl
theorem in_X8 : Cond.initialized RX8 ∈ lw_good := sv_mem 80 (by decide +kernel) rfl
theorem im_X8_minutesBetween : Cond.instanceMethod yX8_minutesBetween ∈ lw_good := sv_mem 886 (by decide +kernel) rfl
theorem se_X8_minutesBetween : Cond.selects RX8 yX8_minutesBetween yX8_minutesBetween ∈ lw_good := sv_mem 887 (by decide +kernel) rfl
theorem fl_X8_33 : Cond.fieldLink RX8 33 "SaintsRoad$Town" "streetCount" "I" ∈ lw_good := sv_mem 391 (by decide +kernel) rfl
theorem ml_X8_37 : Cond.methodLink RX8 37 yJ6_compare_7cf53 ∈ lw_good := sv_mem 890 (by decide +kernel) rfl
theorem co_J6_compare_7cf53 : Cond.code yJ6_compare_7cf53 cJ6_compare_7cf53 2 (some .int) ∈ lw_good := sv_mem 892 (by decide +kernel) rfl
theorem in_J6 : Cond.initialized RJ6 ∈ lw_good := sv_mem 92 (by decide +kernel) rfl
theorem st_J6_compare_7cf53 : Cond.static yJ6_compare_7cf53 ∈ lw_good := sv_mem 891 (by decide +kernel) rfl
set_option maxHeartbeats 4000000 in
set_option maxRecDepth 100000 in
theorem ct_X8_setStreet (l : Launch) (g : sv_G) (A : Nat → Prop) (ty : Nat → Nat) (σ : Nat → Nat → Int) (hok : sv_ok ty σ) (hTA : ∀ q, ty q ≠ 0 → A q) (hI : sv_inv sp_1 ty σ) (hZ : sv_inv sp_0 ty σ) (a : Nat) (k_a : ty a = 6) (v1 : Int) (hv1 : 0 ≤ v1 ∧ v1 ≤ 19) (v2 : Int) (hv2 : 0 ≤ v2 ∧ v2 ≤ 19) (v3 : Int) (hv3 : 0 ≤ v3 ∧ v3 ≤ 60) : sv_M l yX8_setStreet cX8_setStreet 5 (some .int) { frames := 2, cells := 0, slots := 0, locals := 42 } g A ty σ [sv_r a, sv_i v1, sv_i v2, sv_i v3] (fun r σ' => r = [sv_i 0] ∧ sv_inv sp_1 ty σ' ∧ sv_off [6, 38] ty σ σ') := by
  refine sv_enter (by decide) (Nat.le_of_ble_eq_true rfl) ?_
  intro p e s m args below meth c C hr
  have C : sv_C g A RX8 cX8_setStreet 5 p s m args meth c := C
  have hr : meth.sig.returnType = (some .int) := hr
  have hF : sv_off [6, 38] ty σ σ := sv_off.rf
  have hs0 : σ a 1 = 0 := by have q := hZ.num (k := 1) k_a rfl; omega
  refine sv_same (st2 := []) (lv2 := [(0, sv_r a), (1, sv_i v1), (2, sv_i v2), (3, sv_i v3)]) rfl rfl ?_
  refine sv_go C.1 C.2.1 [(.aload_n 0, 1), (.iload_n 1, 1), (.iload_n 2, 1)] (pc' := 3) (by decide +kernel) rfl (lv' := [(0, sv_r a), (1, sv_i v1), (2, sv_i v2), (3, sv_i v3)]) (st' := [sv_i v2, sv_i v1, sv_r a]) rfl ?_
  refine sv_cv C (index := 29) (k := 2) (rest := []) (ci := 7) (r := (RX8, TX8, 4)) (by decide +kernel) (ct_X8_minutesBetween l g A ty σ hok hI hZ a k_a (v1) ⟨by omega, by omega⟩ (v2) ⟨by omega, by omega⟩) ⟨co_X8_minutesBetween, in_X8, ⟨by decide, by decide, by decide +kernel⟩, Nat.le_of_ble_eq_true rfl, Nat.le_of_ble_eq_true rfl⟩ ml_X8_29 im_X8_minutesBetween se_X8_minutesBetween (by rw [k_a]; rfl) rfl rfl rfl (Nat.le_of_ble_eq_true rfl) ⟨Nat.zero_le _, Nat.zero_le _⟩ (fun r2 σ3 hpo1 hok4 => ?_)
  obtain ⟨rfl, rfl⟩ := hpo1
  refine sv_same (st2 := [sv_i 0]) (lv2 := [(0, sv_r a), (1, sv_i v1), (2, sv_i v2), (3, sv_i v3)]) rfl rfl ?_
  refine sv_go C.1 C.2.1 [(.istore 4, 2), (.aload_n 0, 1)] (pc' := 9) (by decide +kernel) rfl (lv' := [(0, sv_r a), (1, sv_i v1), (2, sv_i v2), (3, sv_i v3), (4, sv_i 0)]) (st' := [sv_r a]) rfl ?_
  obtain ⟨q5, eq5, kq5⟩ := hI.ref (k := 2) k_a rfl
  refine sv_gf C (index := 17) (ci := 7) (k := 2) (r := (RX8, TX8, 4)) (v := sv_r q5) (by decide +kernel) (by rw [k_a]; rfl) rfl (by decide) fl_X8_17 (congrArg sv_a eq5) ?_
  refine sv_go C.1 C.2.1 [(.bipush 20, 2), (.iload_n 1, 1), (.imul, 1), (.iload_n 2, 1), (.iadd, 1), (.iload_n 3, 1)] (pc' := 19) (by decide +kernel) rfl (lv' := [(0, sv_r a), (1, sv_i v1), (2, sv_i v2), (3, sv_i v3), (4, sv_i 0)]) (st' := [sv_i v3, sv_i ((20 * v1) + v2), sv_r q5]) rfl ?_
  refine sv_is C (n := 400) (by decide +kernel) (by rw [kq5]; rfl) (by decide) (by omega) (by omega) ⟨by omega, by omega⟩ (hTA _ (by rw [kq5]; decide)) hok4 (fun hok6 => ?_)
  have hI8 := hI.up (a := q5) (k := ((20 * v1) + v2 : Int).toNat) (z := v3) (by rw [kq5]; exact trivial)
  have hF9 := hF.up (a := q5) (k := ((20 * v1) + v2 : Int).toNat) (z := v3) (by rw [kq5]; decide)
  generalize eσ7 : sv_up σ q5 ((20 * v1) + v2 : Int).toNat v3 = σ7 at hok6 hI8 hF9 ⊢
  have t10 : σ7 a 1 = 0 := by rw [← eσ7, sv_up_a (sv_ne k_a kq5 (by decide))]; exact hs0
  have t11 : σ7 a 2 = (q5 : Int) + 1 := by rw [← eσ7, sv_up_a (sv_ne k_a kq5 (by decide))]; exact eq5
  refine sv_go C.1 C.2.1 [(.aload_n 0, 1)] (pc' := 21) (by decide +kernel) rfl (lv' := [(0, sv_r a), (1, sv_i v1), (2, sv_i v2), (3, sv_i v3), (4, sv_i 0)]) (st' := [sv_r a]) rfl ?_
  refine sv_gf C (index := 17) (ci := 7) (k := 2) (r := (RX8, TX8, 4)) (v := sv_r q5) (by decide +kernel) (by rw [k_a]; rfl) rfl (by decide) fl_X8_17 (congrArg sv_a t11) ?_
  refine sv_go C.1 C.2.1 [(.bipush 20, 2), (.iload_n 2, 1), (.imul, 1), (.iload_n 1, 1), (.iadd, 1), (.iload_n 3, 1)] (pc' := 31) (by decide +kernel) rfl (lv' := [(0, sv_r a), (1, sv_i v1), (2, sv_i v2), (3, sv_i v3), (4, sv_i 0)]) (st' := [sv_i v3, sv_i ((20 * v2) + v1), sv_r q5]) rfl ?_
  refine sv_is C (n := 400) (by decide +kernel) (by rw [kq5]; rfl) (by decide) (by omega) (by omega) ⟨by omega, by omega⟩ (hTA _ (by rw [kq5]; decide)) hok6 (fun hok12 => ?_)
  have hI14 := hI8.up (a := q5) (k := ((20 * v2) + v1 : Int).toNat) (z := v3) (by rw [kq5]; exact trivial)
  have hF15 := hF9.up (a := q5) (k := ((20 * v2) + v1 : Int).toNat) (z := v3) (by rw [kq5]; decide)
  generalize eσ13 : sv_up σ7 q5 ((20 * v2) + v1 : Int).toNat v3 = σ13 at hok12 hI14 hF15 ⊢
  have t16 : σ13 a 1 = 0 := by rw [← eσ13, sv_up_a (sv_ne k_a kq5 (by decide))]; exact t10
  have t17 : σ13 a 2 = (q5 : Int) + 1 := by rw [← eσ13, sv_up_a (sv_ne k_a kq5 (by decide))]; exact t11
  refine sv_go C.1 C.2.1 [(.aload_n 0, 1), (.dup, 1)] (pc' := 34) (by decide +kernel) rfl (lv' := [(0, sv_r a), (1, sv_i v1), (2, sv_i v2), (3, sv_i v3), (4, sv_i 0)]) (st' := [sv_r a, sv_r a]) rfl ?_
  refine sv_gf C (index := 33) (ci := 7) (k := 1) (r := (RX8, TX8, 4)) (v := sv_i 0) (by decide +kernel) (by rw [k_a]; rfl) rfl (by decide) fl_X8_33 (congrArg sv_i t16) ?_
  refine sv_go C.1 C.2.1 [(.iload_n 3, 1), (.iconst 0, 1)] (pc' := 39) (by decide +kernel) rfl (lv' := [(0, sv_r a), (1, sv_i v1), (2, sv_i v2), (3, sv_i v3), (4, sv_i 0)]) (st' := [sv_i 0, sv_i v3, sv_i 0, sv_r a]) rfl ?_
  refine sv_cs C (index := 37) (k := 2) (rest := [sv_i 0, sv_r a]) (by decide +kernel) (ct_J6_compare_7cf53 l g A ty σ13 hok12 (v3) ⟨by omega, by omega⟩ (0) ⟨by omega, by omega⟩) ⟨co_J6_compare_7cf53, in_J6, ⟨by decide, by decide, by decide +kernel⟩, Nat.le_of_ble_eq_true rfl, Nat.le_of_ble_eq_true rfl⟩ ml_X8_37 st_J6_compare_7cf53 rfl rfl (Nat.le_of_ble_eq_true rfl) ⟨Nat.zero_le _, Nat.zero_le _⟩ (fun r19 σ20 hpo18 hok21 => ?_)
  obtain ⟨rfl, rfl⟩ := hpo18
  have hn22 := fx_cmp_in v3 0
  refine sv_same (st2 := [sv_i (fx_cmp v3 0), sv_i 0, sv_r a]) (lv2 := [(0, sv_r a), (1, sv_i v1), (2, sv_i v2), (3, sv_i v3), (4, sv_i 0)]) rfl rfl ?_
  refine sv_go C.1 C.2.1 [(.iload 4, 2), (.iconst 0, 1)] (pc' := 45) (by decide +kernel) rfl (lv' := [(0, sv_r a), (1, sv_i v1), (2, sv_i v2), (3, sv_i v3), (4, sv_i 0)]) (st' := [sv_i 0, sv_i 0, sv_i (fx_cmp v3 0), sv_i 0, sv_r a]) rfl ?_
  refine sv_cs C (index := 37) (k := 2) (rest := [sv_i (fx_cmp v3 0), sv_i 0, sv_r a]) (by decide +kernel) (ct_J6_compare_7cf53 l g A ty σ13 hok21 (0) ⟨by omega, by omega⟩ (0) ⟨by omega, by omega⟩) ⟨co_J6_compare_7cf53, in_J6, ⟨by decide, by decide, by decide +kernel⟩, Nat.le_of_ble_eq_true rfl, Nat.le_of_ble_eq_true rfl⟩ ml_X8_37 st_J6_compare_7cf53 rfl rfl (Nat.le_of_ble_eq_true rfl) ⟨Nat.zero_le _, Nat.zero_le _⟩ (fun r24 σ25 hpo23 hok26 => ?_)
  obtain ⟨rfl, rfl⟩ := hpo23
  have hn27 := fx_cmp_in 0 0
  refine sv_same (st2 := [sv_i (fx_cmp 0 0), sv_i (fx_cmp v3 0), sv_i 0, sv_r a]) (lv2 := [(0, sv_r a), (1, sv_i v1), (2, sv_i v2), (3, sv_i v3), (4, sv_i 0)]) rfl rfl ?_
  refine sv_go C.1 C.2.1 [(.isub, 1), (.iadd, 1)] (pc' := 50) (by decide +kernel) rfl (lv' := [(0, sv_r a), (1, sv_i v1), (2, sv_i v2), (3, sv_i v3), (4, sv_i 0)]) (st' := [sv_i (0 + ((fx_cmp v3 0) - (fx_cmp 0 0))), sv_r a]) rfl ?_
  refine sv_pf C (index := 33) (ci := 7) (k := 1) (r := (RX8, TX8, 4)) (z := 0 + ((fx_cmp v3 0) - (fx_cmp 0 0))) (by decide +kernel) (by rw [k_a]; rfl) rfl (by decide) rfl fl_X8_33 rfl (Or.inl rfl) ⟨by omega, by omega⟩ (hTA _ (by rw [k_a]; decide)) hok26 (fun hok28 => ?_)
  have hI30 := hI14.up (a := a) (k := 1) (z := 0 + ((fx_cmp v3 0) - (fx_cmp 0 0))) (by rw [k_a]; exact trivial)
  have hF31 := hF15.up (a := a) (k := 1) (z := 0 + ((fx_cmp v3 0) - (fx_cmp 0 0))) (by rw [k_a]; decide)
  generalize eσ29 : sv_up σ13 a 1 (0 + ((fx_cmp v3 0) - (fx_cmp 0 0))) = σ29 at hok28 hI30 hF31 ⊢
  have t32 : σ29 a 2 = (q5 : Int) + 1 := by rw [← eσ29, sv_up_k (by decide)]; exact t17
  have t33 : σ29 a 1 = 0 + ((fx_cmp v3 0) - (fx_cmp 0 0)) := by rw [← eσ29]; exact sv_up_s _ _ _ _
  refine sv_go C.1 C.2.1 [(.iload 4, 2)] (pc' := 55) (by decide +kernel) rfl (lv' := [(0, sv_r a), (1, sv_i v1), (2, sv_i v2), (3, sv_i v3), (4, sv_i 0)]) (st' := [sv_i 0]) rfl ?_
  exact sv_iret C hr (by decide +kernel) hok28 (⟨rfl, hI30, hF31⟩)

theorem ml_X9_177 : Cond.methodLink RX9 177 yX9_isCorner ∈ lw_good := sv_mem 878 (by decide +kernel) rfl
theorem ml_X9_180 : Cond.methodLink RX9 180 yX8_setStreet ∈ lw_good := sv_mem 881 (by decide +kernel) rfl
theorem co_X8_setStreet : Cond.code yX8_setStreet cX8_setStreet 5 (some .int) ∈ lw_good := sv_mem 884 (by decide +kernel) rfl
theorem im_X8_setStreet : Cond.instanceMethod yX8_setStreet ∈ lw_good := sv_mem 882 (by decide +kernel) rfl
theorem se_X8_setStreet : Cond.selects RX8 yX8_setStreet yX8_setStreet ∈ lw_good := sv_mem 883 (by decide +kernel) rfl
set_option maxHeartbeats 4000000 in
set_option maxRecDepth 100000 in
theorem ct_X9_street (l : Launch) (g : sv_G) (A : Nat → Prop) (ty : Nat → Nat) (σ : Nat → Nat → Int) (hok : sv_ok ty σ) (hTA : ∀ q, ty q ≠ 0 → A q) (hI : sv_inv sp_1 ty σ) (hZ : sv_inv sp_0 ty σ) (a : Nat) (k_a : ty a = 1) (v1 : Int) (hv1 : sv_in v1) (v2 : Int) (hv2 : sv_in v2) (v3 : Int) (hv3 : sv_in v3) : sv_M l yX9_street cX9_street 4 (some .int) { frames := 3, cells := 0, slots := 0, locals := 66 } g A ty σ [sv_r a, sv_i v1, sv_i v2, sv_i v3] (fun r σ' => r = [sv_i (fx_street v1 v2 v3)] ∧ sv_off [6, 38] ty σ σ') := by
  refine sv_enter (by decide) (Nat.le_of_ble_eq_true rfl) ?_
  intro p e s m args below meth c C hr
  have C : sv_C g A RX9 cX9_street 4 p s m args meth c := C
  have hr : meth.sig.returnType = (some .int) := hr
  have hF : sv_off [6, 38] ty σ σ := sv_off.rf
  refine sv_same (st2 := []) (lv2 := [(0, sv_r a), (1, sv_i v1), (2, sv_i v2), (3, sv_i v3)]) rfl rfl ?_
  refine sv_go C.1 C.2.1 [(.iload_n 1, 1)] (pc' := 1) (by decide +kernel) rfl (lv' := [(0, sv_r a), (1, sv_i v1), (2, sv_i v2), (3, sv_i v3)]) (st' := [sv_i v1]) rfl ?_
  refine sv_cs C (index := 177) (k := 1) (rest := []) (by decide +kernel) (ct_X9_isCorner l g A ty σ hok (v1) ⟨by omega, by omega⟩) ⟨co_X9_isCorner, in_X9, ⟨by decide, by decide, by decide +kernel⟩, Nat.le_of_ble_eq_true rfl, Nat.le_of_ble_eq_true rfl⟩ ml_X9_177 st_X9_isCorner rfl rfl (Nat.le_of_ble_eq_true rfl) ⟨Nat.zero_le _, Nat.zero_le _⟩ (fun r2 σ3 hpo1 hok4 => ?_)
  obtain ⟨rfl, ⟨h5, rfl⟩ | ⟨h5, rfl⟩⟩ := hpo1
  · refine sv_same (st2 := [sv_i 1]) (lv2 := [(0, sv_r a), (1, sv_i v1), (2, sv_i v2), (3, sv_i v3)]) rfl rfl ?_
    refine sv_if_f C.1 C.2.1 (cnd := .eq) (off := 25) (tgt := 29) (by decide +kernel) (by decide) ⟨by omega, by omega⟩ (show ¬ (1 = 0) by omega) ?_
    refine sv_go C.1 C.2.1 [(.iload_n 2, 1)] (pc' := 8) (by decide +kernel) rfl (lv' := [(0, sv_r a), (1, sv_i v1), (2, sv_i v2), (3, sv_i v3)]) (st' := [sv_i v2]) rfl ?_
    refine sv_cs C (index := 177) (k := 1) (rest := []) (by decide +kernel) (ct_X9_isCorner l g A ty σ hok4 (v2) ⟨by omega, by omega⟩) ⟨co_X9_isCorner, in_X9, ⟨by decide, by decide, by decide +kernel⟩, Nat.le_of_ble_eq_true rfl, Nat.le_of_ble_eq_true rfl⟩ ml_X9_177 st_X9_isCorner rfl rfl (Nat.le_of_ble_eq_true rfl) ⟨Nat.zero_le _, Nat.zero_le _⟩ (fun r7 σ8 hpo6 hok9 => ?_)
    obtain ⟨rfl, ⟨h10, rfl⟩ | ⟨h10, rfl⟩⟩ := hpo6
    · refine sv_same (st2 := [sv_i 1]) (lv2 := [(0, sv_r a), (1, sv_i v1), (2, sv_i v2), (3, sv_i v3)]) rfl rfl ?_
      refine sv_if_f C.1 C.2.1 (cnd := .eq) (off := 18) (tgt := 29) (by decide +kernel) (by decide) ⟨by omega, by omega⟩ (show ¬ (1 = 0) by omega) ?_
      refine sv_go C.1 C.2.1 [(.iload_n 1, 1), (.iload_n 2, 1)] (pc' := 16) (by decide +kernel) rfl (lv' := [(0, sv_r a), (1, sv_i v1), (2, sv_i v2), (3, sv_i v3)]) (st' := [sv_i v2, sv_i v1]) rfl ?_
      refine sv_icmp C.1 C.2.1 (cnd := .eq) (off := 13) (tgt := 29) (by decide +kernel) (by decide) ⟨by omega, by omega⟩ ⟨by omega, by omega⟩ (fun (h11 : v1 = v2) => ?_) (fun (h11 : ¬ (v1 = v2)) => ?_)
      · refine sv_go C.1 C.2.1 [(.bipush (-2), 2)] (pc' := 31) (by decide +kernel) rfl (lv' := [(0, sv_r a), (1, sv_i v1), (2, sv_i v2), (3, sv_i v3)]) (st' := [sv_i ((-2))]) rfl ?_
        exact sv_iret C hr (by decide +kernel) hok9 (⟨congrArg (fun q => [sv_i q]) (by first | omega | (unfold fx_street; omega)), hF⟩)
      · refine sv_go C.1 C.2.1 [(.iload_n 3, 1)] (pc' := 20) (by decide +kernel) rfl (lv' := [(0, sv_r a), (1, sv_i v1), (2, sv_i v2), (3, sv_i v3)]) (st' := [sv_i v3]) rfl ?_
        refine sv_if C.1 C.2.1 (cnd := .lt) (off := 9) (tgt := 29) (by decide +kernel) (by decide) ⟨by omega, by omega⟩ (fun (h12 : v3 < 0) => ?_) (fun (h12 : ¬ (v3 < 0)) => ?_)
        · refine sv_go C.1 C.2.1 [(.bipush (-2), 2)] (pc' := 31) (by decide +kernel) rfl (lv' := [(0, sv_r a), (1, sv_i v1), (2, sv_i v2), (3, sv_i v3)]) (st' := [sv_i ((-2))]) rfl ?_
          exact sv_iret C hr (by decide +kernel) hok9 (⟨congrArg (fun q => [sv_i q]) (by first | omega | (unfold fx_street; omega)), hF⟩)
        · refine sv_go C.1 C.2.1 [(.iload_n 3, 1), (.bipush 60, 2)] (pc' := 26) (by decide +kernel) rfl (lv' := [(0, sv_r a), (1, sv_i v1), (2, sv_i v2), (3, sv_i v3)]) (st' := [sv_i 60, sv_i v3]) rfl ?_
          refine sv_icmp C.1 C.2.1 (cnd := .le) (off := 6) (tgt := 32) (by decide +kernel) (by decide) ⟨by omega, by omega⟩ ⟨by omega, by omega⟩ (fun (h13 : v3 ≤ 60) => ?_) (fun (h13 : ¬ (v3 ≤ 60)) => ?_)
          · refine sv_go C.1 C.2.1 [(.aload_n 0, 1)] (pc' := 33) (by decide +kernel) rfl (lv' := [(0, sv_r a), (1, sv_i v1), (2, sv_i v2), (3, sv_i v3)]) (st' := [sv_r a]) rfl ?_
            obtain ⟨q14, eq14, kq14⟩ := hI.ref (k := 4) k_a rfl
            refine sv_gf C (index := 40) (ci := 8) (k := 4) (r := (RX9, TX9, 6)) (v := sv_r q14) (by decide +kernel) (by rw [k_a]; rfl) rfl (by decide) fl_X9_40 (congrArg sv_a eq14) ?_
            refine sv_go C.1 C.2.1 [(.iload_n 1, 1), (.iload_n 2, 1), (.iload_n 3, 1)] (pc' := 39) (by decide +kernel) rfl (lv' := [(0, sv_r a), (1, sv_i v1), (2, sv_i v2), (3, sv_i v3)]) (st' := [sv_i v3, sv_i v2, sv_i v1, sv_r q14]) rfl ?_
            refine sv_cv C (index := 180) (k := 3) (rest := []) (ci := 7) (r := (RX8, TX8, 4)) (by decide +kernel) (ct_X8_setStreet l g A ty σ hok9 hTA hI hZ q14 kq14 (v1) ⟨by omega, by omega⟩ (v2) ⟨by omega, by omega⟩ (v3) ⟨by omega, by omega⟩) ⟨co_X8_setStreet, in_X8, ⟨by decide, by decide, by decide +kernel⟩, Nat.le_of_ble_eq_true rfl, Nat.le_of_ble_eq_true rfl⟩ ml_X9_180 im_X8_setStreet se_X8_setStreet (by rw [kq14]; rfl) rfl rfl rfl (Nat.le_of_ble_eq_true rfl) ⟨Nat.zero_le _, Nat.zero_le _⟩ (fun r16 σ17 hpo15 hok18 => ?_)
            obtain ⟨rfl, hIu19, hFu19⟩ := hpo15
            have hGu19 := hF.tr hFu19 (by decide)
            have t20 : σ17 a 4 = (q14 : Int) + 1 := (hFu19.at k_a (by decide)).trans eq14
            refine sv_same (st2 := [sv_i 0]) (lv2 := [(0, sv_r a), (1, sv_i v1), (2, sv_i v2), (3, sv_i v3)]) rfl rfl ?_
            exact sv_iret C hr (by decide +kernel) hok18 (⟨congrArg (fun q => [sv_i q]) (by first | omega | (unfold fx_street; omega)), hGu19⟩)
          · refine sv_go C.1 C.2.1 [(.bipush (-2), 2)] (pc' := 31) (by decide +kernel) rfl (lv' := [(0, sv_r a), (1, sv_i v1), (2, sv_i v2), (3, sv_i v3)]) (st' := [sv_i ((-2))]) rfl ?_
            exact sv_iret C hr (by decide +kernel) hok9 (⟨congrArg (fun q => [sv_i q]) (by first | omega | (unfold fx_street; omega)), hF⟩)
    · refine sv_same (st2 := [sv_i 0]) (lv2 := [(0, sv_r a), (1, sv_i v1), (2, sv_i v2), (3, sv_i v3)]) rfl rfl ?_
      refine sv_if_t C.1 C.2.1 (cnd := .eq) (off := 18) (tgt := 29) (by decide +kernel) (by decide) ⟨by omega, by omega⟩ (show 0 = 0 by omega) ?_
      refine sv_go C.1 C.2.1 [(.bipush (-2), 2)] (pc' := 31) (by decide +kernel) rfl (lv' := [(0, sv_r a), (1, sv_i v1), (2, sv_i v2), (3, sv_i v3)]) (st' := [sv_i ((-2))]) rfl ?_
      exact sv_iret C hr (by decide +kernel) hok9 (⟨congrArg (fun q => [sv_i q]) (by first | omega | (unfold fx_street; omega)), hF⟩)
  · refine sv_same (st2 := [sv_i 0]) (lv2 := [(0, sv_r a), (1, sv_i v1), (2, sv_i v2), (3, sv_i v3)]) rfl rfl ?_
    refine sv_if_t C.1 C.2.1 (cnd := .eq) (off := 25) (tgt := 29) (by decide +kernel) (by decide) ⟨by omega, by omega⟩ (show 0 = 0 by omega) ?_
    refine sv_go C.1 C.2.1 [(.bipush (-2), 2)] (pc' := 31) (by decide +kernel) rfl (lv' := [(0, sv_r a), (1, sv_i v1), (2, sv_i v2), (3, sv_i v3)]) (st' := [sv_i ((-2))]) rfl ?_
    exact sv_iret C hr (by decide +kernel) hok4 (⟨congrArg (fun q => [sv_i q]) (by first | omega | (unfold fx_street; omega)), hF⟩)

theorem fl_X5_18 : Cond.fieldLink RX5 18 "SaintsRoad$Procession" "size" "I" ∈ lw_good := sv_mem 370 (by decide +kernel) rfl
theorem fl_X5_9 : Cond.fieldLink RX5 9 "SaintsRoad$Procession" "corners" "[I" ∈ lw_good := sv_mem 375 (by decide +kernel) rfl
theorem fl_X5_15 : Cond.fieldLink RX5 15 "SaintsRoad$Procession" "reached" "[I" ∈ lw_good := sv_mem 376 (by decide +kernel) rfl
theorem fl_X5_22 : Cond.fieldLink RX5 22 "SaintsRoad$Procession" "beginning" "I" ∈ lw_good := sv_mem 373 (by decide +kernel) rfl
theorem fl_X5_25 : Cond.fieldLink RX5 25 "SaintsRoad$Procession" "tail" "I" ∈ lw_good := sv_mem 377 (by decide +kernel) rfl
set_option maxHeartbeats 4000000 in
set_option maxRecDepth 100000 in
theorem ct_X5_start (l : Launch) (g : sv_G) (A : Nat → Prop) (ty : Nat → Nat) (σ : Nat → Nat → Int) (hok : sv_ok ty σ) (hTA : ∀ q, ty q ≠ 0 → A q) (hI : sv_inv sp_1 ty σ) (hZ : sv_inv sp_0 ty σ) (a : Nat) (k_a : ty a = 9) (v1 : Int) (hv1 : 0 ≤ v1 ∧ v1 ≤ 19) (v2 : Int) (hv2 : 0 ≤ v2 ∧ v2 ≤ 1440) (v3 : Int) (hv3 : 0 ≤ v3 ∧ v3 ≤ 30) : sv_M l yX5_start cX5_start 4 none { frames := 0, cells := 0, slots := 0, locals := 0 } g A ty σ [sv_r a, sv_i v1, sv_i v2, sv_i v3] (fun r σ' => r = [] ∧ sv_inv sp_1 ty σ' ∧ sv_off [9, 40, 41] ty σ σ') := by
  refine sv_enter (by decide) (Nat.le_of_ble_eq_true rfl) ?_
  intro p e s m args below meth c C hr
  have C : sv_C g A RX5 cX5_start 4 p s m args meth c := C
  have hr : meth.sig.returnType = none := hr
  have hF : sv_off [9, 40, 41] ty σ σ := sv_off.rf
  refine sv_same (st2 := []) (lv2 := [(0, sv_r a), (1, sv_i v1), (2, sv_i v2), (3, sv_i v3)]) rfl rfl ?_
  refine sv_go C.1 C.2.1 [(.aload_n 0, 1), (.iconst 1, 1)] (pc' := 2) (by decide +kernel) rfl (lv' := [(0, sv_r a), (1, sv_i v1), (2, sv_i v2), (3, sv_i v3)]) (st' := [sv_i 1, sv_r a]) rfl ?_
  refine sv_pf C (index := 18) (ci := 4) (k := 0) (r := (RX5, TX5, 5)) (z := 1) (by decide +kernel) (by rw [k_a]; rfl) rfl (by decide) rfl fl_X5_18 rfl (Or.inl rfl) ⟨by omega, by omega⟩ (hTA _ (by rw [k_a]; decide)) hok (fun hok1 => ?_)
  have hI3 := hI.up (a := a) (k := 0) (z := 1) (by rw [k_a]; exact trivial)
  have hF4 := hF.up (a := a) (k := 0) (z := 1) (by rw [k_a]; decide)
  generalize eσ2 : sv_up σ a 0 1 = σ2 at hok1 hI3 hF4 ⊢
  have t5 : σ2 a 0 = 1 := by rw [← eσ2]; exact sv_up_s _ _ _ _
  refine sv_go C.1 C.2.1 [(.aload_n 0, 1)] (pc' := 6) (by decide +kernel) rfl (lv' := [(0, sv_r a), (1, sv_i v1), (2, sv_i v2), (3, sv_i v3)]) (st' := [sv_r a]) rfl ?_
  obtain ⟨q6, eq6, kq6⟩ := hI3.ref (k := 2) k_a rfl
  refine sv_gf C (index := 9) (ci := 4) (k := 2) (r := (RX5, TX5, 5)) (v := sv_r q6) (by decide +kernel) (by rw [k_a]; rfl) rfl (by decide) fl_X5_9 (congrArg sv_a eq6) ?_
  refine sv_go C.1 C.2.1 [(.iconst 0, 1), (.iload_n 1, 1)] (pc' := 11) (by decide +kernel) rfl (lv' := [(0, sv_r a), (1, sv_i v1), (2, sv_i v2), (3, sv_i v3)]) (st' := [sv_i v1, sv_i 0, sv_r q6]) rfl ?_
  refine sv_is C (n := 12) (by decide +kernel) (by rw [kq6]; rfl) (by decide) (by omega) (by omega) ⟨by omega, by omega⟩ (hTA _ (by rw [kq6]; decide)) hok1 (fun hok7 => ?_)
  have hI9 := hI3.up (a := q6) (k := (0 : Int).toNat) (z := v1) (by rw [kq6]; exact trivial)
  have hF10 := hF4.up (a := q6) (k := (0 : Int).toNat) (z := v1) (by rw [kq6]; decide)
  generalize eσ8 : sv_up σ2 q6 (0 : Int).toNat v1 = σ8 at hok7 hI9 hF10 ⊢
  have t11 : σ8 a 0 = 1 := by rw [← eσ8, sv_up_a (sv_ne k_a kq6 (by decide))]; exact t5
  have t12 : σ8 a 2 = (q6 : Int) + 1 := by rw [← eσ8, sv_up_a (sv_ne k_a kq6 (by decide))]; exact eq6
  refine sv_go C.1 C.2.1 [(.aload_n 0, 1)] (pc' := 13) (by decide +kernel) rfl (lv' := [(0, sv_r a), (1, sv_i v1), (2, sv_i v2), (3, sv_i v3)]) (st' := [sv_r a]) rfl ?_
  obtain ⟨q13, eq13, kq13⟩ := hI9.ref (k := 3) k_a rfl
  refine sv_gf C (index := 15) (ci := 4) (k := 3) (r := (RX5, TX5, 5)) (v := sv_r q13) (by decide +kernel) (by rw [k_a]; rfl) rfl (by decide) fl_X5_15 (congrArg sv_a eq13) ?_
  refine sv_go C.1 C.2.1 [(.iconst 0, 1), (.iconst 0, 1)] (pc' := 18) (by decide +kernel) rfl (lv' := [(0, sv_r a), (1, sv_i v1), (2, sv_i v2), (3, sv_i v3)]) (st' := [sv_i 0, sv_i 0, sv_r q13]) rfl ?_
  refine sv_is C (n := 12) (by decide +kernel) (by rw [kq13]; rfl) (by decide) (by omega) (by omega) ⟨by omega, by omega⟩ (hTA _ (by rw [kq13]; decide)) hok7 (fun hok14 => ?_)
  have hI16 := hI9.up (a := q13) (k := (0 : Int).toNat) (z := 0) (by rw [kq13]; exact trivial)
  have hF17 := hF10.up (a := q13) (k := (0 : Int).toNat) (z := 0) (by rw [kq13]; decide)
  generalize eσ15 : sv_up σ8 q13 (0 : Int).toNat 0 = σ15 at hok14 hI16 hF17 ⊢
  have t18 : σ15 a 0 = 1 := by rw [← eσ15, sv_up_a (sv_ne k_a kq13 (by decide))]; exact t11
  have t19 : σ15 a 2 = (q6 : Int) + 1 := by rw [← eσ15, sv_up_a (sv_ne k_a kq13 (by decide))]; exact t12
  have t20 : σ15 a 3 = (q13 : Int) + 1 := by rw [← eσ15, sv_up_a (sv_ne k_a kq13 (by decide))]; exact eq13
  refine sv_go C.1 C.2.1 [(.aload_n 0, 1), (.iload_n 2, 1)] (pc' := 21) (by decide +kernel) rfl (lv' := [(0, sv_r a), (1, sv_i v1), (2, sv_i v2), (3, sv_i v3)]) (st' := [sv_i v2, sv_r a]) rfl ?_
  refine sv_pf C (index := 22) (ci := 4) (k := 1) (r := (RX5, TX5, 5)) (z := v2) (by decide +kernel) (by rw [k_a]; rfl) rfl (by decide) rfl fl_X5_22 rfl (Or.inl rfl) ⟨by omega, by omega⟩ (hTA _ (by rw [k_a]; decide)) hok14 (fun hok21 => ?_)
  have hI23 := hI16.up (a := a) (k := 1) (z := v2) (by rw [k_a]; exact trivial)
  have hF24 := hF17.up (a := a) (k := 1) (z := v2) (by rw [k_a]; decide)
  generalize eσ22 : sv_up σ15 a 1 v2 = σ22 at hok21 hI23 hF24 ⊢
  have t25 : σ22 a 0 = 1 := by rw [← eσ22, sv_up_k (by decide)]; exact t18
  have t26 : σ22 a 2 = (q6 : Int) + 1 := by rw [← eσ22, sv_up_k (by decide)]; exact t19
  have t27 : σ22 a 3 = (q13 : Int) + 1 := by rw [← eσ22, sv_up_k (by decide)]; exact t20
  have t28 : σ22 a 1 = v2 := by rw [← eσ22]; exact sv_up_s _ _ _ _
  refine sv_go C.1 C.2.1 [(.aload_n 0, 1), (.iload_n 3, 1)] (pc' := 26) (by decide +kernel) rfl (lv' := [(0, sv_r a), (1, sv_i v1), (2, sv_i v2), (3, sv_i v3)]) (st' := [sv_i v3, sv_r a]) rfl ?_
  refine sv_pf C (index := 25) (ci := 4) (k := 4) (r := (RX5, TX5, 5)) (z := v3) (by decide +kernel) (by rw [k_a]; rfl) rfl (by decide) rfl fl_X5_25 rfl (Or.inl rfl) ⟨by omega, by omega⟩ (hTA _ (by rw [k_a]; decide)) hok21 (fun hok29 => ?_)
  have hI31 := hI23.up (a := a) (k := 4) (z := v3) (by rw [k_a]; exact trivial)
  have hF32 := hF24.up (a := a) (k := 4) (z := v3) (by rw [k_a]; decide)
  generalize eσ30 : sv_up σ22 a 4 v3 = σ30 at hok29 hI31 hF32 ⊢
  have t33 : σ30 a 0 = 1 := by rw [← eσ30, sv_up_k (by decide)]; exact t25
  have t34 : σ30 a 2 = (q6 : Int) + 1 := by rw [← eσ30, sv_up_k (by decide)]; exact t26
  have t35 : σ30 a 3 = (q13 : Int) + 1 := by rw [← eσ30, sv_up_k (by decide)]; exact t27
  have t36 : σ30 a 1 = v2 := by rw [← eσ30, sv_up_k (by decide)]; exact t28
  have t37 : σ30 a 4 = v3 := by rw [← eσ30]; exact sv_up_s _ _ _ _
  exact sv_vret C hr (by decide +kernel) hok29 (⟨rfl, hI31, hF32⟩)

theorem ml_X9_187 : Cond.methodLink RX9 187 yX9_isBeginning ∈ lw_good := sv_mem 900 (by decide +kernel) rfl
theorem co_X9_isBeginning : Cond.code yX9_isBeginning cX9_isBeginning 1 (some .boolean) ∈ lw_good := sv_mem 902 (by decide +kernel) rfl
theorem st_X9_isBeginning : Cond.static yX9_isBeginning ∈ lw_good := sv_mem 901 (by decide +kernel) rfl
theorem ml_X9_194 : Cond.methodLink RX9 194 yX5_start ∈ lw_good := sv_mem 903 (by decide +kernel) rfl
theorem co_X5_start : Cond.code yX5_start cX5_start 4 none ∈ lw_good := sv_mem 906 (by decide +kernel) rfl
theorem in_X5 : Cond.initialized RX5 ∈ lw_good := sv_mem 81 (by decide +kernel) rfl
theorem im_X5_start : Cond.instanceMethod yX5_start ∈ lw_good := sv_mem 904 (by decide +kernel) rfl
theorem se_X5_start : Cond.selects RX5 yX5_start yX5_start ∈ lw_good := sv_mem 905 (by decide +kernel) rfl
set_option maxHeartbeats 4000000 in
set_option maxRecDepth 100000 in
theorem ct_X9_begin (l : Launch) (g : sv_G) (A : Nat → Prop) (ty : Nat → Nat) (σ : Nat → Nat → Int) (hok : sv_ok ty σ) (hTA : ∀ q, ty q ≠ 0 → A q) (hI : sv_inv sp_1 ty σ) (hZ : sv_inv sp_0 ty σ) (a : Nat) (k_a : ty a = 1) (v1 : Int) (hv1 : sv_in v1) (v2 : Int) (hv2 : sv_in v2) (v3 : Int) (hv3 : sv_in v3) (v4 : Int) (hv4 : sv_in v4) : sv_M l yX9_begin cX9_begin 5 (some .int) { frames := 1, cells := 0, slots := 0, locals := 23 } g A ty σ [sv_r a, sv_i v1, sv_i v2, sv_i v3, sv_i v4] (fun r σ' => r = [sv_i (fx_begin v1 v2 v3 v4)] ∧ sv_off [9, 40, 41] ty σ σ') := by
  refine sv_enter (by decide) (Nat.le_of_ble_eq_true rfl) ?_
  intro p e s m args below meth c C hr
  have C : sv_C g A RX9 cX9_begin 5 p s m args meth c := C
  have hr : meth.sig.returnType = (some .int) := hr
  have hF : sv_off [9, 40, 41] ty σ σ := sv_off.rf
  refine sv_same (st2 := []) (lv2 := [(0, sv_r a), (1, sv_i v1), (2, sv_i v2), (3, sv_i v3), (4, sv_i v4)]) rfl rfl ?_
  refine sv_go C.1 C.2.1 [(.iload_n 1, 1)] (pc' := 1) (by decide +kernel) rfl (lv' := [(0, sv_r a), (1, sv_i v1), (2, sv_i v2), (3, sv_i v3), (4, sv_i v4)]) (st' := [sv_i v1]) rfl ?_
  refine sv_cs C (index := 184) (k := 1) (rest := []) (by decide +kernel) (ct_X9_isProcession l g A ty σ hok (v1) ⟨by omega, by omega⟩) ⟨co_X9_isProcession, in_X9, ⟨by decide, by decide, by decide +kernel⟩, Nat.le_of_ble_eq_true rfl, Nat.le_of_ble_eq_true rfl⟩ ml_X9_184 st_X9_isProcession rfl rfl (Nat.le_of_ble_eq_true rfl) ⟨Nat.zero_le _, Nat.zero_le _⟩ (fun r2 σ3 hpo1 hok4 => ?_)
  obtain ⟨rfl, ⟨h5, rfl⟩ | ⟨h5, rfl⟩⟩ := hpo1
  · refine sv_same (st2 := [sv_i 1]) (lv2 := [(0, sv_r a), (1, sv_i v1), (2, sv_i v2), (3, sv_i v3), (4, sv_i v4)]) rfl rfl ?_
    refine sv_if_f C.1 C.2.1 (cnd := .eq) (off := 17) (tgt := 21) (by decide +kernel) (by decide) ⟨by omega, by omega⟩ (show ¬ (1 = 0) by omega) ?_
    refine sv_go C.1 C.2.1 [(.iload_n 2, 1)] (pc' := 8) (by decide +kernel) rfl (lv' := [(0, sv_r a), (1, sv_i v1), (2, sv_i v2), (3, sv_i v3), (4, sv_i v4)]) (st' := [sv_i v2]) rfl ?_
    refine sv_cs C (index := 177) (k := 1) (rest := []) (by decide +kernel) (ct_X9_isCorner l g A ty σ hok4 (v2) ⟨by omega, by omega⟩) ⟨co_X9_isCorner, in_X9, ⟨by decide, by decide, by decide +kernel⟩, Nat.le_of_ble_eq_true rfl, Nat.le_of_ble_eq_true rfl⟩ ml_X9_177 st_X9_isCorner rfl rfl (Nat.le_of_ble_eq_true rfl) ⟨Nat.zero_le _, Nat.zero_le _⟩ (fun r7 σ8 hpo6 hok9 => ?_)
    obtain ⟨rfl, ⟨h10, rfl⟩ | ⟨h10, rfl⟩⟩ := hpo6
    · refine sv_same (st2 := [sv_i 1]) (lv2 := [(0, sv_r a), (1, sv_i v1), (2, sv_i v2), (3, sv_i v3), (4, sv_i v4)]) rfl rfl ?_
      refine sv_if_f C.1 C.2.1 (cnd := .eq) (off := 10) (tgt := 21) (by decide +kernel) (by decide) ⟨by omega, by omega⟩ (show ¬ (1 = 0) by omega) ?_
      refine sv_go C.1 C.2.1 [(.iload_n 3, 1)] (pc' := 15) (by decide +kernel) rfl (lv' := [(0, sv_r a), (1, sv_i v1), (2, sv_i v2), (3, sv_i v3), (4, sv_i v4)]) (st' := [sv_i v3]) rfl ?_
      refine sv_cs C (index := 187) (k := 1) (rest := []) (by decide +kernel) (ct_X9_isBeginning l g A ty σ hok9 (v3) ⟨by omega, by omega⟩) ⟨co_X9_isBeginning, in_X9, ⟨by decide, by decide, by decide +kernel⟩, Nat.le_of_ble_eq_true rfl, Nat.le_of_ble_eq_true rfl⟩ ml_X9_187 st_X9_isBeginning rfl rfl (Nat.le_of_ble_eq_true rfl) ⟨Nat.zero_le _, Nat.zero_le _⟩ (fun r12 σ13 hpo11 hok14 => ?_)
      obtain ⟨rfl, ⟨h15, rfl⟩ | ⟨h15, rfl⟩⟩ := hpo11
      · refine sv_same (st2 := [sv_i 1]) (lv2 := [(0, sv_r a), (1, sv_i v1), (2, sv_i v2), (3, sv_i v3), (4, sv_i v4)]) rfl rfl ?_
        refine sv_if_t C.1 C.2.1 (cnd := .ne) (off := 6) (tgt := 24) (by decide +kernel) (by decide) ⟨by omega, by omega⟩ (show 1 ≠ 0 by omega) ?_
        refine sv_go C.1 C.2.1 [(.iload 4, 2)] (pc' := 26) (by decide +kernel) rfl (lv' := [(0, sv_r a), (1, sv_i v1), (2, sv_i v2), (3, sv_i v3), (4, sv_i v4)]) (st' := [sv_i v4]) rfl ?_
        refine sv_if C.1 C.2.1 (cnd := .lt) (off := 10) (tgt := 36) (by decide +kernel) (by decide) ⟨by omega, by omega⟩ (fun (h16 : v4 < 0) => ?_) (fun (h16 : ¬ (v4 < 0)) => ?_)
        · refine sv_go C.1 C.2.1 [(.bipush (-2), 2)] (pc' := 38) (by decide +kernel) rfl (lv' := [(0, sv_r a), (1, sv_i v1), (2, sv_i v2), (3, sv_i v3), (4, sv_i v4)]) (st' := [sv_i ((-2))]) rfl ?_
          exact sv_iret C hr (by decide +kernel) hok14 (⟨congrArg (fun q => [sv_i q]) (by first | omega | (unfold fx_begin; omega)), hF⟩)
        · refine sv_go C.1 C.2.1 [(.iload 4, 2), (.bipush 30, 2)] (pc' := 33) (by decide +kernel) rfl (lv' := [(0, sv_r a), (1, sv_i v1), (2, sv_i v2), (3, sv_i v3), (4, sv_i v4)]) (st' := [sv_i 30, sv_i v4]) rfl ?_
          refine sv_icmp C.1 C.2.1 (cnd := .le) (off := 6) (tgt := 39) (by decide +kernel) (by decide) ⟨by omega, by omega⟩ ⟨by omega, by omega⟩ (fun (h17 : v4 ≤ 30) => ?_) (fun (h17 : ¬ (v4 ≤ 30)) => ?_)
          · refine sv_go C.1 C.2.1 [(.aload_n 0, 1)] (pc' := 40) (by decide +kernel) rfl (lv' := [(0, sv_r a), (1, sv_i v1), (2, sv_i v2), (3, sv_i v3), (4, sv_i v4)]) (st' := [sv_r a]) rfl ?_
            obtain ⟨q18, eq18, kq18⟩ := hI.ref (k := 4) k_a rfl
            refine sv_gf C (index := 40) (ci := 8) (k := 4) (r := (RX9, TX9, 6)) (v := sv_r q18) (by decide +kernel) (by rw [k_a]; rfl) rfl (by decide) fl_X9_40 (congrArg sv_a eq18) ?_
            obtain ⟨q19, eq19, kq19⟩ := hI.ref (k := 0) kq18 rfl
            refine sv_gf C (index := 190) (ci := 7) (k := 0) (r := (RX8, TX8, 4)) (v := sv_r q19) (by decide +kernel) (by rw [kq18]; rfl) rfl (by decide) fl_X9_190 (congrArg sv_a eq19) ?_
            refine sv_go C.1 C.2.1 [(.iload_n 1, 1)] (pc' := 47) (by decide +kernel) rfl (lv' := [(0, sv_r a), (1, sv_i v1), (2, sv_i v2), (3, sv_i v3), (4, sv_i v4)]) (st' := [sv_i v1, sv_r q19]) rfl ?_
            refine sv_aa C (N := "SaintsRoad$Procession") (by decide) (n := 12) (by decide +kernel) (by rw [kq19]; rfl) (by decide) (by omega) (by omega) ?_
            obtain ⟨q20, eq20, kq20⟩ := hI.ref (k := (v1 : Int).toNat) kq19 (by first | rfl | (show (if _ then _ else _) = _; rw [if_pos (by omega)]))
            rw [eq20]
            refine sv_go C.1 C.2.1 [(.iload_n 2, 1), (.iload_n 3, 1), (.iload 4, 2)] (pc' := 52) (by decide +kernel) rfl (lv' := [(0, sv_r a), (1, sv_i v1), (2, sv_i v2), (3, sv_i v3), (4, sv_i v4)]) (st' := [sv_i v4, sv_i v3, sv_i v2, sv_r q20]) rfl ?_
            refine sv_cv C (index := 194) (k := 3) (rest := []) (ci := 4) (r := (RX5, TX5, 5)) (by decide +kernel) (ct_X5_start l g A ty σ hok14 hTA hI hZ q20 kq20 (v2) ⟨by omega, by omega⟩ (v3) ⟨by omega, by omega⟩ (v4) ⟨by omega, by omega⟩) ⟨co_X5_start, in_X5, ⟨by decide, by decide, by decide +kernel⟩, Nat.le_of_ble_eq_true rfl, Nat.le_of_ble_eq_true rfl⟩ ml_X9_194 im_X5_start se_X5_start (by rw [kq20]; rfl) rfl rfl rfl (Nat.le_of_ble_eq_true rfl) ⟨Nat.zero_le _, Nat.zero_le _⟩ (fun r22 σ23 hpo21 hok24 => ?_)
            obtain ⟨rfl, hIu25, hFu25⟩ := hpo21
            have hGu25 := hF.tr hFu25 (by decide)
            have t26 : σ23 a 4 = (q18 : Int) + 1 := (hFu25.at k_a (by decide)).trans eq18
            have t27 : σ23 q18 0 = (q19 : Int) + 1 := (hFu25.at kq18 (by decide)).trans eq19
            have t28 : σ23 q19 (v1 : Int).toNat = (q20 : Int) + 1 := (hFu25.at kq19 (by decide)).trans eq20
            refine sv_same (st2 := []) (lv2 := [(0, sv_r a), (1, sv_i v1), (2, sv_i v2), (3, sv_i v3), (4, sv_i v4)]) rfl rfl ?_
            refine sv_go C.1 C.2.1 [(.iconst 1, 1)] (pc' := 56) (by decide +kernel) rfl (lv' := [(0, sv_r a), (1, sv_i v1), (2, sv_i v2), (3, sv_i v3), (4, sv_i v4)]) (st' := [sv_i 1]) rfl ?_
            exact sv_iret C hr (by decide +kernel) hok24 (⟨congrArg (fun q => [sv_i q]) (by first | omega | (unfold fx_begin; omega)), hGu25⟩)
          · refine sv_go C.1 C.2.1 [(.bipush (-2), 2)] (pc' := 38) (by decide +kernel) rfl (lv' := [(0, sv_r a), (1, sv_i v1), (2, sv_i v2), (3, sv_i v3), (4, sv_i v4)]) (st' := [sv_i ((-2))]) rfl ?_
            exact sv_iret C hr (by decide +kernel) hok14 (⟨congrArg (fun q => [sv_i q]) (by first | omega | (unfold fx_begin; omega)), hF⟩)
      · refine sv_same (st2 := [sv_i 0]) (lv2 := [(0, sv_r a), (1, sv_i v1), (2, sv_i v2), (3, sv_i v3), (4, sv_i v4)]) rfl rfl ?_
        refine sv_if_f C.1 C.2.1 (cnd := .ne) (off := 6) (tgt := 24) (by decide +kernel) (by decide) ⟨by omega, by omega⟩ (show ¬ (0 ≠ 0) by omega) ?_
        refine sv_go C.1 C.2.1 [(.bipush (-2), 2)] (pc' := 23) (by decide +kernel) rfl (lv' := [(0, sv_r a), (1, sv_i v1), (2, sv_i v2), (3, sv_i v3), (4, sv_i v4)]) (st' := [sv_i ((-2))]) rfl ?_
        exact sv_iret C hr (by decide +kernel) hok14 (⟨congrArg (fun q => [sv_i q]) (by first | omega | (unfold fx_begin; omega)), hF⟩)
    · refine sv_same (st2 := [sv_i 0]) (lv2 := [(0, sv_r a), (1, sv_i v1), (2, sv_i v2), (3, sv_i v3), (4, sv_i v4)]) rfl rfl ?_
      refine sv_if_t C.1 C.2.1 (cnd := .eq) (off := 10) (tgt := 21) (by decide +kernel) (by decide) ⟨by omega, by omega⟩ (show 0 = 0 by omega) ?_
      refine sv_go C.1 C.2.1 [(.bipush (-2), 2)] (pc' := 23) (by decide +kernel) rfl (lv' := [(0, sv_r a), (1, sv_i v1), (2, sv_i v2), (3, sv_i v3), (4, sv_i v4)]) (st' := [sv_i ((-2))]) rfl ?_
      exact sv_iret C hr (by decide +kernel) hok9 (⟨congrArg (fun q => [sv_i q]) (by first | omega | (unfold fx_begin; omega)), hF⟩)
  · refine sv_same (st2 := [sv_i 0]) (lv2 := [(0, sv_r a), (1, sv_i v1), (2, sv_i v2), (3, sv_i v3), (4, sv_i v4)]) rfl rfl ?_
    refine sv_if_t C.1 C.2.1 (cnd := .eq) (off := 17) (tgt := 21) (by decide +kernel) (by decide) ⟨by omega, by omega⟩ (show 0 = 0 by omega) ?_
    refine sv_go C.1 C.2.1 [(.bipush (-2), 2)] (pc' := 23) (by decide +kernel) rfl (lv' := [(0, sv_r a), (1, sv_i v1), (2, sv_i v2), (3, sv_i v3), (4, sv_i v4)]) (st' := [sv_i ((-2))]) rfl ?_
    exact sv_iret C hr (by decide +kernel) hok4 (⟨congrArg (fun q => [sv_i q]) (by first | omega | (unfold fx_begin; omega)), hF⟩)

theorem ml_X9_200 : Cond.methodLink RX9 200 yX9_isLong ∈ lw_good := sv_mem 911 (by decide +kernel) rfl
theorem co_X9_isLong : Cond.code yX9_isLong cX9_isLong 3 (some .boolean) ∈ lw_good := sv_mem 914 (by decide +kernel) rfl
theorem im_X9_isLong : Cond.instanceMethod yX9_isLong ∈ lw_good := sv_mem 913 (by decide +kernel) rfl
theorem se_X9_isLong : Cond.selects RX9 yX9_isLong yX9_isLong ∈ lw_good := sv_mem 35 (by decide +kernel) rfl
set_option maxHeartbeats 4000000 in
set_option maxRecDepth 100000 in
theorem ct_X9_goes (l : Launch) (g : sv_G) (A : Nat → Prop) (ty : Nat → Nat) (σ : Nat → Nat → Int) (hok : sv_ok ty σ) (hTA : ∀ q, ty q ≠ 0 → A q) (hI : sv_inv sp_1 ty σ) (hZ : sv_inv sp_0 ty σ) (a : Nat) (k_a : ty a = 1) (v1 : Int) (hv1 : sv_in v1) (v2 : Int) (hv2 : sv_in v2) : sv_M l yX9_goes cX9_goes 5 (some .int) { frames := 2, cells := 0, slots := 0, locals := 42 } g A ty σ [sv_r a, sv_i v1, sv_i v2] (fun r σ' => r = [sv_i (-2)] ∧ sv_off [] ty σ σ') := by
  refine sv_enter (by decide) (Nat.le_of_ble_eq_true rfl) ?_
  intro p e s m args below meth c C hr
  have C : sv_C g A RX9 cX9_goes 5 p s m args meth c := C
  have hr : meth.sig.returnType = (some .int) := hr
  have hF : sv_off [] ty σ σ := sv_off.rf
  refine sv_same (st2 := []) (lv2 := [(0, sv_r a), (1, sv_i v1), (2, sv_i v2)]) rfl rfl ?_
  refine sv_go C.1 C.2.1 [(.aload_n 0, 1), (.iload_n 1, 1), (.iconst 1, 1)] (pc' := 3) (by decide +kernel) rfl (lv' := [(0, sv_r a), (1, sv_i v1), (2, sv_i v2)]) (st' := [sv_i 1, sv_i v1, sv_r a]) rfl ?_
  refine sv_cv C (index := 200) (k := 2) (rest := []) (ci := 8) (r := (RX9, TX9, 6)) (by decide +kernel) (ct_X9_isLong l g A ty σ hok hI hZ a k_a (v1) ⟨by omega, by omega⟩ (1) ⟨by omega, by omega⟩) ⟨co_X9_isLong, in_X9, ⟨by decide, by decide, by decide +kernel⟩, Nat.le_of_ble_eq_true rfl, Nat.le_of_ble_eq_true rfl⟩ ml_X9_200 im_X9_isLong se_X9_isLong (by rw [k_a]; rfl) rfl rfl rfl (Nat.le_of_ble_eq_true rfl) ⟨Nat.zero_le _, Nat.zero_le _⟩ (fun r2 σ3 hpo1 hok4 => ?_)
  obtain ⟨rfl, hpo1⟩ := hpo1
  obtain rfl := sv_boF hpo1
  refine sv_same (st2 := [sv_i 0]) (lv2 := [(0, sv_r a), (1, sv_i v1), (2, sv_i v2)]) rfl rfl ?_
  refine sv_if_t C.1 C.2.1 (cnd := .eq) (off := 10) (tgt := 16) (by decide +kernel) (by decide) ⟨by omega, by omega⟩ (show 0 = 0 by omega) ?_
  refine sv_go C.1 C.2.1 [(.bipush (-2), 2)] (pc' := 18) (by decide +kernel) rfl (lv' := [(0, sv_r a), (1, sv_i v1), (2, sv_i v2)]) (st' := [sv_i ((-2))]) rfl ?_
  exact sv_iret C hr (by decide +kernel) hok4 (⟨congrArg (fun q => [sv_i q]) (by first | omega | (unfold x; omega)), hF⟩)

set_option maxHeartbeats 4000000 in
set_option maxRecDepth 100000 in
theorem ct_X9_late (l : Launch) (g : sv_G) (A : Nat → Prop) (ty : Nat → Nat) (σ : Nat → Nat → Int) (hok : sv_ok ty σ) (hTA : ∀ q, ty q ≠ 0 → A q) (hI : sv_inv sp_1 ty σ) (hZ : sv_inv sp_0 ty σ) (a : Nat) (k_a : ty a = 1) (v1 : Int) (hv1 : sv_in v1) (v2 : Int) (hv2 : sv_in v2) : sv_M l yX9_late cX9_late 4 (some .int) { frames := 2, cells := 0, slots := 0, locals := 42 } g A ty σ [sv_r a, sv_i v1, sv_i v2] (fun r σ' => r = [sv_i (-2)] ∧ sv_off [] ty σ σ') := by
  refine sv_enter (by decide) (Nat.le_of_ble_eq_true rfl) ?_
  intro p e s m args below meth c C hr
  have C : sv_C g A RX9 cX9_late 4 p s m args meth c := C
  have hr : meth.sig.returnType = (some .int) := hr
  have hF : sv_off [] ty σ σ := sv_off.rf
  refine sv_same (st2 := []) (lv2 := [(0, sv_r a), (1, sv_i v1), (2, sv_i v2)]) rfl rfl ?_
  refine sv_go C.1 C.2.1 [(.aload_n 0, 1), (.iload_n 1, 1), (.iconst 1, 1)] (pc' := 3) (by decide +kernel) rfl (lv' := [(0, sv_r a), (1, sv_i v1), (2, sv_i v2)]) (st' := [sv_i 1, sv_i v1, sv_r a]) rfl ?_
  refine sv_cv C (index := 200) (k := 2) (rest := []) (ci := 8) (r := (RX9, TX9, 6)) (by decide +kernel) (ct_X9_isLong l g A ty σ hok hI hZ a k_a (v1) ⟨by omega, by omega⟩ (1) ⟨by omega, by omega⟩) ⟨co_X9_isLong, in_X9, ⟨by decide, by decide, by decide +kernel⟩, Nat.le_of_ble_eq_true rfl, Nat.le_of_ble_eq_true rfl⟩ ml_X9_200 im_X9_isLong se_X9_isLong (by rw [k_a]; rfl) rfl rfl rfl (Nat.le_of_ble_eq_true rfl) ⟨Nat.zero_le _, Nat.zero_le _⟩ (fun r2 σ3 hpo1 hok4 => ?_)
  obtain ⟨rfl, hpo1⟩ := hpo1
  obtain rfl := sv_boF hpo1
  refine sv_same (st2 := [sv_i 0]) (lv2 := [(0, sv_r a), (1, sv_i v1), (2, sv_i v2)]) rfl rfl ?_
  refine sv_if_t C.1 C.2.1 (cnd := .eq) (off := 15) (tgt := 21) (by decide +kernel) (by decide) ⟨by omega, by omega⟩ (show 0 = 0 by omega) ?_
  refine sv_go C.1 C.2.1 [(.bipush (-2), 2)] (pc' := 23) (by decide +kernel) rfl (lv' := [(0, sv_r a), (1, sv_i v1), (2, sv_i v2)]) (st' := [sv_i ((-2))]) rfl ?_
  exact sv_iret C hr (by decide +kernel) hok4 (⟨congrArg (fun q => [sv_i q]) (by first | omega | (unfold x; omega)), hF⟩)

set_option maxHeartbeats 4000000 in
set_option maxRecDepth 100000 in
theorem ct_X9_procession (l : Launch) (g : sv_G) (A : Nat → Prop) (ty : Nat → Nat) (σ : Nat → Nat → Int) (hok : sv_ok ty σ) (hTA : ∀ q, ty q ≠ 0 → A q) (hI : sv_inv sp_1 ty σ) (hZ : sv_inv sp_0 ty σ) (a : Nat) (k_a : ty a = 1) (v1 : Int) (hv1 : sv_in v1) (v2 : Int) (hv2 : sv_in v2) : sv_M l yX9_procession cX9_procession 3 (some .int) { frames := 2, cells := 0, slots := 0, locals := 42 } g A ty σ [sv_r a, sv_i v1, sv_i v2] (fun r σ' => r = [sv_i (-1)] ∧ sv_off [] ty σ σ') := by
  refine sv_enter (by decide) (Nat.le_of_ble_eq_true rfl) ?_
  intro p e s m args below meth c C hr
  have C : sv_C g A RX9 cX9_procession 3 p s m args meth c := C
  have hr : meth.sig.returnType = (some .int) := hr
  have hF : sv_off [] ty σ σ := sv_off.rf
  refine sv_same (st2 := []) (lv2 := [(0, sv_r a), (1, sv_i v1), (2, sv_i v2)]) rfl rfl ?_
  refine sv_go C.1 C.2.1 [(.aload_n 0, 1), (.iload_n 1, 1), (.iconst 1, 1)] (pc' := 3) (by decide +kernel) rfl (lv' := [(0, sv_r a), (1, sv_i v1), (2, sv_i v2)]) (st' := [sv_i 1, sv_i v1, sv_r a]) rfl ?_
  refine sv_cv C (index := 200) (k := 2) (rest := []) (ci := 8) (r := (RX9, TX9, 6)) (by decide +kernel) (ct_X9_isLong l g A ty σ hok hI hZ a k_a (v1) ⟨by omega, by omega⟩ (1) ⟨by omega, by omega⟩) ⟨co_X9_isLong, in_X9, ⟨by decide, by decide, by decide +kernel⟩, Nat.le_of_ble_eq_true rfl, Nat.le_of_ble_eq_true rfl⟩ ml_X9_200 im_X9_isLong se_X9_isLong (by rw [k_a]; rfl) rfl rfl rfl (Nat.le_of_ble_eq_true rfl) ⟨Nat.zero_le _, Nat.zero_le _⟩ (fun r2 σ3 hpo1 hok4 => ?_)
  obtain ⟨rfl, hpo1⟩ := hpo1
  obtain rfl := sv_boF hpo1
  refine sv_same (st2 := [sv_i 0]) (lv2 := [(0, sv_r a), (1, sv_i v1), (2, sv_i v2)]) rfl rfl ?_
  refine sv_if_t C.1 C.2.1 (cnd := .eq) (off := 19) (tgt := 25) (by decide +kernel) (by decide) ⟨by omega, by omega⟩ (show 0 = 0 by omega) ?_
  refine sv_go C.1 C.2.1 [(.iconst (-1), 1)] (pc' := 26) (by decide +kernel) rfl (lv' := [(0, sv_r a), (1, sv_i v1), (2, sv_i v2)]) (st' := [sv_i ((-1))]) rfl ?_
  exact sv_iret C hr (by decide +kernel) hok4 (⟨congrArg (fun q => [sv_i q]) (by first | omega | (unfold x; omega)), hF⟩)

set_option maxHeartbeats 4000000 in
set_option maxRecDepth 100000 in
theorem ct_X9_timed (l : Launch) (g : sv_G) (A : Nat → Prop) (ty : Nat → Nat) (σ : Nat → Nat → Int) (hok : sv_ok ty σ) (hTA : ∀ q, ty q ≠ 0 → A q) (hI : sv_inv sp_1 ty σ) (hZ : sv_inv sp_0 ty σ) (a : Nat) (k_a : ty a = 1) (v1 : Int) (hv1 : sv_in v1) (v2 : Int) (hv2 : sv_in v2) : sv_M l yX9_timed cX9_timed 3 (some .int) { frames := 2, cells := 0, slots := 0, locals := 42 } g A ty σ [sv_r a, sv_i v1, sv_i v2] (fun r σ' => r = [sv_i (-2)] ∧ sv_off [] ty σ σ') := by
  refine sv_enter (by decide) (Nat.le_of_ble_eq_true rfl) ?_
  intro p e s m args below meth c C hr
  have C : sv_C g A RX9 cX9_timed 3 p s m args meth c := C
  have hr : meth.sig.returnType = (some .int) := hr
  have hF : sv_off [] ty σ σ := sv_off.rf
  refine sv_same (st2 := []) (lv2 := [(0, sv_r a), (1, sv_i v1), (2, sv_i v2)]) rfl rfl ?_
  refine sv_go C.1 C.2.1 [(.aload_n 0, 1), (.iload_n 1, 1), (.iconst 2, 1)] (pc' := 3) (by decide +kernel) rfl (lv' := [(0, sv_r a), (1, sv_i v1), (2, sv_i v2)]) (st' := [sv_i 2, sv_i v1, sv_r a]) rfl ?_
  refine sv_cv C (index := 200) (k := 2) (rest := []) (ci := 8) (r := (RX9, TX9, 6)) (by decide +kernel) (ct_X9_isLong l g A ty σ hok hI hZ a k_a (v1) ⟨by omega, by omega⟩ (2) ⟨by omega, by omega⟩) ⟨co_X9_isLong, in_X9, ⟨by decide, by decide, by decide +kernel⟩, Nat.le_of_ble_eq_true rfl, Nat.le_of_ble_eq_true rfl⟩ ml_X9_200 im_X9_isLong se_X9_isLong (by rw [k_a]; rfl) rfl rfl rfl (Nat.le_of_ble_eq_true rfl) ⟨Nat.zero_le _, Nat.zero_le _⟩ (fun r2 σ3 hpo1 hok4 => ?_)
  obtain ⟨rfl, hpo1⟩ := hpo1
  obtain rfl := sv_boF hpo1
  refine sv_same (st2 := [sv_i 0]) (lv2 := [(0, sv_r a), (1, sv_i v1), (2, sv_i v2)]) rfl rfl ?_
  refine sv_if_t C.1 C.2.1 (cnd := .eq) (off := 10) (tgt := 16) (by decide +kernel) (by decide) ⟨by omega, by omega⟩ (show 0 = 0 by omega) ?_
  refine sv_go C.1 C.2.1 [(.bipush (-2), 2)] (pc' := 18) (by decide +kernel) rfl (lv' := [(0, sv_r a), (1, sv_i v1), (2, sv_i v2)]) (st' := [sv_i ((-2))]) rfl ?_
  exact sv_iret C hr (by decide +kernel) hok4 (⟨congrArg (fun q => [sv_i q]) (by first | omega | (unfold x; omega)), hF⟩)

set_option maxHeartbeats 4000000 in
set_option maxRecDepth 100000 in
theorem ct_X9_meeting (l : Launch) (g : sv_G) (A : Nat → Prop) (ty : Nat → Nat) (σ : Nat → Nat → Int) (hok : sv_ok ty σ) (hI : sv_inv sp_1 ty σ) (hZ : sv_inv sp_0 ty σ) (a : Nat) (k_a : ty a = 1) (v1 : Int) (hv1 : sv_in v1) (v2 : Int) (hv2 : sv_in v2) : sv_M l yX9_meeting cX9_meeting 3 (some .int) { frames := 2, cells := 0, slots := 0, locals := 42 } g A ty σ [sv_r a, sv_i v1, sv_i v2] (fun r σ' => σ = σ' ∧ r = [sv_i (-2)]) := by
  refine sv_enter (by decide) (Nat.le_of_ble_eq_true rfl) ?_
  intro p e s m args below meth c C hr
  have C : sv_C g A RX9 cX9_meeting 3 p s m args meth c := C
  have hr : meth.sig.returnType = (some .int) := hr
  refine sv_same (st2 := []) (lv2 := [(0, sv_r a), (1, sv_i v1), (2, sv_i v2)]) rfl rfl ?_
  refine sv_go C.1 C.2.1 [(.aload_n 0, 1), (.iload_n 1, 1), (.iconst 2, 1)] (pc' := 3) (by decide +kernel) rfl (lv' := [(0, sv_r a), (1, sv_i v1), (2, sv_i v2)]) (st' := [sv_i 2, sv_i v1, sv_r a]) rfl ?_
  refine sv_cv C (index := 200) (k := 2) (rest := []) (ci := 8) (r := (RX9, TX9, 6)) (by decide +kernel) (ct_X9_isLong l g A ty σ hok hI hZ a k_a (v1) ⟨by omega, by omega⟩ (2) ⟨by omega, by omega⟩) ⟨co_X9_isLong, in_X9, ⟨by decide, by decide, by decide +kernel⟩, Nat.le_of_ble_eq_true rfl, Nat.le_of_ble_eq_true rfl⟩ ml_X9_200 im_X9_isLong se_X9_isLong (by rw [k_a]; rfl) rfl rfl rfl (Nat.le_of_ble_eq_true rfl) ⟨Nat.zero_le _, Nat.zero_le _⟩ (fun r2 σ3 hpo1 hok4 => ?_)
  obtain ⟨rfl, hpo1⟩ := hpo1
  obtain rfl := sv_boF hpo1
  refine sv_same (st2 := [sv_i 0]) (lv2 := [(0, sv_r a), (1, sv_i v1), (2, sv_i v2)]) rfl rfl ?_
  refine sv_if_t C.1 C.2.1 (cnd := .eq) (off := 17) (tgt := 23) (by decide +kernel) (by decide) ⟨by omega, by omega⟩ (show 0 = 0 by omega) ?_
  refine sv_go C.1 C.2.1 [(.bipush (-2), 2)] (pc' := 25) (by decide +kernel) rfl (lv' := [(0, sv_r a), (1, sv_i v1), (2, sv_i v2)]) (st' := [sv_i ((-2))]) rfl ?_
  exact sv_iret C hr (by decide +kernel) hok4 (⟨rfl, rfl⟩)

theorem ml_X9_218 : Cond.methodLink RX9 218 yX9_meeting ∈ lw_good := sv_mem 952 (by decide +kernel) rfl
theorem co_X9_meeting : Cond.code yX9_meeting cX9_meeting 3 (some .int) ∈ lw_good := sv_mem 955 (by decide +kernel) rfl
theorem im_X9_meeting : Cond.instanceMethod yX9_meeting ∈ lw_good := sv_mem 953 (by decide +kernel) rfl
theorem se_X9_meeting : Cond.selects RX9 yX9_meeting yX9_meeting ∈ lw_good := sv_mem 954 (by decide +kernel) rfl
set_option maxHeartbeats 4000000 in
set_option maxRecDepth 100000 in
theorem ct_X9_meets (l : Launch) (g : sv_G) (A : Nat → Prop) (ty : Nat → Nat) (σ : Nat → Nat → Int) (hok : sv_ok ty σ) (hI : sv_inv sp_1 ty σ) (hZ : sv_inv sp_0 ty σ) (a : Nat) (k_a : ty a = 1) : sv_M l yX9_meets cX9_meets 3 (some .int) { frames := 3, cells := 0, slots := 0, locals := 64 } g A ty σ [sv_r a] (fun r σ' => σ = σ' ∧ r = [sv_i (-1)]) := by
  refine sv_enter (by decide) (Nat.le_of_ble_eq_true rfl) ?_
  intro p e s m args below meth c C hr
  have C : sv_C g A RX9 cX9_meets 3 p s m args meth c := C
  have hr : meth.sig.returnType = (some .int) := hr
  refine sv_same (st2 := []) (lv2 := [(0, sv_r a)]) rfl rfl ?_
  refine sv_go C.1 C.2.1 [(.iconst 0, 1), (.istore_n 1, 1)] (pc' := 2) (by decide +kernel) rfl (lv' := [(0, sv_r a), (1, sv_i 0)]) (st' := []) rfl ?_
  have L1 : ∀ (n : Nat) (X : Int) , (0 ≤ X ∧ X ≤ 12) → (12 - X) < (n : Int) → sv_E p l e { frames := 3, cells := 0, slots := 0, locals := 64 } s m args below meth c 3 g A ty (fun r σ' => σ = σ' ∧ r = [sv_i (-1)]) σ 2 [(0, sv_r a), (1, sv_i X)] [] := by
    intro n
    induction n with
    | zero => intro X  hX hmu; exact absurd hmu (by omega)
    | succ n ih2 =>
      intro X  hX hmu
      refine sv_go C.1 C.2.1 [(.iload_n 1, 1), (.bipush 12, 2)] (pc' := 5) (by decide +kernel) rfl (lv' := [(0, sv_r a), (1, sv_i X)]) (st' := [sv_i 12, sv_i X]) rfl ?_
      refine sv_icmp C.1 C.2.1 (cnd := .ge) (off := 41) (tgt := 46) (by decide +kernel) (by decide) ⟨by omega, by omega⟩ ⟨by omega, by omega⟩ (fun (h3 : 12 ≤ X) => ?_) (fun (h3 : ¬ (12 ≤ X)) => ?_)
      · refine sv_go C.1 C.2.1 [(.iconst (-1), 1)] (pc' := 47) (by decide +kernel) rfl (lv' := [(0, sv_r a), (1, sv_i X)]) (st' := [sv_i ((-1))]) rfl ?_
        exact sv_iret C hr (by decide +kernel) hok (⟨rfl, rfl⟩)
      · refine sv_go C.1 C.2.1 [(.iload_n 1, 1), (.iconst 1, 1), (.iadd, 1), (.istore_n 2, 1)] (pc' := 12) (by decide +kernel) rfl (lv' := [(0, sv_r a), (1, sv_i X), (2, sv_i (X + 1))]) (st' := []) rfl ?_
        have L4 : ∀ (n : Nat) (Y : Int) , (0 ≤ Y ∧ Y ≤ 12) → (12 - Y) < (n : Int) → sv_E p l e { frames := 3, cells := 0, slots := 0, locals := 64 } s m args below meth c 3 g A ty (fun r σ' => σ = σ' ∧ r = [sv_i (-1)]) σ 12 [(0, sv_r a), (1, sv_i X), (2, sv_i Y)] [] := by
          intro n
          induction n with
          | zero => intro Y  hY hmu; exact absurd hmu (by omega)
          | succ n ih5 =>
            intro Y  hY hmu
            refine sv_go C.1 C.2.1 [(.iload_n 2, 1), (.bipush 12, 2)] (pc' := 15) (by decide +kernel) rfl (lv' := [(0, sv_r a), (1, sv_i X), (2, sv_i Y)]) (st' := [sv_i 12, sv_i Y]) rfl ?_
            refine sv_icmp C.1 C.2.1 (cnd := .ge) (off := 25) (tgt := 40) (by decide +kernel) (by decide) ⟨by omega, by omega⟩ ⟨by omega, by omega⟩ (fun (h6 : 12 ≤ Y) => ?_) (fun (h6 : ¬ (12 ≤ Y)) => ?_)
            · refine sv_go C.1 C.2.1 [(.iinc 1 1, 3)] (pc' := 43) (by decide +kernel) rfl (lv' := [(0, sv_r a), (1, sv_i (X + 1)), (2, sv_i Y)]) (st' := []) rfl ?_
              refine sv_goto C.1 C.2.1 (off := (-41)) (tgt := 2) (by decide +kernel) (by decide) ?_
              refine sv_pick [0, 1] (lv2 := [(0, sv_r a), (1, sv_i (X + 1))]) rfl ?_
              exact ih2 (X + 1)  (by omega) (by omega)
            · refine sv_go C.1 C.2.1 [(.aload_n 0, 1), (.iload_n 1, 1), (.iload_n 2, 1)] (pc' := 21) (by decide +kernel) rfl (lv' := [(0, sv_r a), (1, sv_i X), (2, sv_i Y)]) (st' := [sv_i Y, sv_i X, sv_r a]) rfl ?_
              refine sv_cv C (index := 218) (k := 2) (rest := []) (ci := 8) (r := (RX9, TX9, 6)) (by decide +kernel) (ct_X9_meeting l g A ty σ hok hI hZ a k_a (X) ⟨by omega, by omega⟩ (Y) ⟨by omega, by omega⟩) ⟨co_X9_meeting, in_X9, ⟨by decide, by decide, by decide +kernel⟩, Nat.le_of_ble_eq_true rfl, Nat.le_of_ble_eq_true rfl⟩ ml_X9_218 im_X9_meeting se_X9_meeting (by rw [k_a]; rfl) rfl rfl rfl (Nat.le_of_ble_eq_true rfl) ⟨Nat.zero_le _, Nat.zero_le _⟩ (fun r8 σ9 hpo7 hok10 => ?_)
              obtain ⟨rfl, rfl⟩ := hpo7
              refine sv_same (st2 := [sv_i ((-2))]) (lv2 := [(0, sv_r a), (1, sv_i X), (2, sv_i Y)]) rfl rfl ?_
              refine sv_if_t C.1 C.2.1 (cnd := .lt) (off := 10) (tgt := 34) (by decide +kernel) (by decide) ⟨by omega, by omega⟩ (show ((-2)) < 0 by omega) ?_
              refine sv_go C.1 C.2.1 [(.iinc 2 1, 3)] (pc' := 37) (by decide +kernel) rfl (lv' := [(0, sv_r a), (1, sv_i X), (2, sv_i (Y + 1))]) (st' := []) rfl ?_
              refine sv_goto C.1 C.2.1 (off := (-25)) (tgt := 12) (by decide +kernel) (by decide) ?_
              exact ih5 (Y + 1)  (by omega) (by omega)
        exact L4 (((12 - (X + 1) : Int)).toNat + 1) (X + 1)  (by omega) (by omega)
  exact L1 (((12 - 0 : Int)).toNat + 1) 0  (by omega) (by omega)

theorem fl_X8_11 : Cond.fieldLink RX8 11 "SaintsRoad$Town" "processions" "[LSaintsRoad$Procession;" ∈ lw_good := sv_mem 389 (by decide +kernel) rfl
theorem fl_X8_42 : Cond.fieldLink RX8 42 "SaintsRoad$Procession" "size" "I" ∈ lw_good := sv_mem 371 (by decide +kernel) rfl
set_option maxHeartbeats 4000000 in
set_option maxRecDepth 100000 in
theorem ct_X8_begunCount (l : Launch) (g : sv_G) (A : Nat → Prop) (ty : Nat → Nat) (σ : Nat → Nat → Int) (hok : sv_ok ty σ) (hI : sv_inv sp_1 ty σ) (hZ : sv_inv sp_0 ty σ) (a : Nat) (k_a : ty a = 6) : sv_M l yX8_begunCount cX8_begunCount 3 (some .int) { frames := 0, cells := 0, slots := 0, locals := 0 } g A ty σ [sv_r a] (fun r σ' => σ = σ' ∧ r = [sv_i (0)]) := by
  refine sv_enter (by decide) (Nat.le_of_ble_eq_true rfl) ?_
  intro p e s m args below meth c C hr
  have C : sv_C g A RX8 cX8_begunCount 3 p s m args meth c := C
  have hr : meth.sig.returnType = (some .int) := hr
  refine sv_same (st2 := []) (lv2 := [(0, sv_r a)]) rfl rfl ?_
  refine sv_go C.1 C.2.1 [(.iconst 0, 1), (.istore_n 1, 1), (.iconst 0, 1), (.istore_n 2, 1)] (pc' := 4) (by decide +kernel) rfl (lv' := [(0, sv_r a), (1, sv_i 0), (2, sv_i 0)]) (st' := []) rfl ?_
  have L1 : ∀ (n : Nat) (X : Int) , (0 ≤ X ∧ X ≤ 12) → (12 - X) < (n : Int) → sv_E p l e { frames := 0, cells := 0, slots := 0, locals := 0 } s m args below meth c 3 g A ty (fun r σ' => σ = σ' ∧ r = [sv_i (0)]) σ 4 [(0, sv_r a), (1, sv_i 0), (2, sv_i X)] [] := by
    intro n
    induction n with
    | zero => intro X  hX hmu; exact absurd hmu (by omega)
    | succ n ih2 =>
      intro X  hX hmu
      refine sv_go C.1 C.2.1 [(.iload_n 2, 1), (.bipush 12, 2)] (pc' := 7) (by decide +kernel) rfl (lv' := [(0, sv_r a), (1, sv_i 0), (2, sv_i X)]) (st' := [sv_i 12, sv_i X]) rfl ?_
      refine sv_icmp C.1 C.2.1 (cnd := .ge) (off := 24) (tgt := 31) (by decide +kernel) (by decide) ⟨by omega, by omega⟩ ⟨by omega, by omega⟩ (fun (h3 : 12 ≤ X) => ?_) (fun (h3 : ¬ (12 ≤ X)) => ?_)
      · refine sv_go C.1 C.2.1 [(.iload_n 1, 1)] (pc' := 32) (by decide +kernel) rfl (lv' := [(0, sv_r a), (1, sv_i 0), (2, sv_i X)]) (st' := [sv_i 0]) rfl ?_
        exact sv_iret C hr (by decide +kernel) hok (⟨rfl, rfl⟩)
      · refine sv_go C.1 C.2.1 [(.aload_n 0, 1)] (pc' := 11) (by decide +kernel) rfl (lv' := [(0, sv_r a), (1, sv_i 0), (2, sv_i X)]) (st' := [sv_r a]) rfl ?_
        obtain ⟨q4, eq4, kq4⟩ := hI.ref (k := 0) k_a rfl
        refine sv_gf C (index := 11) (ci := 7) (k := 0) (r := (RX8, TX8, 4)) (v := sv_r q4) (by decide +kernel) (by rw [k_a]; rfl) rfl (by decide) fl_X8_11 (congrArg sv_a eq4) ?_
        refine sv_go C.1 C.2.1 [(.iload_n 2, 1)] (pc' := 15) (by decide +kernel) rfl (lv' := [(0, sv_r a), (1, sv_i 0), (2, sv_i X)]) (st' := [sv_i X, sv_r q4]) rfl ?_
        refine sv_aa C (N := "SaintsRoad$Procession") (by decide) (n := 12) (by decide +kernel) (by rw [kq4]; rfl) (by decide) (by omega) (by omega) ?_
        obtain ⟨q5, eq5, kq5⟩ := hI.ref (k := (X : Int).toNat) kq4 (by first | rfl | (show (if _ then _ else _) = _; rw [if_pos (by omega)]))
        rw [eq5]
        have t6 : σ q5 0 = 0 := by have q := hZ.num (k := 0) kq5 rfl; omega
        refine sv_gf C (index := 42) (ci := 4) (k := 0) (r := (RX5, TX5, 5)) (v := sv_i 0) (by decide +kernel) (by rw [kq5]; rfl) rfl (by decide) fl_X8_42 (congrArg sv_i t6) ?_
        refine sv_if_t C.1 C.2.1 (cnd := .le) (off := 6) (tgt := 25) (by decide +kernel) (by decide) ⟨by omega, by omega⟩ (show 0 ≤ 0 by omega) ?_
        refine sv_go C.1 C.2.1 [(.iinc 2 1, 3)] (pc' := 28) (by decide +kernel) rfl (lv' := [(0, sv_r a), (1, sv_i 0), (2, sv_i (X + 1))]) (st' := []) rfl ?_
        refine sv_goto C.1 C.2.1 (off := (-24)) (tgt := 4) (by decide +kernel) (by decide) ?_
        exact ih2 (X + 1)  (by omega) (by omega)
  exact L1 (((12 - 0 : Int)).toNat + 1) 0  (by omega) (by omega)

theorem fl_X9_228 : Cond.fieldLink RX9 228 "SaintsRoad$Town" "streetCount" "I" ∈ lw_good := sv_mem 392 (by decide +kernel) rfl
theorem fl_X9_231 : Cond.fieldLink RX9 231 "SaintsRoad$Brotherhoods" "quarrelCount" "I" ∈ lw_good := sv_mem 320 (by decide +kernel) rfl
theorem ml_X9_234 : Cond.methodLink RX9 234 yX8_begunCount ∈ lw_good := sv_mem 995 (by decide +kernel) rfl
theorem co_X8_begunCount : Cond.code yX8_begunCount cX8_begunCount 3 (some .int) ∈ lw_good := sv_mem 998 (by decide +kernel) rfl
theorem im_X8_begunCount : Cond.instanceMethod yX8_begunCount ∈ lw_good := sv_mem 996 (by decide +kernel) rfl
theorem se_X8_begunCount : Cond.selects RX8 yX8_begunCount yX8_begunCount ∈ lw_good := sv_mem 997 (by decide +kernel) rfl
set_option maxHeartbeats 4000000 in
set_option maxRecDepth 100000 in
theorem ct_X9_count (l : Launch) (g : sv_G) (A : Nat → Prop) (ty : Nat → Nat) (σ : Nat → Nat → Int) (hok : sv_ok ty σ) (hTA : ∀ q, ty q ≠ 0 → A q) (hI : sv_inv sp_1 ty σ) (hZ : sv_inv sp_0 ty σ) (a : Nat) (k_a : ty a = 1) (w1 : Int) (hw1 : sv_in w1) : sv_M l yX9_count cX9_count 2 (some .int) { frames := 1, cells := 0, slots := 0, locals := 22 } g A ty σ [sv_r a, sv_i w1] (fun r σ' => r = [sv_i (fx_count w1)] ∧ sv_off [] ty σ σ') := by
  refine sv_enter (by decide) (Nat.le_of_ble_eq_true rfl) ?_
  intro p e s m args below meth c C hr
  have C : sv_C g A RX9 cX9_count 2 p s m args meth c := C
  have hr : meth.sig.returnType = (some .int) := hr
  have hF : sv_off [] ty σ σ := sv_off.rf
  refine sv_same (st2 := []) (lv2 := [(0, sv_r a), (1, sv_i w1)]) rfl rfl ?_
  refine sv_go C.1 C.2.1 [(.iload_n 1, 1)] (pc' := 1) (by decide +kernel) rfl (lv' := [(0, sv_r a), (1, sv_i w1)]) (st' := [sv_i w1]) rfl ?_
  rcases (show w1 = 0 ∨ w1 = 1 ∨ w1 = 2 ∨ w1 = 3 ∨ (w1 ≠ 0 ∧ w1 ≠ 1 ∧ w1 ≠ 2 ∧ w1 ≠ 3) by omega) with h1 | h1 | h1 | h1 | h1
  · refine sv_tsI C.1 C.2.1 (dflt := 63) (lo := 0) (hi := 3) (offs := #[31, 39, 47, 55]) (len := 31) (off := 31) (tgt := 32) (by decide +kernel) 0 h1 (by decide) rfl (by decide) ?_
    refine sv_go C.1 C.2.1 [(.aload_n 0, 1)] (pc' := 33) (by decide +kernel) rfl (lv' := [(0, sv_r a), (1, sv_i w1)]) (st' := [sv_r a]) rfl ?_
    obtain ⟨q2, eq2, kq2⟩ := hI.ref (k := 0) k_a rfl
    refine sv_gf C (index := 10) (ci := 8) (k := 0) (r := (RX9, TX9, 6)) (v := sv_r q2) (by decide +kernel) (by rw [k_a]; rfl) rfl (by decide) fl_X9_10 (congrArg sv_a eq2) ?_
    have t3 : σ q2 1 = 0 := by have q := hZ.num (k := 1) kq2 rfl; omega
    refine sv_gf C (index := 51) (ci := 6) (k := 1) (r := (RX7, TX7, 2)) (v := sv_i 0) (by decide +kernel) (by rw [kq2]; rfl) rfl (by decide) fl_X9_51 (congrArg sv_i t3) ?_
    exact sv_iret C hr (by decide +kernel) hok (⟨congrArg (fun q => [sv_i q]) (by first | omega | (unfold fx_count; omega)), hF⟩)
  · refine sv_tsI C.1 C.2.1 (dflt := 63) (lo := 0) (hi := 3) (offs := #[31, 39, 47, 55]) (len := 31) (off := 39) (tgt := 40) (by decide +kernel) 1 h1 (by decide) rfl (by decide) ?_
    refine sv_go C.1 C.2.1 [(.aload_n 0, 1)] (pc' := 41) (by decide +kernel) rfl (lv' := [(0, sv_r a), (1, sv_i w1)]) (st' := [sv_r a]) rfl ?_
    obtain ⟨q4, eq4, kq4⟩ := hI.ref (k := 4) k_a rfl
    refine sv_gf C (index := 40) (ci := 8) (k := 4) (r := (RX9, TX9, 6)) (v := sv_r q4) (by decide +kernel) (by rw [k_a]; rfl) rfl (by decide) fl_X9_40 (congrArg sv_a eq4) ?_
    have t5 : σ q4 1 = 0 := by have q := hZ.num (k := 1) kq4 rfl; omega
    refine sv_gf C (index := 228) (ci := 7) (k := 1) (r := (RX8, TX8, 4)) (v := sv_i 0) (by decide +kernel) (by rw [kq4]; rfl) rfl (by decide) fl_X9_228 (congrArg sv_i t5) ?_
    exact sv_iret C hr (by decide +kernel) hok (⟨congrArg (fun q => [sv_i q]) (by first | omega | (unfold fx_count; omega)), hF⟩)
  · refine sv_tsI C.1 C.2.1 (dflt := 63) (lo := 0) (hi := 3) (offs := #[31, 39, 47, 55]) (len := 31) (off := 47) (tgt := 48) (by decide +kernel) 2 h1 (by decide) rfl (by decide) ?_
    refine sv_go C.1 C.2.1 [(.aload_n 0, 1)] (pc' := 49) (by decide +kernel) rfl (lv' := [(0, sv_r a), (1, sv_i w1)]) (st' := [sv_r a]) rfl ?_
    obtain ⟨q6, eq6, kq6⟩ := hI.ref (k := 3) k_a rfl
    refine sv_gf C (index := 33) (ci := 8) (k := 3) (r := (RX9, TX9, 6)) (v := sv_r q6) (by decide +kernel) (by rw [k_a]; rfl) rfl (by decide) fl_X9_33 (congrArg sv_a eq6) ?_
    have t7 : σ q6 1 = 0 := by have q := hZ.num (k := 1) kq6 rfl; omega
    refine sv_gf C (index := 231) (ci := 0) (k := 1) (r := (RX0, TX0, 12)) (v := sv_i 0) (by decide +kernel) (by rw [kq6]; rfl) rfl (by decide) fl_X9_231 (congrArg sv_i t7) ?_
    exact sv_iret C hr (by decide +kernel) hok (⟨congrArg (fun q => [sv_i q]) (by first | omega | (unfold fx_count; omega)), hF⟩)
  · refine sv_tsI C.1 C.2.1 (dflt := 63) (lo := 0) (hi := 3) (offs := #[31, 39, 47, 55]) (len := 31) (off := 55) (tgt := 56) (by decide +kernel) 3 h1 (by decide) rfl (by decide) ?_
    refine sv_go C.1 C.2.1 [(.aload_n 0, 1)] (pc' := 57) (by decide +kernel) rfl (lv' := [(0, sv_r a), (1, sv_i w1)]) (st' := [sv_r a]) rfl ?_
    obtain ⟨q8, eq8, kq8⟩ := hI.ref (k := 4) k_a rfl
    refine sv_gf C (index := 40) (ci := 8) (k := 4) (r := (RX9, TX9, 6)) (v := sv_r q8) (by decide +kernel) (by rw [k_a]; rfl) rfl (by decide) fl_X9_40 (congrArg sv_a eq8) ?_
    refine sv_cv C (index := 234) (k := 0) (rest := []) (ci := 7) (r := (RX8, TX8, 4)) (by decide +kernel) (ct_X8_begunCount l g A ty σ hok hI hZ q8 kq8 ) ⟨co_X8_begunCount, in_X8, ⟨by decide, by decide, by decide +kernel⟩, Nat.le_of_ble_eq_true rfl, Nat.le_of_ble_eq_true rfl⟩ ml_X9_234 im_X8_begunCount se_X8_begunCount (by rw [kq8]; rfl) rfl rfl rfl (Nat.le_of_ble_eq_true rfl) ⟨Nat.zero_le _, Nat.zero_le _⟩ (fun r10 σ11 hpo9 hok12 => ?_)
    obtain ⟨rfl, rfl⟩ := hpo9
    refine sv_same (st2 := [sv_i 0]) (lv2 := [(0, sv_r a), (1, sv_i w1)]) rfl rfl ?_
    exact sv_iret C hr (by decide +kernel) hok12 (⟨congrArg (fun q => [sv_i q]) (by first | omega | (unfold fx_count; omega)), hF⟩)
  · refine sv_tsO C.1 C.2.1 (dflt := 63) (lo := 0) (hi := 3) (offs := #[31, 39, 47, 55]) (len := 31) (tgt := 64) (by decide +kernel) ⟨by omega, by omega⟩ (by omega) (by decide) ?_
    refine sv_go C.1 C.2.1 [(.iload_n 1, 1), (.bipush 10, 2)] (pc' := 67) (by decide +kernel) rfl (lv' := [(0, sv_r a), (1, sv_i w1)]) (st' := [sv_i 10, sv_i w1]) rfl ?_
    refine sv_icmp C.1 C.2.1 (cnd := .lt) (off := 31) (tgt := 98) (by decide +kernel) (by decide) ⟨by omega, by omega⟩ ⟨by omega, by omega⟩ (fun (h13 : w1 < 10) => ?_) (fun (h13 : ¬ (w1 < 10)) => ?_)
    · refine sv_go C.1 C.2.1 [(.iconst (-1), 1)] (pc' := 99) (by decide +kernel) rfl (lv' := [(0, sv_r a), (1, sv_i w1)]) (st' := [sv_i ((-1))]) rfl ?_
      exact sv_iret C hr (by decide +kernel) hok (⟨congrArg (fun q => [sv_i q]) (by first | omega | (unfold fx_count; omega)), hF⟩)
    · refine sv_go C.1 C.2.1 [(.iload_n 1, 1), (.bipush 10, 2), (.isub, 1)] (pc' := 74) (by decide +kernel) rfl (lv' := [(0, sv_r a), (1, sv_i w1)]) (st' := [sv_i (w1 - 10)]) rfl ?_
      refine sv_cs C (index := 59) (k := 1) (rest := []) (by decide +kernel) (ct_X9_isPlace l g A ty σ hok (w1 - 10) ⟨by omega, by omega⟩) ⟨co_X9_isPlace, in_X9, ⟨by decide, by decide, by decide +kernel⟩, Nat.le_of_ble_eq_true rfl, Nat.le_of_ble_eq_true rfl⟩ ml_X9_59 st_X9_isPlace rfl rfl (Nat.le_of_ble_eq_true rfl) ⟨Nat.zero_le _, Nat.zero_le _⟩ (fun r15 σ16 hpo14 hok17 => ?_)
      obtain ⟨rfl, ⟨h18, rfl⟩ | ⟨h18, rfl⟩⟩ := hpo14
      · refine sv_same (st2 := [sv_i 1]) (lv2 := [(0, sv_r a), (1, sv_i w1)]) rfl rfl ?_
        refine sv_if_f C.1 C.2.1 (cnd := .eq) (off := 21) (tgt := 98) (by decide +kernel) (by decide) ⟨by omega, by omega⟩ (show ¬ (1 = 0) by omega) ?_
        refine sv_go C.1 C.2.1 [(.aload_n 0, 1)] (pc' := 81) (by decide +kernel) rfl (lv' := [(0, sv_r a), (1, sv_i w1)]) (st' := [sv_r a]) rfl ?_
        obtain ⟨q19, eq19, kq19⟩ := hI.ref (k := 2) k_a rfl
        refine sv_gf C (index := 25) (ci := 8) (k := 2) (r := (RX9, TX9, 6)) (v := sv_r q19) (by decide +kernel) (by rw [k_a]; rfl) rfl (by decide) fl_X9_25 (congrArg sv_a eq19) ?_
        refine sv_go C.1 C.2.1 [(.iload_n 1, 1), (.bipush 10, 2), (.isub, 1)] (pc' := 88) (by decide +kernel) rfl (lv' := [(0, sv_r a), (1, sv_i w1)]) (st' := [sv_i (w1 - 10), sv_r q19]) rfl ?_
        refine sv_aa C (N := "SaintsRoad$Place") (by decide) (n := 4) (by decide +kernel) (by rw [kq19]; rfl) (by decide) (by omega) (by omega) ?_
        obtain ⟨q20, eq20, kq20⟩ := hI.ref (k := (w1 - 10 : Int).toNat) kq19 (by first | rfl | (show (if _ then _ else _) = _; rw [if_pos (by omega)]))
        rw [eq20]
        obtain ⟨q21, eq21, kq21⟩ := hI.ref (k := 2) kq20 rfl
        refine sv_gf C (index := 71) (ci := 3) (k := 2) (r := (RX4, TX4, 11)) (v := sv_r q21) (by decide +kernel) (by rw [kq20]; rfl) rfl (by decide) fl_X9_71 (congrArg sv_a eq21) ?_
        have t22 : σ q21 2 = 0 := by have q := hI.num (k := 2) kq21 rfl; omega
        refine sv_gf C (index := 74) (ci := 1) (k := 2) (r := (RX1, TX1, 6)) (v := sv_i 0) (by decide +kernel) (by rw [kq21]; rfl) rfl (by decide) fl_X9_74 (congrArg sv_i t22) ?_
        refine sv_goto C.1 C.2.1 (off := 4) (tgt := 99) (by decide +kernel) (by decide) ?_
        exact sv_iret C hr (by decide +kernel) hok17 (⟨congrArg (fun q => [sv_i q]) (by first | omega | (unfold fx_count; omega)), hF⟩)
      · refine sv_same (st2 := [sv_i 0]) (lv2 := [(0, sv_r a), (1, sv_i w1)]) rfl rfl ?_
        refine sv_if_t C.1 C.2.1 (cnd := .eq) (off := 21) (tgt := 98) (by decide +kernel) (by decide) ⟨by omega, by omega⟩ (show 0 = 0 by omega) ?_
        refine sv_go C.1 C.2.1 [(.iconst (-1), 1)] (pc' := 99) (by decide +kernel) rfl (lv' := [(0, sv_r a), (1, sv_i w1)]) (st' := [sv_i ((-1))]) rfl ?_
        exact sv_iret C hr (by decide +kernel) hok17 (⟨congrArg (fun q => [sv_i q]) (by first | omega | (unfold fx_count; omega)), hF⟩)
