set_option maxHeartbeats 4000000 in
set_option maxRecDepth 100000 in
theorem sf_X2_daysAhead (l : Launch) (g : sv_G) (A : Nat → Prop) (ty : Nat → Nat) (σ : Nat → Nat → Int) (hok : sv_ok ty σ) (hTA : ∀ q, ty q ≠ 0 → A q) (hI : sv_inv sp_1 ty σ) (y : Int) (h_y : 0 ≤ y ∧ y ≤ 2000) : sv_M l yX2_daysAhead cX2_daysAhead 1 (some .int) { frames := 0, cells := 0, slots := 0, locals := 0 } g A ty σ [sv_i y] (fun r σ' => σ = σ' ∧ ∃ rv : Int, r = [sv_i rv] ∧ ((-2147483648) ≤ rv ∧ rv ≤ 2147483647)) := by
  refine sv_enter (by decide) (Nat.le_of_ble_eq_true rfl) ?_
  intro p e s m args below meth c C hr
  have C : sv_C g A RX2 cX2_daysAhead 1 p s m args meth c := C
  have hr : meth.sig.returnType = (some .int) := hr
  have hF : sv_ofx [] [] ty σ σ := sv_ofx.rf
  refine sv_same (st2 := []) (lv2 := [(0, sv_i y)]) rfl rfl ?_
  refine sv_go C.1 C.2.1 [(.sipush 365, 3), (.iload_n 0, 1), (.iconst 1, 1), (.isub, 1), (.imul, 1), (.iload_n 0, 1), (.iconst 1, 1), (.isub, 1), (.iconst 4, 1)] (pc' := 11) (by decide +kernel) rfl (lv' := [(0, sv_i y)]) (st' := [sv_i 4, sv_i (y - 1), sv_i (365 * (y - 1))]) rfl ?_
  refine sv_idiv C.1 C.2.1 (by decide +kernel) ⟨by omega, by omega⟩ (by omega) (by omega) ?_
  obtain ⟨w1, ew1, hw1⟩ := sv_tdivr (y - 1) 4 (by decide) ⟨by omega, by omega⟩
  rw [ew1]
  refine sv_go C.1 C.2.1 [(.iadd, 1)] (pc' := 13) (by decide +kernel) rfl (lv' := [(0, sv_i y)]) (st' := [sv_i ((365 * (y - 1)) + w1)]) rfl ?_
  obtain ⟨w2, hw2, ew2⟩ := sv_wr ((365 * (y - 1)) + w1)
  refine sv_sameD (st2 := [sv_i w2]) (lv2 := [(0, sv_i y)]) (by simp only [List.map_cons, List.map_nil, sv_den_i, ew2]) rfl ?_
  exact sv_iret C hr (by decide +kernel) hok (⟨rfl, ⟨_, rfl, ⟨by omega, by omega⟩⟩⟩)

set_option maxHeartbeats 4000000 in
set_option maxRecDepth 100000 in
theorem sf_X2_weekday (l : Launch) (g : sv_G) (A : Nat → Prop) (ty : Nat → Nat) (σ : Nat → Nat → Int) (hok : sv_ok ty σ) (hTA : ∀ q, ty q ≠ 0 → A q) (hI : sv_inv sp_1 ty σ) (y : Int) (h_y : 0 ≤ y ∧ y ≤ 2000) (d : Int) (h_d : (-10) ≤ d ∧ d ≤ 400) : sv_M l yX2_weekday cX2_weekday 2 (some .int) { frames := 1, cells := 0, slots := 0, locals := 20 } g A ty σ [sv_i y, sv_i d] (fun r σ' => σ = σ' ∧ ∃ rv : Int, r = [sv_i rv] ∧ ((-6) ≤ rv ∧ rv ≤ 6)) := by
  refine sv_enter (by decide) (Nat.le_of_ble_eq_true rfl) ?_
  intro p e s m args below meth c C hr
  have C : sv_C g A RX2 cX2_weekday 2 p s m args meth c := C
  have hr : meth.sig.returnType = (some .int) := hr
  have hF : sv_ofx [] [] ty σ σ := sv_ofx.rf
  refine sv_same (st2 := []) (lv2 := [(0, sv_i y), (1, sv_i d)]) rfl rfl ?_
  refine sv_go C.1 C.2.1 [(.bipush 6, 2), (.iload_n 0, 1)] (pc' := 3) (by decide +kernel) rfl (lv' := [(0, sv_i y), (1, sv_i d)]) (st' := [sv_i y, sv_i 6]) rfl ?_
  refine sv_cs C (index := 22) (k := 1) (rest := [sv_i 6]) (by decide +kernel) (sf_X2_daysAhead l g A ty σ hok hTA hI (y) ⟨by omega, by omega⟩) ⟨co_X2_daysAhead, in_X2, ⟨by decide, by decide, by decide +kernel⟩, Nat.le_of_ble_eq_true rfl, Nat.le_of_ble_eq_true rfl⟩ ml_X2_22 st_X2_daysAhead rfl rfl (Nat.le_of_ble_eq_true rfl) ⟨Nat.zero_le _, Nat.zero_le _⟩ (fun r2 σ3 hpo1 hok4 => ?_)
  obtain ⟨rfl, ⟨vu5, rfl, hvu5⟩⟩ := hpo1
  refine sv_same (st2 := [sv_i vu5, sv_i 6]) (lv2 := [(0, sv_i y), (1, sv_i d)]) rfl rfl ?_
  refine sv_go C.1 C.2.1 [(.iadd, 1), (.iload_n 1, 1), (.iadd, 1), (.bipush 7, 2)] (pc' := 11) (by decide +kernel) rfl (lv' := [(0, sv_i y), (1, sv_i d)]) (st' := [sv_i 7, sv_i ((6 + vu5) + d)]) rfl ?_
  obtain ⟨w6, hw6, ew6⟩ := sv_wr ((6 + vu5) + d)
  refine sv_sameD (st2 := [sv_i 7, sv_i w6]) (lv2 := [(0, sv_i y), (1, sv_i d)]) (by simp only [List.map_cons, List.map_nil, sv_den_i, ew6]) rfl ?_
  refine sv_irem C.1 C.2.1 (by decide +kernel) ⟨by omega, by omega⟩ (by omega) (by omega) ?_
  obtain ⟨w7, ew7, hw7⟩ := sv_tmodr w6 7 (by decide) ⟨by omega, by omega⟩
  rw [ew7]
  exact sv_iret C hr (by decide +kernel) hok4 (⟨rfl, ⟨_, rfl, ⟨by omega, by omega⟩⟩⟩)

set_option maxHeartbeats 4000000 in
set_option maxRecDepth 100000 in
theorem sf_X2_isSunday (l : Launch) (g : sv_G) (A : Nat → Prop) (ty : Nat → Nat) (σ : Nat → Nat → Int) (hok : sv_ok ty σ) (hTA : ∀ q, ty q ≠ 0 → A q) (hI : sv_inv sp_1 ty σ) (y : Int) (h_y : 0 ≤ y ∧ y ≤ 2000) (d : Int) (h_d : (-10) ≤ d ∧ d ≤ 400) : sv_M l yX2_isSunday cX2_isSunday 2 (some .boolean) { frames := 2, cells := 0, slots := 0, locals := 41 } g A ty σ [sv_i y, sv_i d] (fun r σ' => σ = σ' ∧ ∃ rv : Int, r = [sv_i rv] ∧ (0 ≤ rv ∧ rv ≤ 1)) := by
  refine sv_enter (by decide) (Nat.le_of_ble_eq_true rfl) ?_
  intro p e s m args below meth c C hr
  have C : sv_C g A RX2 cX2_isSunday 2 p s m args meth c := C
  have hr : meth.sig.returnType = (some .boolean) := hr
  have hF : sv_ofx [] [] ty σ σ := sv_ofx.rf
  refine sv_same (st2 := []) (lv2 := [(0, sv_i y), (1, sv_i d)]) rfl rfl ?_
  refine sv_go C.1 C.2.1 [(.iload_n 0, 1), (.iload_n 1, 1)] (pc' := 2) (by decide +kernel) rfl (lv' := [(0, sv_i y), (1, sv_i d)]) (st' := [sv_i d, sv_i y]) rfl ?_
  refine sv_cs C (index := 25) (k := 2) (rest := []) (by decide +kernel) (sf_X2_weekday l g A ty σ hok hTA hI (y) ⟨by omega, by omega⟩ (d) ⟨by omega, by omega⟩) ⟨co_X2_weekday, in_X2, ⟨by decide, by decide, by decide +kernel⟩, Nat.le_of_ble_eq_true rfl, Nat.le_of_ble_eq_true rfl⟩ ml_X2_25 st_X2_weekday rfl rfl (Nat.le_of_ble_eq_true rfl) ⟨Nat.zero_le _, Nat.zero_le _⟩ (fun r2 σ3 hpo1 hok4 => ?_)
  obtain ⟨rfl, ⟨vu5, rfl, hvu5⟩⟩ := hpo1
  refine sv_same (st2 := [sv_i vu5]) (lv2 := [(0, sv_i y), (1, sv_i d)]) rfl rfl ?_
  refine sv_if C.1 C.2.1 (cnd := .ne) (off := 7) (tgt := 12) (by decide +kernel) (by decide) ⟨by omega, by omega⟩ (fun (h6 : vu5 ≠ 0) => ?_) (fun (h6 : ¬ (vu5 ≠ 0)) => ?_)
  · refine sv_go C.1 C.2.1 [(.iconst 0, 1)] (pc' := 13) (by decide +kernel) rfl (lv' := [(0, sv_i y), (1, sv_i d)]) (st' := [sv_i 0]) rfl ?_
    exact sv_zret C hr (by omega) (by decide +kernel) hok4 (⟨rfl, ⟨_, rfl, ⟨by omega, by omega⟩⟩⟩)
  · refine sv_go C.1 C.2.1 [(.iconst 1, 1)] (pc' := 9) (by decide +kernel) rfl (lv' := [(0, sv_i y), (1, sv_i d)]) (st' := [sv_i 1]) rfl ?_
    refine sv_goto C.1 C.2.1 (off := 4) (tgt := 13) (by decide +kernel) (by decide) ?_
    exact sv_zret C hr (by omega) (by decide +kernel) hok4 (⟨rfl, ⟨_, rfl, ⟨by omega, by omega⟩⟩⟩)

theorem fl_X2_29 : Cond.fieldLink RX2 29 "SaintsRoad$Days" "MONTH_AT_MOST" "[I" ∈ lw_good := sv_mem 587 (by decide +kernel) rfl
set_option maxHeartbeats 4000000 in
set_option maxRecDepth 100000 in
theorem sf_X2_mostDaysOf (l : Launch) (g : sv_G) (A : Nat → Prop) (ty : Nat → Nat) (σ : Nat → Nat → Int) (hok : sv_ok ty σ) (hTA : ∀ q, ty q ≠ 0 → A q) (hI : sv_inv sp_1 ty σ) (mo : Int) (h_mo : (-2147483648) ≤ mo ∧ mo ≤ 2147483647) : sv_M l yX2_mostDaysOf cX2_mostDaysOf 1 (some .int) { frames := 0, cells := 0, slots := 0, locals := 0 } g A ty σ [sv_i mo] (fun r σ' => σ = σ' ∧ ∃ rv : Int, r = [sv_i rv] ∧ (0 ≤ rv ∧ rv ≤ 31)) := by
  refine sv_enter (by decide) (Nat.le_of_ble_eq_true rfl) ?_
  intro p e s m args below meth c C hr
  have C : sv_C g A RX2 cX2_mostDaysOf 1 p s m args meth c := C
  have hr : meth.sig.returnType = (some .int) := hr
  have hF : sv_ofx [] [] ty σ σ := sv_ofx.rf
  refine sv_same (st2 := []) (lv2 := [(0, sv_i mo)]) rfl rfl ?_
  refine sv_go C.1 C.2.1 [(.iload_n 0, 1), (.iconst 1, 1)] (pc' := 2) (by decide +kernel) rfl (lv' := [(0, sv_i mo)]) (st' := [sv_i 1, sv_i mo]) rfl ?_
  refine sv_icmp C.1 C.2.1 (cnd := .lt) (off := 19) (tgt := 21) (by decide +kernel) (by decide) ⟨by omega, by omega⟩ ⟨by omega, by omega⟩ (fun (h1 : mo < 1) => ?_) (fun (h1 : ¬ (mo < 1)) => ?_)
  · refine sv_go C.1 C.2.1 [(.iconst 0, 1)] (pc' := 22) (by decide +kernel) rfl (lv' := [(0, sv_i mo)]) (st' := [sv_i 0]) rfl ?_
    exact sv_iret C hr (by decide +kernel) hok (⟨rfl, ⟨_, rfl, ⟨by omega, by omega⟩⟩⟩)
  · refine sv_go C.1 C.2.1 [(.iload_n 0, 1), (.bipush 12, 2)] (pc' := 8) (by decide +kernel) rfl (lv' := [(0, sv_i mo)]) (st' := [sv_i 12, sv_i mo]) rfl ?_
    refine sv_icmp C.1 C.2.1 (cnd := .gt) (off := 13) (tgt := 21) (by decide +kernel) (by decide) ⟨by omega, by omega⟩ ⟨by omega, by omega⟩ (fun (h2 : 12 < mo) => ?_) (fun (h2 : ¬ (12 < mo)) => ?_)
    · refine sv_go C.1 C.2.1 [(.iconst 0, 1)] (pc' := 22) (by decide +kernel) rfl (lv' := [(0, sv_i mo)]) (st' := [sv_i 0]) rfl ?_
      exact sv_iret C hr (by decide +kernel) hok (⟨rfl, ⟨_, rfl, ⟨by omega, by omega⟩⟩⟩)
    · refine sv_gs1 C (index := 29) (by decide +kernel) fl_X2_29 ?_
      refine sv_go C.1 C.2.1 [(.iload_n 0, 1), (.iconst 1, 1), (.isub, 1)] (pc' := 17) (by decide +kernel) rfl (lv' := [(0, sv_i mo)]) (st' := [sv_i (mo - 1), sv_r g.2.2.1]) rfl ?_
      obtain ⟨v3, ev3, hv3⟩ := sv_monz (i := mo - 1) (by omega) (by omega)
      refine sv_tab C (z := v3) C.2.2.2.2.2.1.2.2.1.2 (by decide +kernel) (by omega) (by omega) ev3 ?_
      refine sv_goto C.1 C.2.1 (off := 4) (tgt := 22) (by decide +kernel) (by decide) ?_
      exact sv_iret C hr (by decide +kernel) hok (⟨rfl, ⟨_, rfl, ⟨by omega, by omega⟩⟩⟩)

theorem ml_X2_33 : Cond.methodLink RX2 33 yX2_mostDaysOf ∈ lw_good := sv_mem 708 (by decide +kernel) rfl
theorem co_X2_mostDaysOf : Cond.code yX2_mostDaysOf cX2_mostDaysOf 1 (some .int) ∈ lw_good := sv_mem 586 (by decide +kernel) rfl
theorem st_X2_mostDaysOf : Cond.static yX2_mostDaysOf ∈ lw_good := sv_mem 585 (by decide +kernel) rfl
set_option maxHeartbeats 4000000 in
set_option maxRecDepth 100000 in
theorem sf_X2_monthLength (l : Launch) (g : sv_G) (A : Nat → Prop) (ty : Nat → Nat) (σ : Nat → Nat → Int) (hok : sv_ok ty σ) (hTA : ∀ q, ty q ≠ 0 → A q) (hI : sv_inv sp_1 ty σ) (y : Int) (h_y : 0 ≤ y ∧ y ≤ 2000) (mo : Int) (h_mo : (-2147483648) ≤ mo ∧ mo ≤ 2147483647) : sv_M l yX2_monthLength cX2_monthLength 2 (some .int) { frames := 1, cells := 0, slots := 0, locals := 20 } g A ty σ [sv_i y, sv_i mo] (fun r σ' => σ = σ' ∧ ∃ rv : Int, r = [sv_i rv] ∧ (0 ≤ rv ∧ rv ≤ 31)) := by
  refine sv_enter (by decide) (Nat.le_of_ble_eq_true rfl) ?_
  intro p e s m args below meth c C hr
  have C : sv_C g A RX2 cX2_monthLength 2 p s m args meth c := C
  have hr : meth.sig.returnType = (some .int) := hr
  have hF : sv_ofx [] [] ty σ σ := sv_ofx.rf
  refine sv_same (st2 := []) (lv2 := [(0, sv_i y), (1, sv_i mo)]) rfl rfl ?_
  refine sv_go C.1 C.2.1 [(.iload_n 1, 1), (.iconst 2, 1)] (pc' := 2) (by decide +kernel) rfl (lv' := [(0, sv_i y), (1, sv_i mo)]) (st' := [sv_i 2, sv_i mo]) rfl ?_
  refine sv_icmp C.1 C.2.1 (cnd := .ne) (off := 15) (tgt := 17) (by decide +kernel) (by decide) ⟨by omega, by omega⟩ ⟨by omega, by omega⟩ (fun (h1 : mo ≠ 2) => ?_) (fun (h1 : ¬ (mo ≠ 2)) => ?_)
  · refine sv_go C.1 C.2.1 [(.iload_n 1, 1)] (pc' := 18) (by decide +kernel) rfl (lv' := [(0, sv_i y), (1, sv_i mo)]) (st' := [sv_i mo]) rfl ?_
    refine sv_cs C (index := 33) (k := 1) (rest := []) (by decide +kernel) (sf_X2_mostDaysOf l g A ty σ hok hTA hI (mo) ⟨by omega, by omega⟩) ⟨co_X2_mostDaysOf, in_X2, ⟨by decide, by decide, by decide +kernel⟩, Nat.le_of_ble_eq_true rfl, Nat.le_of_ble_eq_true rfl⟩ ml_X2_33 st_X2_mostDaysOf rfl rfl (Nat.le_of_ble_eq_true rfl) ⟨Nat.zero_le _, Nat.zero_le _⟩ (fun r3 σ4 hpo2 hok5 => ?_)
    obtain ⟨rfl, ⟨vu6, rfl, hvu6⟩⟩ := hpo2
    refine sv_same (st2 := [sv_i vu6]) (lv2 := [(0, sv_i y), (1, sv_i mo)]) rfl rfl ?_
    exact sv_iret C hr (by decide +kernel) hok5 (⟨rfl, ⟨_, rfl, ⟨by omega, by omega⟩⟩⟩)
  · refine sv_go C.1 C.2.1 [(.iload_n 0, 1)] (pc' := 6) (by decide +kernel) rfl (lv' := [(0, sv_i y), (1, sv_i mo)]) (st' := [sv_i y]) rfl ?_
    refine sv_cs C (index := 19) (k := 1) (rest := []) (by decide +kernel) (ct_X2_isLeap l g A ty σ hok (y) ⟨by omega, by omega⟩) ⟨co_X2_isLeap, in_X2, ⟨by decide, by decide, by decide +kernel⟩, Nat.le_of_ble_eq_true rfl, Nat.le_of_ble_eq_true rfl⟩ ml_X2_19 st_X2_isLeap rfl rfl (Nat.le_of_ble_eq_true rfl) ⟨Nat.zero_le _, Nat.zero_le _⟩ (fun r8 σ9 hpo7 hok10 => ?_)
    obtain ⟨rfl, ⟨h11, rfl⟩ | ⟨h11, rfl⟩⟩ := hpo7
    · refine sv_same (st2 := [sv_i 1]) (lv2 := [(0, sv_i y), (1, sv_i mo)]) rfl rfl ?_
      refine sv_if_t C.1 C.2.1 (cnd := .ne) (off := 8) (tgt := 17) (by decide +kernel) (by decide) ⟨by omega, by omega⟩ (show 1 ≠ 0 by omega) ?_
      refine sv_go C.1 C.2.1 [(.iload_n 1, 1)] (pc' := 18) (by decide +kernel) rfl (lv' := [(0, sv_i y), (1, sv_i mo)]) (st' := [sv_i mo]) rfl ?_
      refine sv_cs C (index := 33) (k := 1) (rest := []) (by decide +kernel) (sf_X2_mostDaysOf l g A ty σ hok10 hTA hI (mo) ⟨by omega, by omega⟩) ⟨co_X2_mostDaysOf, in_X2, ⟨by decide, by decide, by decide +kernel⟩, Nat.le_of_ble_eq_true rfl, Nat.le_of_ble_eq_true rfl⟩ ml_X2_33 st_X2_mostDaysOf rfl rfl (Nat.le_of_ble_eq_true rfl) ⟨Nat.zero_le _, Nat.zero_le _⟩ (fun r13 σ14 hpo12 hok15 => ?_)
      obtain ⟨rfl, ⟨vu16, rfl, hvu16⟩⟩ := hpo12
      refine sv_same (st2 := [sv_i vu16]) (lv2 := [(0, sv_i y), (1, sv_i mo)]) rfl rfl ?_
      exact sv_iret C hr (by decide +kernel) hok15 (⟨rfl, ⟨_, rfl, ⟨by omega, by omega⟩⟩⟩)
    · refine sv_same (st2 := [sv_i 0]) (lv2 := [(0, sv_i y), (1, sv_i mo)]) rfl rfl ?_
      refine sv_if_f C.1 C.2.1 (cnd := .ne) (off := 8) (tgt := 17) (by decide +kernel) (by decide) ⟨by omega, by omega⟩ (show ¬ (0 ≠ 0) by omega) ?_
      refine sv_go C.1 C.2.1 [(.bipush 28, 2)] (pc' := 14) (by decide +kernel) rfl (lv' := [(0, sv_i y), (1, sv_i mo)]) (st' := [sv_i 28]) rfl ?_
      refine sv_goto C.1 C.2.1 (off := 7) (tgt := 21) (by decide +kernel) (by decide) ?_
      exact sv_iret C hr (by decide +kernel) hok10 (⟨rfl, ⟨_, rfl, ⟨by omega, by omega⟩⟩⟩)

set_option maxHeartbeats 4000000 in
set_option maxRecDepth 100000 in
theorem sf_X2_monthStart (l : Launch) (g : sv_G) (A : Nat → Prop) (ty : Nat → Nat) (σ : Nat → Nat → Int) (hok : sv_ok ty σ) (hTA : ∀ q, ty q ≠ 0 → A q) (hI : sv_inv sp_1 ty σ) (y : Int) (h_y : 0 ≤ y ∧ y ≤ 2000) (mo : Int) (h_mo : (-2147483648) ≤ mo ∧ mo ≤ 2147483647) : sv_M l yX2_monthStart cX2_monthStart 2 (some .int) { frames := 1, cells := 0, slots := 0, locals := 20 } g A ty σ [sv_i y, sv_i mo] (fun r σ' => σ = σ' ∧ ∃ rv : Int, r = [sv_i rv] ∧ (0 ≤ rv ∧ rv ≤ 335)) := by
  refine sv_enter (by decide) (Nat.le_of_ble_eq_true rfl) ?_
  intro p e s m args below meth c C hr
  have C : sv_C g A RX2 cX2_monthStart 2 p s m args meth c := C
  have hr : meth.sig.returnType = (some .int) := hr
  have hF : sv_ofx [] [] ty σ σ := sv_ofx.rf
  refine sv_same (st2 := []) (lv2 := [(0, sv_i y), (1, sv_i mo)]) rfl rfl ?_
  refine sv_go C.1 C.2.1 [(.iload_n 1, 1), (.iconst 1, 1)] (pc' := 2) (by decide +kernel) rfl (lv' := [(0, sv_i y), (1, sv_i mo)]) (st' := [sv_i 1, sv_i mo]) rfl ?_
  refine sv_icmp C.1 C.2.1 (cnd := .lt) (off := 9) (tgt := 11) (by decide +kernel) (by decide) ⟨by omega, by omega⟩ ⟨by omega, by omega⟩ (fun (h1 : mo < 1) => ?_) (fun (h1 : ¬ (mo < 1)) => ?_)
  · refine sv_go C.1 C.2.1 [(.iconst 0, 1)] (pc' := 12) (by decide +kernel) rfl (lv' := [(0, sv_i y), (1, sv_i mo)]) (st' := [sv_i 0]) rfl ?_
    exact sv_iret C hr (by decide +kernel) hok (⟨rfl, ⟨_, rfl, ⟨by omega, by omega⟩⟩⟩)
  · refine sv_go C.1 C.2.1 [(.iload_n 1, 1), (.bipush 12, 2)] (pc' := 8) (by decide +kernel) rfl (lv' := [(0, sv_i y), (1, sv_i mo)]) (st' := [sv_i 12, sv_i mo]) rfl ?_
    refine sv_icmp C.1 C.2.1 (cnd := .le) (off := 5) (tgt := 13) (by decide +kernel) (by decide) ⟨by omega, by omega⟩ ⟨by omega, by omega⟩ (fun (h2 : mo ≤ 12) => ?_) (fun (h2 : ¬ (mo ≤ 12)) => ?_)
    · refine sv_gs2 C (index := 36) (by decide +kernel) fl_X2_36 ?_
      refine sv_go C.1 C.2.1 [(.iload_n 1, 1), (.iconst 1, 1), (.isub, 1)] (pc' := 19) (by decide +kernel) rfl (lv' := [(0, sv_i y), (1, sv_i mo)]) (st' := [sv_i (mo - 1), sv_r g.2.2.2.1]) rfl ?_
      obtain ⟨v3, ev3, hv3⟩ := sv_mstz (i := mo - 1) (by omega) (by omega)
      refine sv_tab C (z := v3) C.2.2.2.2.2.1.2.2.2.2.1 (by decide +kernel) (by omega) (by omega) ev3 ?_
      refine sv_go C.1 C.2.1 [(.iload_n 1, 1), (.iconst 2, 1)] (pc' := 22) (by decide +kernel) rfl (lv' := [(0, sv_i y), (1, sv_i mo)]) (st' := [sv_i 2, sv_i mo, sv_i v3]) rfl ?_
      refine sv_icmp C.1 C.2.1 (cnd := .le) (off := 14) (tgt := 36) (by decide +kernel) (by decide) ⟨by omega, by omega⟩ ⟨by omega, by omega⟩ (fun (h4 : mo ≤ 2) => ?_) (fun (h4 : ¬ (mo ≤ 2)) => ?_)
      · refine sv_go C.1 C.2.1 [(.iconst 0, 1), (.iadd, 1)] (pc' := 38) (by decide +kernel) rfl (lv' := [(0, sv_i y), (1, sv_i mo)]) (st' := [sv_i (v3 + 0)]) rfl ?_
        exact sv_iret C hr (by decide +kernel) hok (⟨rfl, ⟨_, rfl, ⟨by omega, by omega⟩⟩⟩)
      · refine sv_go C.1 C.2.1 [(.iload_n 0, 1)] (pc' := 26) (by decide +kernel) rfl (lv' := [(0, sv_i y), (1, sv_i mo)]) (st' := [sv_i y, sv_i v3]) rfl ?_
        refine sv_cs C (index := 19) (k := 1) (rest := [sv_i v3]) (by decide +kernel) (ct_X2_isLeap l g A ty σ hok (y) ⟨by omega, by omega⟩) ⟨co_X2_isLeap, in_X2, ⟨by decide, by decide, by decide +kernel⟩, Nat.le_of_ble_eq_true rfl, Nat.le_of_ble_eq_true rfl⟩ ml_X2_19 st_X2_isLeap rfl rfl (Nat.le_of_ble_eq_true rfl) ⟨Nat.zero_le _, Nat.zero_le _⟩ (fun r6 σ7 hpo5 hok8 => ?_)
        obtain ⟨rfl, ⟨h9, rfl⟩ | ⟨h9, rfl⟩⟩ := hpo5
        · refine sv_same (st2 := [sv_i 1, sv_i v3]) (lv2 := [(0, sv_i y), (1, sv_i mo)]) rfl rfl ?_
          refine sv_if_f C.1 C.2.1 (cnd := .eq) (off := 7) (tgt := 36) (by decide +kernel) (by decide) ⟨by omega, by omega⟩ (show ¬ (1 = 0) by omega) ?_
          refine sv_go C.1 C.2.1 [(.iconst 1, 1)] (pc' := 33) (by decide +kernel) rfl (lv' := [(0, sv_i y), (1, sv_i mo)]) (st' := [sv_i 1, sv_i v3]) rfl ?_
          refine sv_goto C.1 C.2.1 (off := 4) (tgt := 37) (by decide +kernel) (by decide) ?_
          refine sv_go C.1 C.2.1 [(.iadd, 1)] (pc' := 38) (by decide +kernel) rfl (lv' := [(0, sv_i y), (1, sv_i mo)]) (st' := [sv_i (v3 + 1)]) rfl ?_
          exact sv_iret C hr (by decide +kernel) hok8 (⟨rfl, ⟨_, rfl, ⟨by omega, by omega⟩⟩⟩)
        · refine sv_same (st2 := [sv_i 0, sv_i v3]) (lv2 := [(0, sv_i y), (1, sv_i mo)]) rfl rfl ?_
          refine sv_if_t C.1 C.2.1 (cnd := .eq) (off := 7) (tgt := 36) (by decide +kernel) (by decide) ⟨by omega, by omega⟩ (show 0 = 0 by omega) ?_
          refine sv_go C.1 C.2.1 [(.iconst 0, 1), (.iadd, 1)] (pc' := 38) (by decide +kernel) rfl (lv' := [(0, sv_i y), (1, sv_i mo)]) (st' := [sv_i (v3 + 0)]) rfl ?_
          exact sv_iret C hr (by decide +kernel) hok8 (⟨rfl, ⟨_, rfl, ⟨by omega, by omega⟩⟩⟩)
    · refine sv_go C.1 C.2.1 [(.iconst 0, 1)] (pc' := 12) (by decide +kernel) rfl (lv' := [(0, sv_i y), (1, sv_i mo)]) (st' := [sv_i 0]) rfl ?_
      exact sv_iret C hr (by decide +kernel) hok (⟨rfl, ⟨_, rfl, ⟨by omega, by omega⟩⟩⟩)

set_option maxHeartbeats 4000000 in
set_option maxRecDepth 100000 in
theorem sf_X2_monthOf (l : Launch) (g : sv_G) (A : Nat → Prop) (ty : Nat → Nat) (σ : Nat → Nat → Int) (hok : sv_ok ty σ) (hTA : ∀ q, ty q ≠ 0 → A q) (hI : sv_inv sp_1 ty σ) (y : Int) (h_y : 0 ≤ y ∧ y ≤ 2000) (d : Int) (h_d : 0 ≤ d ∧ d ≤ 400) : sv_M l yX2_monthOf cX2_monthOf 3 (some .int) { frames := 2, cells := 0, slots := 0, locals := 41 } g A ty σ [sv_i y, sv_i d] (fun r σ' => σ = σ' ∧ ∃ rv : Int, r = [sv_i rv] ∧ (1 ≤ rv ∧ rv ≤ 12)) := by
  refine sv_enter (by decide) (Nat.le_of_ble_eq_true rfl) ?_
  intro p e s m args below meth c C hr
  have C : sv_C g A RX2 cX2_monthOf 3 p s m args meth c := C
  have hr : meth.sig.returnType = (some .int) := hr
  have hF : sv_ofx [] [] ty σ σ := sv_ofx.rf
  refine sv_same (st2 := []) (lv2 := [(0, sv_i y), (1, sv_i d)]) rfl rfl ?_
  refine sv_go C.1 C.2.1 [(.iconst 1, 1), (.istore_n 2, 1)] (pc' := 2) (by decide +kernel) rfl (lv' := [(0, sv_i y), (1, sv_i d), (2, sv_i 1)]) (st' := []) rfl ?_
  have L2 : ∀ (n : Nat) (Xg1_l2 : Int), (1 ≤ Xg1_l2 ∧ Xg1_l2 ≤ 12) → (12 - Xg1_l2) < (n : Int) → sv_E p l e { frames := 2, cells := 0, slots := 0, locals := 41 } s m args below meth c 3 g A ty (fun r σ' => σ = σ' ∧ ∃ rv : Int, r = [sv_i rv] ∧ (1 ≤ rv ∧ rv ≤ 12)) σ 2 [(0, sv_i y), (1, sv_i d), (2, sv_i Xg1_l2)] [] := by
    intro n
    induction n with
    | zero => intro Xg1_l2 hXg1_l2 hmu; exact absurd hmu (by omega)
    | succ n ih3 =>
      intro Xg1_l2 hXg1_l2 hmu
      refine sv_go C.1 C.2.1 [(.iload_n 2, 1), (.bipush 12, 2)] (pc' := 5) (by decide +kernel) rfl (lv' := [(0, sv_i y), (1, sv_i d), (2, sv_i Xg1_l2)]) (st' := [sv_i 12, sv_i Xg1_l2]) rfl ?_
      refine sv_icmp C.1 C.2.1 (cnd := .ge) (off := 20) (tgt := 25) (by decide +kernel) (by decide) ⟨by omega, by omega⟩ ⟨by omega, by omega⟩ (fun (h4 : 12 ≤ Xg1_l2) => ?_) (fun (h4 : ¬ (12 ≤ Xg1_l2)) => ?_)
      · refine sv_go C.1 C.2.1 [(.iload_n 2, 1)] (pc' := 26) (by decide +kernel) rfl (lv' := [(0, sv_i y), (1, sv_i d), (2, sv_i Xg1_l2)]) (st' := [sv_i Xg1_l2]) rfl ?_
        exact sv_iret C hr (by decide +kernel) hok (⟨rfl, ⟨_, rfl, ⟨by omega, by omega⟩⟩⟩)
      · refine sv_go C.1 C.2.1 [(.iload_n 1, 1), (.iload_n 0, 1), (.iload_n 2, 1), (.iconst 1, 1), (.iadd, 1)] (pc' := 13) (by decide +kernel) rfl (lv' := [(0, sv_i y), (1, sv_i d), (2, sv_i Xg1_l2)]) (st' := [sv_i (Xg1_l2 + 1), sv_i y, sv_i d]) rfl ?_
        refine sv_cs C (index := 39) (k := 2) (rest := [sv_i d]) (by decide +kernel) (sf_X2_monthStart l g A ty σ hok hTA hI (y) ⟨by omega, by omega⟩ (Xg1_l2 + 1) ⟨by omega, by omega⟩) ⟨co_X2_monthStart, in_X2, ⟨by decide, by decide, by decide +kernel⟩, Nat.le_of_ble_eq_true rfl, Nat.le_of_ble_eq_true rfl⟩ ml_X2_39 st_X2_monthStart rfl rfl (Nat.le_of_ble_eq_true rfl) ⟨Nat.zero_le _, Nat.zero_le _⟩ (fun r6 σ7 hpo5 hok8 => ?_)
        obtain ⟨rfl, ⟨vu9, rfl, hvu9⟩⟩ := hpo5
        refine sv_same (st2 := [sv_i vu9, sv_i d]) (lv2 := [(0, sv_i y), (1, sv_i d), (2, sv_i Xg1_l2)]) rfl rfl ?_
        refine sv_icmp C.1 C.2.1 (cnd := .lt) (off := 9) (tgt := 25) (by decide +kernel) (by decide) ⟨by omega, by omega⟩ ⟨by omega, by omega⟩ (fun (h10 : d < vu9) => ?_) (fun (h10 : ¬ (d < vu9)) => ?_)
        · refine sv_go C.1 C.2.1 [(.iload_n 2, 1)] (pc' := 26) (by decide +kernel) rfl (lv' := [(0, sv_i y), (1, sv_i d), (2, sv_i Xg1_l2)]) (st' := [sv_i Xg1_l2]) rfl ?_
          exact sv_iret C hr (by decide +kernel) hok8 (⟨rfl, ⟨_, rfl, ⟨by omega, by omega⟩⟩⟩)
        · refine sv_go C.1 C.2.1 [(.iinc 2 1, 3)] (pc' := 22) (by decide +kernel) rfl (lv' := [(0, sv_i y), (1, sv_i d), (2, sv_i (Xg1_l2 + 1))]) (st' := []) rfl ?_
          refine sv_goto C.1 C.2.1 (off := (-20)) (tgt := 2) (by decide +kernel) (by decide) ?_
          exact ih3 (Xg1_l2 + 1) ⟨by omega, by omega⟩ (by omega)
  exact L2 (((12 - 1 : Int)).toNat + 1) 1 ⟨by omega, by omega⟩ (by omega)

theorem ml_X2_42 : Cond.methodLink RX2 42 yX2_monthLength ∈ lw_good := sv_mem 714 (by decide +kernel) rfl
theorem co_X2_monthLength : Cond.code yX2_monthLength cX2_monthLength 2 (some .int) ∈ lw_good := sv_mem 707 (by decide +kernel) rfl
theorem st_X2_monthLength : Cond.static yX2_monthLength ∈ lw_good := sv_mem 706 (by decide +kernel) rfl
set_option maxHeartbeats 4000000 in
set_option maxRecDepth 100000 in
theorem sf_X2_sundayOf (l : Launch) (g : sv_G) (A : Nat → Prop) (ty : Nat → Nat) (σ : Nat → Nat → Int) (hok : sv_ok ty σ) (hTA : ∀ q, ty q ≠ 0 → A q) (hI : sv_inv sp_1 ty σ) (y : Int) (h_y : 0 ≤ y ∧ y ≤ 2000) (mo : Int) (h_mo : (-2147483648) ≤ mo ∧ mo ≤ 2147483647) (k : Int) (h_k : (-2147483648) ≤ k ∧ k ≤ 2147483647) : sv_M l yX2_sundayOf cX2_sundayOf 6 (some .int) { frames := 2, cells := 0, slots := 0, locals := 41 } g A ty σ [sv_i y, sv_i mo, sv_i k] (fun r σ' => σ = σ' ∧ ∃ rv : Int, r = [sv_i rv] ∧ ((-2147483648) ≤ rv ∧ rv ≤ 2147483647)) := by
  refine sv_enter (by decide) (Nat.le_of_ble_eq_true rfl) ?_
  intro p e s m args below meth c C hr
  have C : sv_C g A RX2 cX2_sundayOf 6 p s m args meth c := C
  have hr : meth.sig.returnType = (some .int) := hr
  have hF : sv_ofx [] [] ty σ σ := sv_ofx.rf
  refine sv_same (st2 := []) (lv2 := [(0, sv_i y), (1, sv_i mo), (2, sv_i k)]) rfl rfl ?_
  refine sv_go C.1 C.2.1 [(.iload_n 0, 1), (.iload_n 1, 1)] (pc' := 2) (by decide +kernel) rfl (lv' := [(0, sv_i y), (1, sv_i mo), (2, sv_i k)]) (st' := [sv_i mo, sv_i y]) rfl ?_
  refine sv_cs C (index := 39) (k := 2) (rest := []) (by decide +kernel) (sf_X2_monthStart l g A ty σ hok hTA hI (y) ⟨by omega, by omega⟩ (mo) ⟨by omega, by omega⟩) ⟨co_X2_monthStart, in_X2, ⟨by decide, by decide, by decide +kernel⟩, Nat.le_of_ble_eq_true rfl, Nat.le_of_ble_eq_true rfl⟩ ml_X2_39 st_X2_monthStart rfl rfl (Nat.le_of_ble_eq_true rfl) ⟨Nat.zero_le _, Nat.zero_le _⟩ (fun r2 σ3 hpo1 hok4 => ?_)
  obtain ⟨rfl, ⟨vu5, rfl, hvu5⟩⟩ := hpo1
  refine sv_same (st2 := [sv_i vu5]) (lv2 := [(0, sv_i y), (1, sv_i mo), (2, sv_i k)]) rfl rfl ?_
  refine sv_go C.1 C.2.1 [(.istore_n 3, 1), (.iload_n 3, 1), (.bipush 7, 2), (.iload_n 0, 1), (.iload_n 3, 1)] (pc' := 11) (by decide +kernel) rfl (lv' := [(0, sv_i y), (1, sv_i mo), (2, sv_i k), (3, sv_i vu5)]) (st' := [sv_i vu5, sv_i y, sv_i 7, sv_i vu5]) rfl ?_
  refine sv_cs C (index := 25) (k := 2) (rest := [sv_i 7, sv_i vu5]) (by decide +kernel) (sf_X2_weekday l g A ty σ hok4 hTA hI (y) ⟨by omega, by omega⟩ (vu5) ⟨by omega, by omega⟩) ⟨co_X2_weekday, in_X2, ⟨by decide, by decide, by decide +kernel⟩, Nat.le_of_ble_eq_true rfl, Nat.le_of_ble_eq_true rfl⟩ ml_X2_25 st_X2_weekday rfl rfl (Nat.le_of_ble_eq_true rfl) ⟨Nat.zero_le _, Nat.zero_le _⟩ (fun r7 σ8 hpo6 hok9 => ?_)
  obtain ⟨rfl, ⟨vu10, rfl, hvu10⟩⟩ := hpo6
  refine sv_same (st2 := [sv_i vu10, sv_i 7, sv_i vu5]) (lv2 := [(0, sv_i y), (1, sv_i mo), (2, sv_i k), (3, sv_i vu5)]) rfl rfl ?_
  refine sv_go C.1 C.2.1 [(.isub, 1), (.bipush 7, 2)] (pc' := 17) (by decide +kernel) rfl (lv' := [(0, sv_i y), (1, sv_i mo), (2, sv_i k), (3, sv_i vu5)]) (st' := [sv_i 7, sv_i (7 - vu10), sv_i vu5]) rfl ?_
  refine sv_iremP C.1 C.2.1 (by decide +kernel) ⟨by omega, by omega⟩ ⟨by omega, by omega⟩ ?_
  refine sv_go C.1 C.2.1 [(.iadd, 1), (.istore 4, 2), (.iload 4, 2), (.bipush 7, 2), (.iload_n 2, 1), (.iconst 1, 1), (.isub, 1), (.imul, 1), (.iadd, 1), (.istore 5, 2), (.iload 5, 2), (.iload_n 3, 1), (.iload_n 0, 1), (.iload_n 1, 1)] (pc' := 37) (by decide +kernel) rfl (lv' := [(0, sv_i y), (1, sv_i mo), (2, sv_i k), (3, sv_i vu5), (4, sv_i (vu5 + ((7 - vu10) % 7))), (5, sv_i ((vu5 + ((7 - vu10) % 7)) + (7 * (k - 1))))]) (st' := [sv_i mo, sv_i y, sv_i vu5, sv_i ((vu5 + ((7 - vu10) % 7)) + (7 * (k - 1)))]) rfl ?_
  refine sv_cs C (index := 42) (k := 2) (rest := [sv_i vu5, sv_i ((vu5 + ((7 - vu10) % 7)) + (7 * (k - 1)))]) (by decide +kernel) (sf_X2_monthLength l g A ty σ hok9 hTA hI (y) ⟨by omega, by omega⟩ (mo) ⟨by omega, by omega⟩) ⟨co_X2_monthLength, in_X2, ⟨by decide, by decide, by decide +kernel⟩, Nat.le_of_ble_eq_true rfl, Nat.le_of_ble_eq_true rfl⟩ ml_X2_42 st_X2_monthLength rfl rfl (Nat.le_of_ble_eq_true rfl) ⟨Nat.zero_le _, Nat.zero_le _⟩ (fun r12 σ13 hpo11 hok14 => ?_)
  obtain ⟨rfl, ⟨vu15, rfl, hvu15⟩⟩ := hpo11
  refine sv_same (st2 := [sv_i vu15, sv_i vu5, sv_i ((vu5 + ((7 - vu10) % 7)) + (7 * (k - 1)))]) (lv2 := [(0, sv_i y), (1, sv_i mo), (2, sv_i k), (3, sv_i vu5), (4, sv_i (vu5 + ((7 - vu10) % 7))), (5, sv_i ((vu5 + ((7 - vu10) % 7)) + (7 * (k - 1))))]) rfl rfl ?_
  refine sv_go C.1 C.2.1 [(.iadd, 1)] (pc' := 41) (by decide +kernel) rfl (lv' := [(0, sv_i y), (1, sv_i mo), (2, sv_i k), (3, sv_i vu5), (4, sv_i (vu5 + ((7 - vu10) % 7))), (5, sv_i ((vu5 + ((7 - vu10) % 7)) + (7 * (k - 1))))]) (st' := [sv_i (vu5 + vu15), sv_i ((vu5 + ((7 - vu10) % 7)) + (7 * (k - 1)))]) rfl ?_
  obtain ⟨w16, hw16, ew16⟩ := sv_wr ((vu5 + ((7 - vu10) % 7)) + (7 * (k - 1)))
  refine sv_sameD (st2 := [sv_i (vu5 + vu15), sv_i w16]) (lv2 := [(0, sv_i y), (1, sv_i mo), (2, sv_i k), (3, sv_i vu5), (4, sv_i (vu5 + ((7 - vu10) % 7))), (5, sv_i ((vu5 + ((7 - vu10) % 7)) + (7 * (k - 1))))]) (by simp only [List.map_cons, List.map_nil, sv_den_i, ew16]) rfl ?_
  refine sv_icmp C.1 C.2.1 (cnd := .ge) (off := 8) (tgt := 49) (by decide +kernel) (by decide) ⟨by omega, by omega⟩ ⟨by omega, by omega⟩ (fun (h17 : (vu5 + vu15) ≤ w16) => ?_) (fun (h17 : ¬ ((vu5 + vu15) ≤ w16)) => ?_)
  · refine sv_go C.1 C.2.1 [(.bipush (-10), 2)] (pc' := 51) (by decide +kernel) rfl (lv' := [(0, sv_i y), (1, sv_i mo), (2, sv_i k), (3, sv_i vu5), (4, sv_i (vu5 + ((7 - vu10) % 7))), (5, sv_i ((vu5 + ((7 - vu10) % 7)) + (7 * (k - 1))))]) (st' := [sv_i ((-10))]) rfl ?_
    exact sv_iret C hr (by decide +kernel) hok14 (⟨rfl, ⟨_, rfl, ⟨by omega, by omega⟩⟩⟩)
  · refine sv_go C.1 C.2.1 [(.iload 5, 2)] (pc' := 46) (by decide +kernel) rfl (lv' := [(0, sv_i y), (1, sv_i mo), (2, sv_i k), (3, sv_i vu5), (4, sv_i (vu5 + ((7 - vu10) % 7))), (5, sv_i ((vu5 + ((7 - vu10) % 7)) + (7 * (k - 1))))]) (st' := [sv_i ((vu5 + ((7 - vu10) % 7)) + (7 * (k - 1)))]) rfl ?_
    refine sv_goto C.1 C.2.1 (off := 5) (tgt := 51) (by decide +kernel) (by decide) ?_
    obtain ⟨w18, hw18, ew18⟩ := sv_wr ((vu5 + ((7 - vu10) % 7)) + (7 * (k - 1)))
    refine sv_sameD (st2 := [sv_i w18]) (lv2 := [(0, sv_i y), (1, sv_i mo), (2, sv_i k), (3, sv_i vu5), (4, sv_i (vu5 + ((7 - vu10) % 7))), (5, sv_i ((vu5 + ((7 - vu10) % 7)) + (7 * (k - 1))))]) (by simp only [List.map_cons, List.map_nil, sv_den_i, ew18]) rfl ?_
    exact sv_iret C hr (by decide +kernel) hok14 (⟨rfl, ⟨_, rfl, ⟨by omega, by omega⟩⟩⟩)

set_option maxHeartbeats 4000000 in
set_option maxRecDepth 100000 in
theorem sf_X9_isPlace (l : Launch) (g : sv_G) (A : Nat → Prop) (ty : Nat → Nat) (σ : Nat → Nat → Int) (hok : sv_ok ty σ) (hTA : ∀ q, ty q ≠ 0 → A q) (hI : sv_inv sp_1 ty σ) (v : Int) (h_v : (-2147483648) ≤ v ∧ v ≤ 2147483647) : sv_M l yX9_isPlace cX9_isPlace 1 (some .boolean) { frames := 0, cells := 0, slots := 0, locals := 0 } g A ty σ [sv_i v] (fun r σ' => σ = σ' ∧ ∃ rv : Int, r = [sv_i rv] ∧ (0 ≤ rv ∧ rv ≤ 1) ∧ (1 ≤ rv → rv ≤ 1 → 0 ≤ v ∧ v ≤ 3)) := by
  refine sv_enter (by decide) (Nat.le_of_ble_eq_true rfl) ?_
  intro p e s m args below meth c C hr
  have C : sv_C g A RX9 cX9_isPlace 1 p s m args meth c := C
  have hr : meth.sig.returnType = (some .boolean) := hr
  have hF : sv_ofx [] [] ty σ σ := sv_ofx.rf
  refine sv_same (st2 := []) (lv2 := [(0, sv_i v)]) rfl rfl ?_
  refine sv_go C.1 C.2.1 [(.iload_n 0, 1)] (pc' := 1) (by decide +kernel) rfl (lv' := [(0, sv_i v)]) (st' := [sv_i v]) rfl ?_
  refine sv_if C.1 C.2.1 (cnd := .lt) (off := 12) (tgt := 13) (by decide +kernel) (by decide) ⟨by omega, by omega⟩ (fun (h1 : v < 0) => ?_) (fun (h1 : ¬ (v < 0)) => ?_)
  · refine sv_go C.1 C.2.1 [(.iconst 0, 1)] (pc' := 14) (by decide +kernel) rfl (lv' := [(0, sv_i v)]) (st' := [sv_i 0]) rfl ?_
    exact sv_zret C hr (by omega) (by decide +kernel) hok (⟨rfl, ⟨_, rfl, ⟨by omega, by omega⟩, fun _ _ => (by omega)⟩⟩)
  · refine sv_go C.1 C.2.1 [(.iload_n 0, 1), (.iconst 4, 1)] (pc' := 6) (by decide +kernel) rfl (lv' := [(0, sv_i v)]) (st' := [sv_i 4, sv_i v]) rfl ?_
    refine sv_icmp C.1 C.2.1 (cnd := .ge) (off := 7) (tgt := 13) (by decide +kernel) (by decide) ⟨by omega, by omega⟩ ⟨by omega, by omega⟩ (fun (h2 : 4 ≤ v) => ?_) (fun (h2 : ¬ (4 ≤ v)) => ?_)
    · refine sv_go C.1 C.2.1 [(.iconst 0, 1)] (pc' := 14) (by decide +kernel) rfl (lv' := [(0, sv_i v)]) (st' := [sv_i 0]) rfl ?_
      exact sv_zret C hr (by omega) (by decide +kernel) hok (⟨rfl, ⟨_, rfl, ⟨by omega, by omega⟩, fun _ _ => (by omega)⟩⟩)
    · refine sv_go C.1 C.2.1 [(.iconst 1, 1)] (pc' := 10) (by decide +kernel) rfl (lv' := [(0, sv_i v)]) (st' := [sv_i 1]) rfl ?_
      refine sv_goto C.1 C.2.1 (off := 4) (tgt := 14) (by decide +kernel) (by decide) ?_
      exact sv_zret C hr (by omega) (by decide +kernel) hok (⟨rfl, ⟨_, rfl, ⟨by omega, by omega⟩, fun _ _ => (by omega)⟩⟩)

set_option maxHeartbeats 4000000 in
set_option maxRecDepth 100000 in
theorem sf_X9_isRank (l : Launch) (g : sv_G) (A : Nat → Prop) (ty : Nat → Nat) (σ : Nat → Nat → Int) (hok : sv_ok ty σ) (hTA : ∀ q, ty q ≠ 0 → A q) (hI : sv_inv sp_1 ty σ) (v : Int) (h_v : (-2147483648) ≤ v ∧ v ≤ 2147483647) : sv_M l yX9_isRank cX9_isRank 1 (some .boolean) { frames := 0, cells := 0, slots := 0, locals := 0 } g A ty σ [sv_i v] (fun r σ' => σ = σ' ∧ ∃ rv : Int, r = [sv_i rv] ∧ (0 ≤ rv ∧ rv ≤ 1) ∧ (1 ≤ rv → rv ≤ 1 → 1 ≤ v ∧ v ≤ 8)) := by
  refine sv_enter (by decide) (Nat.le_of_ble_eq_true rfl) ?_
  intro p e s m args below meth c C hr
  have C : sv_C g A RX9 cX9_isRank 1 p s m args meth c := C
  have hr : meth.sig.returnType = (some .boolean) := hr
  have hF : sv_ofx [] [] ty σ σ := sv_ofx.rf
  refine sv_same (st2 := []) (lv2 := [(0, sv_i v)]) rfl rfl ?_
  refine sv_go C.1 C.2.1 [(.iload_n 0, 1), (.iconst 1, 1)] (pc' := 2) (by decide +kernel) rfl (lv' := [(0, sv_i v)]) (st' := [sv_i 1, sv_i v]) rfl ?_
  refine sv_icmp C.1 C.2.1 (cnd := .lt) (off := 13) (tgt := 15) (by decide +kernel) (by decide) ⟨by omega, by omega⟩ ⟨by omega, by omega⟩ (fun (h1 : v < 1) => ?_) (fun (h1 : ¬ (v < 1)) => ?_)
  · refine sv_go C.1 C.2.1 [(.iconst 0, 1)] (pc' := 16) (by decide +kernel) rfl (lv' := [(0, sv_i v)]) (st' := [sv_i 0]) rfl ?_
    exact sv_zret C hr (by omega) (by decide +kernel) hok (⟨rfl, ⟨_, rfl, ⟨by omega, by omega⟩, fun _ _ => (by omega)⟩⟩)
  · refine sv_go C.1 C.2.1 [(.iload_n 0, 1), (.bipush 8, 2)] (pc' := 8) (by decide +kernel) rfl (lv' := [(0, sv_i v)]) (st' := [sv_i 8, sv_i v]) rfl ?_
    refine sv_icmp C.1 C.2.1 (cnd := .gt) (off := 7) (tgt := 15) (by decide +kernel) (by decide) ⟨by omega, by omega⟩ ⟨by omega, by omega⟩ (fun (h2 : 8 < v) => ?_) (fun (h2 : ¬ (8 < v)) => ?_)
    · refine sv_go C.1 C.2.1 [(.iconst 0, 1)] (pc' := 16) (by decide +kernel) rfl (lv' := [(0, sv_i v)]) (st' := [sv_i 0]) rfl ?_
      exact sv_zret C hr (by omega) (by decide +kernel) hok (⟨rfl, ⟨_, rfl, ⟨by omega, by omega⟩, fun _ _ => (by omega)⟩⟩)
    · refine sv_go C.1 C.2.1 [(.iconst 1, 1)] (pc' := 12) (by decide +kernel) rfl (lv' := [(0, sv_i v)]) (st' := [sv_i 1]) rfl ?_
      refine sv_goto C.1 C.2.1 (off := 4) (tgt := 16) (by decide +kernel) (by decide) ?_
      exact sv_zret C hr (by omega) (by decide +kernel) hok (⟨rfl, ⟨_, rfl, ⟨by omega, by omega⟩, fun _ _ => (by omega)⟩⟩)

set_option maxHeartbeats 4000000 in
set_option maxRecDepth 100000 in
theorem sf_X9_isBrotherhood (l : Launch) (g : sv_G) (A : Nat → Prop) (ty : Nat → Nat) (σ : Nat → Nat → Int) (hok : sv_ok ty σ) (hTA : ∀ q, ty q ≠ 0 → A q) (hI : sv_inv sp_1 ty σ) (v : Int) (h_v : (-2147483648) ≤ v ∧ v ≤ 2147483647) : sv_M l yX9_isBrotherhood cX9_isBrotherhood 1 (some .boolean) { frames := 0, cells := 0, slots := 0, locals := 0 } g A ty σ [sv_i v] (fun r σ' => σ = σ' ∧ ∃ rv : Int, r = [sv_i rv] ∧ (0 ≤ rv ∧ rv ≤ 1) ∧ (1 ≤ rv → rv ≤ 1 → 0 ≤ v ∧ v ≤ 9)) := by
  refine sv_enter (by decide) (Nat.le_of_ble_eq_true rfl) ?_
  intro p e s m args below meth c C hr
  have C : sv_C g A RX9 cX9_isBrotherhood 1 p s m args meth c := C
  have hr : meth.sig.returnType = (some .boolean) := hr
  have hF : sv_ofx [] [] ty σ σ := sv_ofx.rf
  refine sv_same (st2 := []) (lv2 := [(0, sv_i v)]) rfl rfl ?_
  refine sv_go C.1 C.2.1 [(.iload_n 0, 1)] (pc' := 1) (by decide +kernel) rfl (lv' := [(0, sv_i v)]) (st' := [sv_i v]) rfl ?_
  refine sv_if C.1 C.2.1 (cnd := .lt) (off := 13) (tgt := 14) (by decide +kernel) (by decide) ⟨by omega, by omega⟩ (fun (h1 : v < 0) => ?_) (fun (h1 : ¬ (v < 0)) => ?_)
  · refine sv_go C.1 C.2.1 [(.iconst 0, 1)] (pc' := 15) (by decide +kernel) rfl (lv' := [(0, sv_i v)]) (st' := [sv_i 0]) rfl ?_
    exact sv_zret C hr (by omega) (by decide +kernel) hok (⟨rfl, ⟨_, rfl, ⟨by omega, by omega⟩, fun _ _ => (by omega)⟩⟩)
  · refine sv_go C.1 C.2.1 [(.iload_n 0, 1), (.bipush 10, 2)] (pc' := 7) (by decide +kernel) rfl (lv' := [(0, sv_i v)]) (st' := [sv_i 10, sv_i v]) rfl ?_
    refine sv_icmp C.1 C.2.1 (cnd := .ge) (off := 7) (tgt := 14) (by decide +kernel) (by decide) ⟨by omega, by omega⟩ ⟨by omega, by omega⟩ (fun (h2 : 10 ≤ v) => ?_) (fun (h2 : ¬ (10 ≤ v)) => ?_)
    · refine sv_go C.1 C.2.1 [(.iconst 0, 1)] (pc' := 15) (by decide +kernel) rfl (lv' := [(0, sv_i v)]) (st' := [sv_i 0]) rfl ?_
      exact sv_zret C hr (by omega) (by decide +kernel) hok (⟨rfl, ⟨_, rfl, ⟨by omega, by omega⟩, fun _ _ => (by omega)⟩⟩)
    · refine sv_go C.1 C.2.1 [(.iconst 1, 1)] (pc' := 11) (by decide +kernel) rfl (lv' := [(0, sv_i v)]) (st' := [sv_i 1]) rfl ?_
      refine sv_goto C.1 C.2.1 (off := 4) (tgt := 15) (by decide +kernel) (by decide) ?_
      exact sv_zret C hr (by omega) (by decide +kernel) hok (⟨rfl, ⟨_, rfl, ⟨by omega, by omega⟩, fun _ _ => (by omega)⟩⟩)

set_option maxHeartbeats 4000000 in
set_option maxRecDepth 100000 in
theorem sf_X9_isCorner (l : Launch) (g : sv_G) (A : Nat → Prop) (ty : Nat → Nat) (σ : Nat → Nat → Int) (hok : sv_ok ty σ) (hTA : ∀ q, ty q ≠ 0 → A q) (hI : sv_inv sp_1 ty σ) (v : Int) (h_v : (-2147483648) ≤ v ∧ v ≤ 2147483647) : sv_M l yX9_isCorner cX9_isCorner 1 (some .boolean) { frames := 0, cells := 0, slots := 0, locals := 0 } g A ty σ [sv_i v] (fun r σ' => σ = σ' ∧ ∃ rv : Int, r = [sv_i rv] ∧ (0 ≤ rv ∧ rv ≤ 1) ∧ (1 ≤ rv → rv ≤ 1 → 0 ≤ v ∧ v ≤ 19)) := by
  refine sv_enter (by decide) (Nat.le_of_ble_eq_true rfl) ?_
  intro p e s m args below meth c C hr
  have C : sv_C g A RX9 cX9_isCorner 1 p s m args meth c := C
  have hr : meth.sig.returnType = (some .boolean) := hr
  have hF : sv_ofx [] [] ty σ σ := sv_ofx.rf
  refine sv_same (st2 := []) (lv2 := [(0, sv_i v)]) rfl rfl ?_
  refine sv_go C.1 C.2.1 [(.iload_n 0, 1)] (pc' := 1) (by decide +kernel) rfl (lv' := [(0, sv_i v)]) (st' := [sv_i v]) rfl ?_
  refine sv_if C.1 C.2.1 (cnd := .lt) (off := 13) (tgt := 14) (by decide +kernel) (by decide) ⟨by omega, by omega⟩ (fun (h1 : v < 0) => ?_) (fun (h1 : ¬ (v < 0)) => ?_)
  · refine sv_go C.1 C.2.1 [(.iconst 0, 1)] (pc' := 15) (by decide +kernel) rfl (lv' := [(0, sv_i v)]) (st' := [sv_i 0]) rfl ?_
    exact sv_zret C hr (by omega) (by decide +kernel) hok (⟨rfl, ⟨_, rfl, ⟨by omega, by omega⟩, fun _ _ => (by omega)⟩⟩)
  · refine sv_go C.1 C.2.1 [(.iload_n 0, 1), (.bipush 20, 2)] (pc' := 7) (by decide +kernel) rfl (lv' := [(0, sv_i v)]) (st' := [sv_i 20, sv_i v]) rfl ?_
    refine sv_icmp C.1 C.2.1 (cnd := .ge) (off := 7) (tgt := 14) (by decide +kernel) (by decide) ⟨by omega, by omega⟩ ⟨by omega, by omega⟩ (fun (h2 : 20 ≤ v) => ?_) (fun (h2 : ¬ (20 ≤ v)) => ?_)
    · refine sv_go C.1 C.2.1 [(.iconst 0, 1)] (pc' := 15) (by decide +kernel) rfl (lv' := [(0, sv_i v)]) (st' := [sv_i 0]) rfl ?_
      exact sv_zret C hr (by omega) (by decide +kernel) hok (⟨rfl, ⟨_, rfl, ⟨by omega, by omega⟩, fun _ _ => (by omega)⟩⟩)
    · refine sv_go C.1 C.2.1 [(.iconst 1, 1)] (pc' := 11) (by decide +kernel) rfl (lv' := [(0, sv_i v)]) (st' := [sv_i 1]) rfl ?_
      refine sv_goto C.1 C.2.1 (off := 4) (tgt := 15) (by decide +kernel) (by decide) ?_
      exact sv_zret C hr (by omega) (by decide +kernel) hok (⟨rfl, ⟨_, rfl, ⟨by omega, by omega⟩, fun _ _ => (by omega)⟩⟩)

set_option maxHeartbeats 4000000 in
set_option maxRecDepth 100000 in
theorem sf_X9_isProcession (l : Launch) (g : sv_G) (A : Nat → Prop) (ty : Nat → Nat) (σ : Nat → Nat → Int) (hok : sv_ok ty σ) (hTA : ∀ q, ty q ≠ 0 → A q) (hI : sv_inv sp_1 ty σ) (v : Int) (h_v : (-2147483648) ≤ v ∧ v ≤ 2147483647) : sv_M l yX9_isProcession cX9_isProcession 1 (some .boolean) { frames := 0, cells := 0, slots := 0, locals := 0 } g A ty σ [sv_i v] (fun r σ' => σ = σ' ∧ ∃ rv : Int, r = [sv_i rv] ∧ (0 ≤ rv ∧ rv ≤ 1) ∧ (1 ≤ rv → rv ≤ 1 → 0 ≤ v ∧ v ≤ 11)) := by
  refine sv_enter (by decide) (Nat.le_of_ble_eq_true rfl) ?_
  intro p e s m args below meth c C hr
  have C : sv_C g A RX9 cX9_isProcession 1 p s m args meth c := C
  have hr : meth.sig.returnType = (some .boolean) := hr
  have hF : sv_ofx [] [] ty σ σ := sv_ofx.rf
  refine sv_same (st2 := []) (lv2 := [(0, sv_i v)]) rfl rfl ?_
  refine sv_go C.1 C.2.1 [(.iload_n 0, 1)] (pc' := 1) (by decide +kernel) rfl (lv' := [(0, sv_i v)]) (st' := [sv_i v]) rfl ?_
  refine sv_if C.1 C.2.1 (cnd := .lt) (off := 13) (tgt := 14) (by decide +kernel) (by decide) ⟨by omega, by omega⟩ (fun (h1 : v < 0) => ?_) (fun (h1 : ¬ (v < 0)) => ?_)
  · refine sv_go C.1 C.2.1 [(.iconst 0, 1)] (pc' := 15) (by decide +kernel) rfl (lv' := [(0, sv_i v)]) (st' := [sv_i 0]) rfl ?_
    exact sv_zret C hr (by omega) (by decide +kernel) hok (⟨rfl, ⟨_, rfl, ⟨by omega, by omega⟩, fun _ _ => (by omega)⟩⟩)
  · refine sv_go C.1 C.2.1 [(.iload_n 0, 1), (.bipush 12, 2)] (pc' := 7) (by decide +kernel) rfl (lv' := [(0, sv_i v)]) (st' := [sv_i 12, sv_i v]) rfl ?_
    refine sv_icmp C.1 C.2.1 (cnd := .ge) (off := 7) (tgt := 14) (by decide +kernel) (by decide) ⟨by omega, by omega⟩ ⟨by omega, by omega⟩ (fun (h2 : 12 ≤ v) => ?_) (fun (h2 : ¬ (12 ≤ v)) => ?_)
    · refine sv_go C.1 C.2.1 [(.iconst 0, 1)] (pc' := 15) (by decide +kernel) rfl (lv' := [(0, sv_i v)]) (st' := [sv_i 0]) rfl ?_
      exact sv_zret C hr (by omega) (by decide +kernel) hok (⟨rfl, ⟨_, rfl, ⟨by omega, by omega⟩, fun _ _ => (by omega)⟩⟩)
    · refine sv_go C.1 C.2.1 [(.iconst 1, 1)] (pc' := 11) (by decide +kernel) rfl (lv' := [(0, sv_i v)]) (st' := [sv_i 1]) rfl ?_
      refine sv_goto C.1 C.2.1 (off := 4) (tgt := 15) (by decide +kernel) (by decide) ?_
      exact sv_zret C hr (by omega) (by decide +kernel) hok (⟨rfl, ⟨_, rfl, ⟨by omega, by omega⟩, fun _ _ => (by omega)⟩⟩)

set_option maxHeartbeats 4000000 in
set_option maxRecDepth 100000 in
theorem sf_X9_isBeginning (l : Launch) (g : sv_G) (A : Nat → Prop) (ty : Nat → Nat) (σ : Nat → Nat → Int) (hok : sv_ok ty σ) (hTA : ∀ q, ty q ≠ 0 → A q) (hI : sv_inv sp_1 ty σ) (v : Int) (h_v : (-2147483648) ≤ v ∧ v ≤ 2147483647) : sv_M l yX9_isBeginning cX9_isBeginning 1 (some .boolean) { frames := 0, cells := 0, slots := 0, locals := 0 } g A ty σ [sv_i v] (fun r σ' => σ = σ' ∧ ∃ rv : Int, r = [sv_i rv] ∧ (0 ≤ rv ∧ rv ≤ 1) ∧ (1 ≤ rv → rv ≤ 1 → 0 ≤ v ∧ v ≤ 1440)) := by
  refine sv_enter (by decide) (Nat.le_of_ble_eq_true rfl) ?_
  intro p e s m args below meth c C hr
  have C : sv_C g A RX9 cX9_isBeginning 1 p s m args meth c := C
  have hr : meth.sig.returnType = (some .boolean) := hr
  have hF : sv_ofx [] [] ty σ σ := sv_ofx.rf
  refine sv_same (st2 := []) (lv2 := [(0, sv_i v)]) rfl rfl ?_
  refine sv_go C.1 C.2.1 [(.iload_n 0, 1)] (pc' := 1) (by decide +kernel) rfl (lv' := [(0, sv_i v)]) (st' := [sv_i v]) rfl ?_
  refine sv_if C.1 C.2.1 (cnd := .lt) (off := 14) (tgt := 15) (by decide +kernel) (by decide) ⟨by omega, by omega⟩ (fun (h1 : v < 0) => ?_) (fun (h1 : ¬ (v < 0)) => ?_)
  · refine sv_go C.1 C.2.1 [(.iconst 0, 1)] (pc' := 16) (by decide +kernel) rfl (lv' := [(0, sv_i v)]) (st' := [sv_i 0]) rfl ?_
    exact sv_zret C hr (by omega) (by decide +kernel) hok (⟨rfl, ⟨_, rfl, ⟨by omega, by omega⟩, fun _ _ => (by omega)⟩⟩)
  · refine sv_go C.1 C.2.1 [(.iload_n 0, 1), (.sipush 1440, 3)] (pc' := 8) (by decide +kernel) rfl (lv' := [(0, sv_i v)]) (st' := [sv_i 1440, sv_i v]) rfl ?_
    refine sv_icmp C.1 C.2.1 (cnd := .gt) (off := 7) (tgt := 15) (by decide +kernel) (by decide) ⟨by omega, by omega⟩ ⟨by omega, by omega⟩ (fun (h2 : 1440 < v) => ?_) (fun (h2 : ¬ (1440 < v)) => ?_)
    · refine sv_go C.1 C.2.1 [(.iconst 0, 1)] (pc' := 16) (by decide +kernel) rfl (lv' := [(0, sv_i v)]) (st' := [sv_i 0]) rfl ?_
      exact sv_zret C hr (by omega) (by decide +kernel) hok (⟨rfl, ⟨_, rfl, ⟨by omega, by omega⟩, fun _ _ => (by omega)⟩⟩)
    · refine sv_go C.1 C.2.1 [(.iconst 1, 1)] (pc' := 12) (by decide +kernel) rfl (lv' := [(0, sv_i v)]) (st' := [sv_i 1]) rfl ?_
      refine sv_goto C.1 C.2.1 (off := 4) (tgt := 16) (by decide +kernel) (by decide) ?_
      exact sv_zret C hr (by omega) (by decide +kernel) hok (⟨rfl, ⟨_, rfl, ⟨by omega, by omega⟩, fun _ _ => (by omega)⟩⟩)

set_option maxHeartbeats 4000000 in
set_option maxRecDepth 100000 in
theorem sf_X6_isBlank (l : Launch) (g : sv_G) (A : Nat → Prop) (ty : Nat → Nat) (σ : Nat → Nat → Int) (hok : sv_ok ty σ) (hTA : ∀ q, ty q ≠ 0 → A q) (hI : sv_inv sp_1 ty σ) (v : Int) (h_v : (-2147483648) ≤ v ∧ v ≤ 2147483647) : sv_M l yX6_isBlank cX6_isBlank 1 (some .boolean) { frames := 0, cells := 0, slots := 0, locals := 0 } g A ty σ [sv_i v] (fun r σ' => σ = σ' ∧ ∃ rv : Int, r = [sv_i rv] ∧ (0 ≤ rv ∧ rv ≤ 1) ∧ (1 ≤ rv → rv ≤ 1 → 10 ≤ v ∧ v ≤ 32)) := by
  refine sv_enter (by decide) (Nat.le_of_ble_eq_true rfl) ?_
  intro p e s m args below meth c C hr
  have C : sv_C g A RX6 cX6_isBlank 1 p s m args meth c := C
  have hr : meth.sig.returnType = (some .boolean) := hr
  have hF : sv_ofx [] [] ty σ σ := sv_ofx.rf
  refine sv_same (st2 := []) (lv2 := [(0, sv_i v)]) rfl rfl ?_
  refine sv_go C.1 C.2.1 [(.iload_n 0, 1), (.bipush 32, 2)] (pc' := 3) (by decide +kernel) rfl (lv' := [(0, sv_i v)]) (st' := [sv_i 32, sv_i v]) rfl ?_
  refine sv_icmp C.1 C.2.1 (cnd := .eq) (off := 9) (tgt := 12) (by decide +kernel) (by decide) ⟨by omega, by omega⟩ ⟨by omega, by omega⟩ (fun (h1 : v = 32) => ?_) (fun (h1 : ¬ (v = 32)) => ?_)
  · refine sv_go C.1 C.2.1 [(.iconst 1, 1)] (pc' := 13) (by decide +kernel) rfl (lv' := [(0, sv_i v)]) (st' := [sv_i 1]) rfl ?_
    refine sv_goto C.1 C.2.1 (off := 4) (tgt := 17) (by decide +kernel) (by decide) ?_
    exact sv_zret C hr (by omega) (by decide +kernel) hok (⟨rfl, ⟨_, rfl, ⟨by omega, by omega⟩, fun _ _ => (by omega)⟩⟩)
  · refine sv_go C.1 C.2.1 [(.iload_n 0, 1), (.bipush 10, 2)] (pc' := 9) (by decide +kernel) rfl (lv' := [(0, sv_i v)]) (st' := [sv_i 10, sv_i v]) rfl ?_
    refine sv_icmp C.1 C.2.1 (cnd := .ne) (off := 7) (tgt := 16) (by decide +kernel) (by decide) ⟨by omega, by omega⟩ ⟨by omega, by omega⟩ (fun (h2 : v ≠ 10) => ?_) (fun (h2 : ¬ (v ≠ 10)) => ?_)
    · refine sv_go C.1 C.2.1 [(.iconst 0, 1)] (pc' := 17) (by decide +kernel) rfl (lv' := [(0, sv_i v)]) (st' := [sv_i 0]) rfl ?_
      exact sv_zret C hr (by omega) (by decide +kernel) hok (⟨rfl, ⟨_, rfl, ⟨by omega, by omega⟩, fun _ _ => (by omega)⟩⟩)
    · refine sv_go C.1 C.2.1 [(.iconst 1, 1)] (pc' := 13) (by decide +kernel) rfl (lv' := [(0, sv_i v)]) (st' := [sv_i 1]) rfl ?_
      refine sv_goto C.1 C.2.1 (off := 4) (tgt := 17) (by decide +kernel) (by decide) ?_
      exact sv_zret C hr (by omega) (by decide +kernel) hok (⟨rfl, ⟨_, rfl, ⟨by omega, by omega⟩, fun _ _ => (by omega)⟩⟩)

set_option maxHeartbeats 4000000 in
set_option maxRecDepth 100000 in
theorem sf_X6_isLetter (l : Launch) (g : sv_G) (A : Nat → Prop) (ty : Nat → Nat) (σ : Nat → Nat → Int) (hok : sv_ok ty σ) (hTA : ∀ q, ty q ≠ 0 → A q) (hI : sv_inv sp_1 ty σ) (v : Int) (h_v : (-2147483648) ≤ v ∧ v ≤ 2147483647) : sv_M l yX6_isLetter cX6_isLetter 1 (some .boolean) { frames := 0, cells := 0, slots := 0, locals := 0 } g A ty σ [sv_i v] (fun r σ' => σ = σ' ∧ ∃ rv : Int, r = [sv_i rv] ∧ (0 ≤ rv ∧ rv ≤ 1) ∧ (1 ≤ rv → rv ≤ 1 → 97 ≤ v ∧ v ≤ 122)) := by
  refine sv_enter (by decide) (Nat.le_of_ble_eq_true rfl) ?_
  intro p e s m args below meth c C hr
  have C : sv_C g A RX6 cX6_isLetter 1 p s m args meth c := C
  have hr : meth.sig.returnType = (some .boolean) := hr
  have hF : sv_ofx [] [] ty σ σ := sv_ofx.rf
  refine sv_same (st2 := []) (lv2 := [(0, sv_i v)]) rfl rfl ?_
  refine sv_go C.1 C.2.1 [(.iload_n 0, 1), (.bipush 97, 2)] (pc' := 3) (by decide +kernel) rfl (lv' := [(0, sv_i v)]) (st' := [sv_i 97, sv_i v]) rfl ?_
  refine sv_icmp C.1 C.2.1 (cnd := .lt) (off := 13) (tgt := 16) (by decide +kernel) (by decide) ⟨by omega, by omega⟩ ⟨by omega, by omega⟩ (fun (h1 : v < 97) => ?_) (fun (h1 : ¬ (v < 97)) => ?_)
  · refine sv_go C.1 C.2.1 [(.iconst 0, 1)] (pc' := 17) (by decide +kernel) rfl (lv' := [(0, sv_i v)]) (st' := [sv_i 0]) rfl ?_
    exact sv_zret C hr (by omega) (by decide +kernel) hok (⟨rfl, ⟨_, rfl, ⟨by omega, by omega⟩, fun _ _ => (by omega)⟩⟩)
  · refine sv_go C.1 C.2.1 [(.iload_n 0, 1), (.bipush 122, 2)] (pc' := 9) (by decide +kernel) rfl (lv' := [(0, sv_i v)]) (st' := [sv_i 122, sv_i v]) rfl ?_
    refine sv_icmp C.1 C.2.1 (cnd := .gt) (off := 7) (tgt := 16) (by decide +kernel) (by decide) ⟨by omega, by omega⟩ ⟨by omega, by omega⟩ (fun (h2 : 122 < v) => ?_) (fun (h2 : ¬ (122 < v)) => ?_)
    · refine sv_go C.1 C.2.1 [(.iconst 0, 1)] (pc' := 17) (by decide +kernel) rfl (lv' := [(0, sv_i v)]) (st' := [sv_i 0]) rfl ?_
      exact sv_zret C hr (by omega) (by decide +kernel) hok (⟨rfl, ⟨_, rfl, ⟨by omega, by omega⟩, fun _ _ => (by omega)⟩⟩)
    · refine sv_go C.1 C.2.1 [(.iconst 1, 1)] (pc' := 13) (by decide +kernel) rfl (lv' := [(0, sv_i v)]) (st' := [sv_i 1]) rfl ?_
      refine sv_goto C.1 C.2.1 (off := 4) (tgt := 17) (by decide +kernel) (by decide) ?_
      exact sv_zret C hr (by omega) (by decide +kernel) hok (⟨rfl, ⟨_, rfl, ⟨by omega, by omega⟩, fun _ _ => (by omega)⟩⟩)

set_option maxHeartbeats 4000000 in
set_option maxRecDepth 100000 in
theorem sf_X6_isDigit (l : Launch) (g : sv_G) (A : Nat → Prop) (ty : Nat → Nat) (σ : Nat → Nat → Int) (hok : sv_ok ty σ) (hTA : ∀ q, ty q ≠ 0 → A q) (hI : sv_inv sp_1 ty σ) (v : Int) (h_v : (-2147483648) ≤ v ∧ v ≤ 2147483647) : sv_M l yX6_isDigit cX6_isDigit 1 (some .boolean) { frames := 0, cells := 0, slots := 0, locals := 0 } g A ty σ [sv_i v] (fun r σ' => σ = σ' ∧ ∃ rv : Int, r = [sv_i rv] ∧ (0 ≤ rv ∧ rv ≤ 1) ∧ (1 ≤ rv → rv ≤ 1 → 48 ≤ v ∧ v ≤ 57)) := by
  refine sv_enter (by decide) (Nat.le_of_ble_eq_true rfl) ?_
  intro p e s m args below meth c C hr
  have C : sv_C g A RX6 cX6_isDigit 1 p s m args meth c := C
  have hr : meth.sig.returnType = (some .boolean) := hr
  have hF : sv_ofx [] [] ty σ σ := sv_ofx.rf
  refine sv_same (st2 := []) (lv2 := [(0, sv_i v)]) rfl rfl ?_
  refine sv_go C.1 C.2.1 [(.iload_n 0, 1), (.bipush 48, 2)] (pc' := 3) (by decide +kernel) rfl (lv' := [(0, sv_i v)]) (st' := [sv_i 48, sv_i v]) rfl ?_
  refine sv_icmp C.1 C.2.1 (cnd := .lt) (off := 13) (tgt := 16) (by decide +kernel) (by decide) ⟨by omega, by omega⟩ ⟨by omega, by omega⟩ (fun (h1 : v < 48) => ?_) (fun (h1 : ¬ (v < 48)) => ?_)
  · refine sv_go C.1 C.2.1 [(.iconst 0, 1)] (pc' := 17) (by decide +kernel) rfl (lv' := [(0, sv_i v)]) (st' := [sv_i 0]) rfl ?_
    exact sv_zret C hr (by omega) (by decide +kernel) hok (⟨rfl, ⟨_, rfl, ⟨by omega, by omega⟩, fun _ _ => (by omega)⟩⟩)
  · refine sv_go C.1 C.2.1 [(.iload_n 0, 1), (.bipush 57, 2)] (pc' := 9) (by decide +kernel) rfl (lv' := [(0, sv_i v)]) (st' := [sv_i 57, sv_i v]) rfl ?_
    refine sv_icmp C.1 C.2.1 (cnd := .gt) (off := 7) (tgt := 16) (by decide +kernel) (by decide) ⟨by omega, by omega⟩ ⟨by omega, by omega⟩ (fun (h2 : 57 < v) => ?_) (fun (h2 : ¬ (57 < v)) => ?_)
    · refine sv_go C.1 C.2.1 [(.iconst 0, 1)] (pc' := 17) (by decide +kernel) rfl (lv' := [(0, sv_i v)]) (st' := [sv_i 0]) rfl ?_
      exact sv_zret C hr (by omega) (by decide +kernel) hok (⟨rfl, ⟨_, rfl, ⟨by omega, by omega⟩, fun _ _ => (by omega)⟩⟩)
    · refine sv_go C.1 C.2.1 [(.iconst 1, 1)] (pc' := 13) (by decide +kernel) rfl (lv' := [(0, sv_i v)]) (st' := [sv_i 1]) rfl ?_
      refine sv_goto C.1 C.2.1 (off := 4) (tgt := 17) (by decide +kernel) (by decide) ?_
      exact sv_zret C hr (by omega) (by decide +kernel) hok (⟨rfl, ⟨_, rfl, ⟨by omega, by omega⟩, fun _ _ => (by omega)⟩⟩)

set_option maxHeartbeats 4000000 in
set_option maxRecDepth 100000 in
theorem sf_J6_compare_7cf53 (l : Launch) (g : sv_G) (A : Nat → Prop) (ty : Nat → Nat) (σ : Nat → Nat → Int) (hok : sv_ok ty σ) (hTA : ∀ q, ty q ≠ 0 → A q) (hI : sv_inv sp_1 ty σ) (v : Int) (h_v : (-2147483648) ≤ v ∧ v ≤ 2147483647) (w : Int) (h_w : (-2147483648) ≤ w ∧ w ≤ 2147483647) : sv_M l yJ6_compare_7cf53 cJ6_compare_7cf53 2 (some .int) { frames := 0, cells := 0, slots := 0, locals := 0 } g A ty σ [sv_i v, sv_i w] (fun r σ' => σ = σ' ∧ ∃ rv : Int, r = [sv_i rv] ∧ ((-1) ≤ rv ∧ rv ≤ 1)) := by
  refine sv_enter (by decide) (Nat.le_of_ble_eq_true rfl) ?_
  intro p e s m args below meth c C hr
  have C : sv_C g A RJ6 cJ6_compare_7cf53 2 p s m args meth c := C
  have hr : meth.sig.returnType = (some .int) := hr
  have hF : sv_ofx [] [] ty σ σ := sv_ofx.rf
  refine sv_same (st2 := []) (lv2 := [(0, sv_i v), (1, sv_i w)]) rfl rfl ?_
  refine sv_go C.1 C.2.1 [(.iload_n 0, 1), (.iload_n 1, 1)] (pc' := 2) (by decide +kernel) rfl (lv' := [(0, sv_i v), (1, sv_i w)]) (st' := [sv_i w, sv_i v]) rfl ?_
  refine sv_icmp C.1 C.2.1 (cnd := .ge) (off := 7) (tgt := 9) (by decide +kernel) (by decide) ⟨by omega, by omega⟩ ⟨by omega, by omega⟩ (fun (h1 : w ≤ v) => ?_) (fun (h1 : ¬ (w ≤ v)) => ?_)
  · refine sv_go C.1 C.2.1 [(.iload_n 0, 1), (.iload_n 1, 1)] (pc' := 11) (by decide +kernel) rfl (lv' := [(0, sv_i v), (1, sv_i w)]) (st' := [sv_i w, sv_i v]) rfl ?_
    refine sv_icmp C.1 C.2.1 (cnd := .ne) (off := 7) (tgt := 18) (by decide +kernel) (by decide) ⟨by omega, by omega⟩ ⟨by omega, by omega⟩ (fun (h2 : v ≠ w) => ?_) (fun (h2 : ¬ (v ≠ w)) => ?_)
    · refine sv_go C.1 C.2.1 [(.iconst 1, 1)] (pc' := 19) (by decide +kernel) rfl (lv' := [(0, sv_i v), (1, sv_i w)]) (st' := [sv_i 1]) rfl ?_
      exact sv_iret C hr (by decide +kernel) hok (⟨rfl, ⟨_, rfl, ⟨by omega, by omega⟩⟩⟩)
    · refine sv_go C.1 C.2.1 [(.iconst 0, 1)] (pc' := 15) (by decide +kernel) rfl (lv' := [(0, sv_i v), (1, sv_i w)]) (st' := [sv_i 0]) rfl ?_
      refine sv_goto C.1 C.2.1 (off := 4) (tgt := 19) (by decide +kernel) (by decide) ?_
      exact sv_iret C hr (by decide +kernel) hok (⟨rfl, ⟨_, rfl, ⟨by omega, by omega⟩⟩⟩)
  · refine sv_go C.1 C.2.1 [(.iconst (-1), 1)] (pc' := 6) (by decide +kernel) rfl (lv' := [(0, sv_i v), (1, sv_i w)]) (st' := [sv_i ((-1))]) rfl ?_
    refine sv_goto C.1 C.2.1 (off := 13) (tgt := 19) (by decide +kernel) (by decide) ?_
    exact sv_iret C hr (by decide +kernel) hok (⟨rfl, ⟨_, rfl, ⟨by omega, by omega⟩⟩⟩)
