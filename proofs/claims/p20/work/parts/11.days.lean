set_option maxHeartbeats 4000000 in
set_option maxRecDepth 100000 in
theorem ct_X2_isYear (l : Launch) (g : sv_G) (A : Nat → Prop) (ty : Nat → Nat) (σ : Nat → Nat → Int) (hok : sv_ok ty σ) (y : Int) (hy : sv_in y) : sv_M l yX2_isYear cX2_isYear 1 (some .boolean) { frames := 0, cells := 0, slots := 0, locals := 0 } g A ty σ [sv_i y] (fun r σ' => σ = σ' ∧ sv_bo (1 ≤ y ∧ y ≤ 2000) r) := by
  refine sv_enter (by decide) (Nat.le_of_ble_eq_true rfl) ?_
  intro p e s m args below meth c C hr
  have C : sv_C g A RX2 cX2_isYear 1 p s m args meth c := C
  have hr : meth.sig.returnType = (some .boolean) := hr
  refine sv_same (st2 := []) (lv2 := [(0, sv_i y)]) rfl rfl ?_
  refine sv_go C.1 C.2.1 [(.iload_n 0, 1), (.iconst 1, 1)] (pc' := 2) (by decide +kernel) rfl (lv' := [(0, sv_i y)]) (st' := [sv_i 1, sv_i y]) rfl ?_
  refine sv_icmp C.1 C.2.1 (cnd := .lt) (off := 14) (tgt := 16) (by decide +kernel) (by decide) ⟨by omega, by omega⟩ ⟨by omega, by omega⟩ (fun (h1 : y < 1) => ?_) (fun (h1 : ¬ (y < 1)) => ?_)
  · refine sv_go C.1 C.2.1 [(.iconst 0, 1)] (pc' := 17) (by decide +kernel) rfl (lv' := [(0, sv_i y)]) (st' := [sv_i 0]) rfl ?_
    exact sv_zret C hr (by first | exact Or.inl rfl | exact Or.inr rfl | omega) (by decide +kernel) hok (by first | exact ⟨rfl, Or.inl ⟨by omega, rfl⟩⟩ | exact ⟨rfl, Or.inr ⟨by omega, rfl⟩⟩)
  · refine sv_go C.1 C.2.1 [(.iload_n 0, 1), (.sipush 2000, 3)] (pc' := 9) (by decide +kernel) rfl (lv' := [(0, sv_i y)]) (st' := [sv_i 2000, sv_i y]) rfl ?_
    refine sv_icmp C.1 C.2.1 (cnd := .gt) (off := 7) (tgt := 16) (by decide +kernel) (by decide) ⟨by omega, by omega⟩ ⟨by omega, by omega⟩ (fun (h2 : 2000 < y) => ?_) (fun (h2 : ¬ (2000 < y)) => ?_)
    · refine sv_go C.1 C.2.1 [(.iconst 0, 1)] (pc' := 17) (by decide +kernel) rfl (lv' := [(0, sv_i y)]) (st' := [sv_i 0]) rfl ?_
      exact sv_zret C hr (by first | exact Or.inl rfl | exact Or.inr rfl | omega) (by decide +kernel) hok (by first | exact ⟨rfl, Or.inl ⟨by omega, rfl⟩⟩ | exact ⟨rfl, Or.inr ⟨by omega, rfl⟩⟩)
    · refine sv_go C.1 C.2.1 [(.iconst 1, 1)] (pc' := 13) (by decide +kernel) rfl (lv' := [(0, sv_i y)]) (st' := [sv_i 1]) rfl ?_
      refine sv_goto C.1 C.2.1 (off := 4) (tgt := 17) (by decide +kernel) (by decide) ?_
      exact sv_zret C hr (by first | exact Or.inl rfl | exact Or.inr rfl | omega) (by decide +kernel) hok (by first | exact ⟨rfl, Or.inl ⟨by omega, rfl⟩⟩ | exact ⟨rfl, Or.inr ⟨by omega, rfl⟩⟩)

set_option maxHeartbeats 4000000 in
set_option maxRecDepth 100000 in
theorem ct_X2_isLeap (l : Launch) (g : sv_G) (A : Nat → Prop) (ty : Nat → Nat) (σ : Nat → Nat → Int) (hok : sv_ok ty σ) (y : Int) (hy : 0 ≤ y ∧ y ≤ 2000) : sv_M l yX2_isLeap cX2_isLeap 1 (some .boolean) { frames := 0, cells := 0, slots := 0, locals := 0 } g A ty σ [sv_i y] (fun r σ' => σ = σ' ∧ sv_bo (y % 4 = 0) r) := by
  refine sv_enter (by decide) (Nat.le_of_ble_eq_true rfl) ?_
  intro p e s m args below meth c C hr
  have C : sv_C g A RX2 cX2_isLeap 1 p s m args meth c := C
  have hr : meth.sig.returnType = (some .boolean) := hr
  refine sv_same (st2 := []) (lv2 := [(0, sv_i y)]) rfl rfl ?_
  refine sv_go C.1 C.2.1 [(.iload_n 0, 1), (.iconst 4, 1)] (pc' := 2) (by decide +kernel) rfl (lv' := [(0, sv_i y)]) (st' := [sv_i 4, sv_i y]) rfl ?_
  refine sv_iremP C.1 C.2.1 (by decide +kernel) ⟨by omega, by omega⟩ ⟨by omega, by omega⟩ ?_
  refine sv_if C.1 C.2.1 (cnd := .ne) (off := 7) (tgt := 10) (by decide +kernel) (by decide) ⟨by omega, by omega⟩ (fun (h1 : (y % 4) ≠ 0) => ?_) (fun (h1 : ¬ ((y % 4) ≠ 0)) => ?_)
  · refine sv_go C.1 C.2.1 [(.iconst 0, 1)] (pc' := 11) (by decide +kernel) rfl (lv' := [(0, sv_i y)]) (st' := [sv_i 0]) rfl ?_
    exact sv_zret C hr (by first | exact Or.inl rfl | exact Or.inr rfl | omega) (by decide +kernel) hok (by first | exact ⟨rfl, Or.inl ⟨by omega, rfl⟩⟩ | exact ⟨rfl, Or.inr ⟨by omega, rfl⟩⟩)
  · refine sv_go C.1 C.2.1 [(.iconst 1, 1)] (pc' := 7) (by decide +kernel) rfl (lv' := [(0, sv_i y)]) (st' := [sv_i 1]) rfl ?_
    refine sv_goto C.1 C.2.1 (off := 4) (tgt := 11) (by decide +kernel) (by decide) ?_
    exact sv_zret C hr (by first | exact Or.inl rfl | exact Or.inr rfl | omega) (by decide +kernel) hok (by first | exact ⟨rfl, Or.inl ⟨by omega, rfl⟩⟩ | exact ⟨rfl, Or.inr ⟨by omega, rfl⟩⟩)

theorem ml_X2_19 : Cond.methodLink RX2 19 yX2_isLeap ∈ lw_good := sv_mem 658 (by decide +kernel) rfl
theorem co_X2_isLeap : Cond.code yX2_isLeap cX2_isLeap 1 (some .boolean) ∈ lw_good := sv_mem 660 (by decide +kernel) rfl
theorem in_X2 : Cond.initialized RX2 ∈ lw_good := sv_mem 90 (by decide +kernel) rfl
theorem st_X2_isLeap : Cond.static yX2_isLeap ∈ lw_good := sv_mem 659 (by decide +kernel) rfl
set_option maxHeartbeats 4000000 in
set_option maxRecDepth 100000 in
theorem ct_X2_length (l : Launch) (g : sv_G) (A : Nat → Prop) (ty : Nat → Nat) (σ : Nat → Nat → Int) (hok : sv_ok ty σ) (y : Int) (hy : 0 ≤ y ∧ y ≤ 2000) : sv_M l yX2_length cX2_length 1 (some .int) { frames := 1, cells := 0, slots := 0, locals := 20 } g A ty σ [sv_i y] (fun r σ' => σ = σ' ∧ r = [sv_i (365 + dy_lp y)]) := by
  refine sv_enter (by decide) (Nat.le_of_ble_eq_true rfl) ?_
  intro p e s m args below meth c C hr
  have C : sv_C g A RX2 cX2_length 1 p s m args meth c := C
  have hr : meth.sig.returnType = (some .int) := hr
  refine sv_same (st2 := []) (lv2 := [(0, sv_i y)]) rfl rfl ?_
  refine sv_go C.1 C.2.1 [(.iload_n 0, 1)] (pc' := 1) (by decide +kernel) rfl (lv' := [(0, sv_i y)]) (st' := [sv_i y]) rfl ?_
  refine sv_cs C (index := 19) (k := 1) (rest := []) (by decide +kernel) (ct_X2_isLeap l g A ty σ hok (y) ⟨by omega, by omega⟩) ⟨co_X2_isLeap, in_X2, ⟨by decide, by decide, by decide +kernel⟩, Nat.le_of_ble_eq_true rfl, Nat.le_of_ble_eq_true rfl⟩ ml_X2_19 st_X2_isLeap rfl rfl (Nat.le_of_ble_eq_true rfl) ⟨Nat.zero_le _, Nat.zero_le _⟩ (fun r2 σ3 hpo1 hok4 => ?_)
  obtain ⟨rfl, ⟨h5, rfl⟩ | ⟨h5, rfl⟩⟩ := hpo1
  · refine sv_same (st2 := [sv_i 1]) (lv2 := [(0, sv_i y)]) rfl rfl ?_
    refine sv_if_f C.1 C.2.1 (cnd := .eq) (off := 9) (tgt := 13) (by decide +kernel) (by decide) ⟨by omega, by omega⟩ (show ¬ (1 = 0) by omega) ?_
    refine sv_go C.1 C.2.1 [(.sipush 366, 3)] (pc' := 10) (by decide +kernel) rfl (lv' := [(0, sv_i y)]) (st' := [sv_i 366]) rfl ?_
    refine sv_goto C.1 C.2.1 (off := 6) (tgt := 16) (by decide +kernel) (by decide) ?_
    exact sv_iret C hr (by decide +kernel) hok4 (⟨rfl, by first | (rw [dy_lp1 (by omega)]; rfl) | (rw [dy_lp0 (by omega)]; rfl)⟩)
  · refine sv_same (st2 := [sv_i 0]) (lv2 := [(0, sv_i y)]) rfl rfl ?_
    refine sv_if_t C.1 C.2.1 (cnd := .eq) (off := 9) (tgt := 13) (by decide +kernel) (by decide) ⟨by omega, by omega⟩ (show 0 = 0 by omega) ?_
    refine sv_go C.1 C.2.1 [(.sipush 365, 3)] (pc' := 16) (by decide +kernel) rfl (lv' := [(0, sv_i y)]) (st' := [sv_i 365]) rfl ?_
    exact sv_iret C hr (by decide +kernel) hok4 (⟨rfl, by first | (rw [dy_lp1 (by omega)]; rfl) | (rw [dy_lp0 (by omega)]; rfl)⟩)

set_option maxHeartbeats 4000000 in
set_option maxRecDepth 100000 in
theorem ct_X2_daysAhead (l : Launch) (g : sv_G) (A : Nat → Prop) (ty : Nat → Nat) (σ : Nat → Nat → Int) (hok : sv_ok ty σ) (y : Int) (hy : 1 ≤ y ∧ y ≤ 2000) : sv_M l yX2_daysAhead cX2_daysAhead 1 (some .int) { frames := 0, cells := 0, slots := 0, locals := 0 } g A ty σ [sv_i y] (fun r σ' => σ = σ' ∧ r = [sv_i (365 * (y - 1) + (y - 1) / 4)]) := by
  refine sv_enter (by decide) (Nat.le_of_ble_eq_true rfl) ?_
  intro p e s m args below meth c C hr
  have C : sv_C g A RX2 cX2_daysAhead 1 p s m args meth c := C
  have hr : meth.sig.returnType = (some .int) := hr
  refine sv_same (st2 := []) (lv2 := [(0, sv_i y)]) rfl rfl ?_
  refine sv_go C.1 C.2.1 [(.sipush 365, 3), (.iload_n 0, 1), (.iconst 1, 1), (.isub, 1), (.imul, 1), (.iload_n 0, 1), (.iconst 1, 1), (.isub, 1), (.iconst 4, 1)] (pc' := 11) (by decide +kernel) rfl (lv' := [(0, sv_i y)]) (st' := [sv_i 4, sv_i (y - 1), sv_i (365 * (y - 1))]) rfl ?_
  refine sv_idivP C.1 C.2.1 (by decide +kernel) ⟨by omega, by omega⟩ ⟨by omega, by omega⟩ ?_
  refine sv_go C.1 C.2.1 [(.iadd, 1)] (pc' := 13) (by decide +kernel) rfl (lv' := [(0, sv_i y)]) (st' := [sv_i ((365 * (y - 1)) + ((y - 1) / 4))]) rfl ?_
  exact sv_iret C hr (by decide +kernel) hok (⟨rfl, rfl⟩)

theorem ml_X2_22 : Cond.methodLink RX2 22 yX2_daysAhead ∈ lw_good := sv_mem 664 (by decide +kernel) rfl
theorem co_X2_daysAhead : Cond.code yX2_daysAhead cX2_daysAhead 1 (some .int) ∈ lw_good := sv_mem 666 (by decide +kernel) rfl
theorem st_X2_daysAhead : Cond.static yX2_daysAhead ∈ lw_good := sv_mem 665 (by decide +kernel) rfl
set_option maxHeartbeats 4000000 in
set_option maxRecDepth 100000 in
theorem ct_X2_weekday (l : Launch) (g : sv_G) (A : Nat → Prop) (ty : Nat → Nat) (σ : Nat → Nat → Int) (hok : sv_ok ty σ) (y : Int) (hy : 1 ≤ y ∧ y ≤ 2000) (d : Int) (hd : 0 ≤ d ∧ d ≤ 400) : sv_M l yX2_weekday cX2_weekday 2 (some .int) { frames := 1, cells := 0, slots := 0, locals := 20 } g A ty σ [sv_i y, sv_i d] (fun r σ' => σ = σ' ∧ r = [sv_i (dy_wd y d)]) := by
  refine sv_enter (by decide) (Nat.le_of_ble_eq_true rfl) ?_
  intro p e s m args below meth c C hr
  have C : sv_C g A RX2 cX2_weekday 2 p s m args meth c := C
  have hr : meth.sig.returnType = (some .int) := hr
  refine sv_same (st2 := []) (lv2 := [(0, sv_i y), (1, sv_i d)]) rfl rfl ?_
  refine sv_go C.1 C.2.1 [(.bipush 6, 2), (.iload_n 0, 1)] (pc' := 3) (by decide +kernel) rfl (lv' := [(0, sv_i y), (1, sv_i d)]) (st' := [sv_i y, sv_i 6]) rfl ?_
  refine sv_cs C (index := 22) (k := 1) (rest := [sv_i 6]) (by decide +kernel) (ct_X2_daysAhead l g A ty σ hok (y) ⟨by omega, by omega⟩) ⟨co_X2_daysAhead, in_X2, ⟨by decide, by decide, by decide +kernel⟩, Nat.le_of_ble_eq_true rfl, Nat.le_of_ble_eq_true rfl⟩ ml_X2_22 st_X2_daysAhead rfl rfl (Nat.le_of_ble_eq_true rfl) ⟨Nat.zero_le _, Nat.zero_le _⟩ (fun r2 σ3 hpo1 hok4 => ?_)
  obtain ⟨rfl, rfl⟩ := hpo1
  refine sv_same (st2 := [sv_i (365 * (y - 1) + (y - 1) / 4), sv_i 6]) (lv2 := [(0, sv_i y), (1, sv_i d)]) rfl rfl ?_
  refine sv_go C.1 C.2.1 [(.iadd, 1), (.iload_n 1, 1), (.iadd, 1), (.bipush 7, 2)] (pc' := 11) (by decide +kernel) rfl (lv' := [(0, sv_i y), (1, sv_i d)]) (st' := [sv_i 7, sv_i ((6 + (365 * (y - 1) + (y - 1) / 4)) + d)]) rfl ?_
  refine sv_iremP C.1 C.2.1 (by decide +kernel) ⟨by omega, by omega⟩ ⟨by omega, by omega⟩ ?_
  exact sv_iret C hr (by decide +kernel) hok4 (⟨rfl, rfl⟩)

theorem ml_X2_25 : Cond.methodLink RX2 25 yX2_weekday ∈ lw_good := sv_mem 661 (by decide +kernel) rfl
theorem co_X2_weekday : Cond.code yX2_weekday cX2_weekday 2 (some .int) ∈ lw_good := sv_mem 663 (by decide +kernel) rfl
theorem st_X2_weekday : Cond.static yX2_weekday ∈ lw_good := sv_mem 662 (by decide +kernel) rfl
set_option maxHeartbeats 4000000 in
set_option maxRecDepth 100000 in
theorem ct_X2_isSunday (l : Launch) (g : sv_G) (A : Nat → Prop) (ty : Nat → Nat) (σ : Nat → Nat → Int) (hok : sv_ok ty σ) (y : Int) (hy : 1 ≤ y ∧ y ≤ 2000) (d : Int) (hd : 0 ≤ d ∧ d ≤ 400) : sv_M l yX2_isSunday cX2_isSunday 2 (some .boolean) { frames := 2, cells := 0, slots := 0, locals := 41 } g A ty σ [sv_i y, sv_i d] (fun r σ' => σ = σ' ∧ sv_bo (dy_wd y d = 0) r) := by
  refine sv_enter (by decide) (Nat.le_of_ble_eq_true rfl) ?_
  intro p e s m args below meth c C hr
  have C : sv_C g A RX2 cX2_isSunday 2 p s m args meth c := C
  have hr : meth.sig.returnType = (some .boolean) := hr
  have hw := dy_wd_in y d
  refine sv_same (st2 := []) (lv2 := [(0, sv_i y), (1, sv_i d)]) rfl rfl ?_
  refine sv_go C.1 C.2.1 [(.iload_n 0, 1), (.iload_n 1, 1)] (pc' := 2) (by decide +kernel) rfl (lv' := [(0, sv_i y), (1, sv_i d)]) (st' := [sv_i d, sv_i y]) rfl ?_
  refine sv_cs C (index := 25) (k := 2) (rest := []) (by decide +kernel) (ct_X2_weekday l g A ty σ hok (y) ⟨by omega, by omega⟩ (d) ⟨by omega, by omega⟩) ⟨co_X2_weekday, in_X2, ⟨by decide, by decide, by decide +kernel⟩, Nat.le_of_ble_eq_true rfl, Nat.le_of_ble_eq_true rfl⟩ ml_X2_25 st_X2_weekday rfl rfl (Nat.le_of_ble_eq_true rfl) ⟨Nat.zero_le _, Nat.zero_le _⟩ (fun r2 σ3 hpo1 hok4 => ?_)
  obtain ⟨rfl, rfl⟩ := hpo1
  refine sv_same (st2 := [sv_i (dy_wd y d)]) (lv2 := [(0, sv_i y), (1, sv_i d)]) rfl rfl ?_
  refine sv_if C.1 C.2.1 (cnd := .ne) (off := 7) (tgt := 12) (by decide +kernel) (by decide) ⟨by omega, by omega⟩ (fun (h5 : (dy_wd y d) ≠ 0) => ?_) (fun (h5 : ¬ ((dy_wd y d) ≠ 0)) => ?_)
  · refine sv_go C.1 C.2.1 [(.iconst 0, 1)] (pc' := 13) (by decide +kernel) rfl (lv' := [(0, sv_i y), (1, sv_i d)]) (st' := [sv_i 0]) rfl ?_
    exact sv_zret C hr (by first | exact Or.inl rfl | exact Or.inr rfl | omega) (by decide +kernel) hok4 (by first | exact ⟨rfl, Or.inl ⟨by omega, rfl⟩⟩ | exact ⟨rfl, Or.inr ⟨by omega, rfl⟩⟩)
  · refine sv_go C.1 C.2.1 [(.iconst 1, 1)] (pc' := 9) (by decide +kernel) rfl (lv' := [(0, sv_i y), (1, sv_i d)]) (st' := [sv_i 1]) rfl ?_
    refine sv_goto C.1 C.2.1 (off := 4) (tgt := 13) (by decide +kernel) (by decide) ?_
    exact sv_zret C hr (by first | exact Or.inl rfl | exact Or.inr rfl | omega) (by decide +kernel) hok4 (by first | exact ⟨rfl, Or.inl ⟨by omega, rfl⟩⟩ | exact ⟨rfl, Or.inr ⟨by omega, rfl⟩⟩)

theorem ml_X2_9 : Cond.methodLink RX2 9 yX2_isYear ∈ lw_good := sv_mem 674 (by decide +kernel) rfl
theorem co_X2_isYear : Cond.code yX2_isYear cX2_isYear 1 (some .boolean) ∈ lw_good := sv_mem 649 (by decide +kernel) rfl
theorem st_X2_isYear : Cond.static yX2_isYear ∈ lw_good := sv_mem 648 (by decide +kernel) rfl
theorem ml_X2_15 : Cond.methodLink RX2 15 yX2_length ∈ lw_good := sv_mem 675 (by decide +kernel) rfl
theorem co_X2_length : Cond.code yX2_length cX2_length 1 (some .int) ∈ lw_good := sv_mem 677 (by decide +kernel) rfl
theorem st_X2_length : Cond.static yX2_length ∈ lw_good := sv_mem 676 (by decide +kernel) rfl
set_option maxHeartbeats 4000000 in
set_option maxRecDepth 100000 in
theorem ct_X2_isDay (l : Launch) (g : sv_G) (A : Nat → Prop) (ty : Nat → Nat) (σ : Nat → Nat → Int) (hok : sv_ok ty σ) (y : Int) (hy : sv_in y) (d : Int) (hd : sv_in d) : sv_M l yX2_isDay cX2_isDay 2 (some .boolean) { frames := 2, cells := 0, slots := 0, locals := 40 } g A ty σ [sv_i y, sv_i d] (fun r σ' => σ = σ' ∧ sv_bo ((1 ≤ y ∧ y ≤ 2000) ∧ 0 ≤ d ∧ d < 365 + dy_lp y) r) := by
  refine sv_enter (by decide) (Nat.le_of_ble_eq_true rfl) ?_
  intro p e s m args below meth c C hr
  have C : sv_C g A RX2 cX2_isDay 2 p s m args meth c := C
  have hr : meth.sig.returnType = (some .boolean) := hr
  have hlp := dy_lp_in y
  refine sv_same (st2 := []) (lv2 := [(0, sv_i y), (1, sv_i d)]) rfl rfl ?_
  refine sv_go C.1 C.2.1 [(.iload_n 0, 1)] (pc' := 1) (by decide +kernel) rfl (lv' := [(0, sv_i y), (1, sv_i d)]) (st' := [sv_i y]) rfl ?_
  refine sv_cs C (index := 9) (k := 1) (rest := []) (by decide +kernel) (ct_X2_isYear l g A ty σ hok (y) ⟨by omega, by omega⟩) ⟨co_X2_isYear, in_X2, ⟨by decide, by decide, by decide +kernel⟩, Nat.le_of_ble_eq_true rfl, Nat.le_of_ble_eq_true rfl⟩ ml_X2_9 st_X2_isYear rfl rfl (Nat.le_of_ble_eq_true rfl) ⟨Nat.zero_le _, Nat.zero_le _⟩ (fun r2 σ3 hpo1 hok4 => ?_)
  obtain ⟨rfl, ⟨h5, rfl⟩ | ⟨h5, rfl⟩⟩ := hpo1
  · refine sv_same (st2 := [sv_i 1]) (lv2 := [(0, sv_i y), (1, sv_i d)]) rfl rfl ?_
    refine sv_if_f C.1 C.2.1 (cnd := .eq) (off := 19) (tgt := 23) (by decide +kernel) (by decide) ⟨by omega, by omega⟩ (show ¬ (1 = 0) by omega) ?_
    refine sv_go C.1 C.2.1 [(.iload_n 1, 1)] (pc' := 8) (by decide +kernel) rfl (lv' := [(0, sv_i y), (1, sv_i d)]) (st' := [sv_i d]) rfl ?_
    refine sv_if C.1 C.2.1 (cnd := .lt) (off := 15) (tgt := 23) (by decide +kernel) (by decide) ⟨by omega, by omega⟩ (fun (h6 : d < 0) => ?_) (fun (h6 : ¬ (d < 0)) => ?_)
    · refine sv_go C.1 C.2.1 [(.iconst 0, 1)] (pc' := 24) (by decide +kernel) rfl (lv' := [(0, sv_i y), (1, sv_i d)]) (st' := [sv_i 0]) rfl ?_
      exact sv_zret C hr (by first | exact Or.inl rfl | exact Or.inr rfl | omega) (by decide +kernel) hok4 (by first | exact ⟨rfl, Or.inl ⟨by omega, rfl⟩⟩ | exact ⟨rfl, Or.inr ⟨by omega, rfl⟩⟩)
    · refine sv_go C.1 C.2.1 [(.iload_n 1, 1), (.iload_n 0, 1)] (pc' := 13) (by decide +kernel) rfl (lv' := [(0, sv_i y), (1, sv_i d)]) (st' := [sv_i y, sv_i d]) rfl ?_
      refine sv_cs C (index := 15) (k := 1) (rest := [sv_i d]) (by decide +kernel) (ct_X2_length l g A ty σ hok4 (y) ⟨by omega, by omega⟩) ⟨co_X2_length, in_X2, ⟨by decide, by decide, by decide +kernel⟩, Nat.le_of_ble_eq_true rfl, Nat.le_of_ble_eq_true rfl⟩ ml_X2_15 st_X2_length rfl rfl (Nat.le_of_ble_eq_true rfl) ⟨Nat.zero_le _, Nat.zero_le _⟩ (fun r8 σ9 hpo7 hok10 => ?_)
      obtain ⟨rfl, rfl⟩ := hpo7
      refine sv_same (st2 := [sv_i (365 + dy_lp y), sv_i d]) (lv2 := [(0, sv_i y), (1, sv_i d)]) rfl rfl ?_
      refine sv_icmp C.1 C.2.1 (cnd := .ge) (off := 7) (tgt := 23) (by decide +kernel) (by decide) ⟨by omega, by omega⟩ ⟨by omega, by omega⟩ (fun (h11 : (365 + dy_lp y) ≤ d) => ?_) (fun (h11 : ¬ ((365 + dy_lp y) ≤ d)) => ?_)
      · refine sv_go C.1 C.2.1 [(.iconst 0, 1)] (pc' := 24) (by decide +kernel) rfl (lv' := [(0, sv_i y), (1, sv_i d)]) (st' := [sv_i 0]) rfl ?_
        exact sv_zret C hr (by first | exact Or.inl rfl | exact Or.inr rfl | omega) (by decide +kernel) hok10 (by first | exact ⟨rfl, Or.inl ⟨by omega, rfl⟩⟩ | exact ⟨rfl, Or.inr ⟨by omega, rfl⟩⟩)
      · refine sv_go C.1 C.2.1 [(.iconst 1, 1)] (pc' := 20) (by decide +kernel) rfl (lv' := [(0, sv_i y), (1, sv_i d)]) (st' := [sv_i 1]) rfl ?_
        refine sv_goto C.1 C.2.1 (off := 4) (tgt := 24) (by decide +kernel) (by decide) ?_
        exact sv_zret C hr (by first | exact Or.inl rfl | exact Or.inr rfl | omega) (by decide +kernel) hok10 (by first | exact ⟨rfl, Or.inl ⟨by omega, rfl⟩⟩ | exact ⟨rfl, Or.inr ⟨by omega, rfl⟩⟩)
  · refine sv_same (st2 := [sv_i 0]) (lv2 := [(0, sv_i y), (1, sv_i d)]) rfl rfl ?_
    refine sv_if_t C.1 C.2.1 (cnd := .eq) (off := 19) (tgt := 23) (by decide +kernel) (by decide) ⟨by omega, by omega⟩ (show 0 = 0 by omega) ?_
    refine sv_go C.1 C.2.1 [(.iconst 0, 1)] (pc' := 24) (by decide +kernel) rfl (lv' := [(0, sv_i y), (1, sv_i d)]) (st' := [sv_i 0]) rfl ?_
    exact sv_zret C hr (by first | exact Or.inl rfl | exact Or.inr rfl | omega) (by decide +kernel) hok4 (by first | exact ⟨rfl, Or.inl ⟨by omega, rfl⟩⟩ | exact ⟨rfl, Or.inr ⟨by omega, rfl⟩⟩)

theorem fl_X2_36 : Cond.fieldLink RX2 36 "SaintsRoad$Days" "MONTH_START" "[I" ∈ lw_good := sv_mem 656 (by decide +kernel) rfl
set_option maxHeartbeats 4000000 in
set_option maxRecDepth 100000 in
theorem ct_X2_monthStart (l : Launch) (g : sv_G) (A : Nat → Prop) (ty : Nat → Nat) (σ : Nat → Nat → Int) (hok : sv_ok ty σ) (y : Int) (hy : 1 ≤ y ∧ y ≤ 2000) (mo : Int) (hm : 1 ≤ mo ∧ mo ≤ 12) : sv_M l yX2_monthStart cX2_monthStart 2 (some .int) { frames := 1, cells := 0, slots := 0, locals := 20 } g A ty σ [sv_i y, sv_i mo] (fun r σ' => σ = σ' ∧ r = [sv_i (dy_ms y mo)]) := by
  refine sv_enter (by decide) (Nat.le_of_ble_eq_true rfl) ?_
  intro p e s m args below meth c C hr
  have C : sv_C g A RX2 cX2_monthStart 2 p s m args meth c := C
  have hr : meth.sig.returnType = (some .int) := hr
  refine sv_same (st2 := []) (lv2 := [(0, sv_i y), (1, sv_i mo)]) rfl rfl ?_
  refine sv_go C.1 C.2.1 [(.iload_n 1, 1), (.iconst 1, 1)] (pc' := 2) (by decide +kernel) rfl (lv' := [(0, sv_i y), (1, sv_i mo)]) (st' := [sv_i 1, sv_i mo]) rfl ?_
  refine sv_icmp_f C.1 C.2.1 (cnd := .lt) (off := 9) (tgt := 11) (by decide +kernel) (by decide) ⟨by omega, by omega⟩ ⟨by omega, by omega⟩ (show ¬ (mo < 1) by omega) ?_
  refine sv_go C.1 C.2.1 [(.iload_n 1, 1), (.bipush 12, 2)] (pc' := 8) (by decide +kernel) rfl (lv' := [(0, sv_i y), (1, sv_i mo)]) (st' := [sv_i 12, sv_i mo]) rfl ?_
  refine sv_icmp_t C.1 C.2.1 (cnd := .le) (off := 5) (tgt := 13) (by decide +kernel) (by decide) ⟨by omega, by omega⟩ ⟨by omega, by omega⟩ (show mo ≤ 12 by omega) ?_
  refine sv_gs2 C (index := 36) (by decide +kernel) fl_X2_36 ?_
  refine sv_go C.1 C.2.1 [(.iload_n 1, 1), (.iconst 1, 1), (.isub, 1)] (pc' := 19) (by decide +kernel) rfl (lv' := [(0, sv_i y), (1, sv_i mo)]) (st' := [sv_i (mo - 1), sv_r g.2.2.2.1]) rfl ?_
  refine sv_tab C (z := dy_st mo) C.2.2.2.2.2.1.2.2.2.2.1 (by decide +kernel) (by omega) (by omega) (dy_st_tab (by omega) (by omega)) ?_
  refine sv_go C.1 C.2.1 [(.iload_n 1, 1), (.iconst 2, 1)] (pc' := 22) (by decide +kernel) rfl (lv' := [(0, sv_i y), (1, sv_i mo)]) (st' := [sv_i 2, sv_i mo, sv_i (dy_st mo)]) rfl ?_
  refine sv_icmp C.1 C.2.1 (cnd := .le) (off := 14) (tgt := 36) (by decide +kernel) (by decide) ⟨by omega, by omega⟩ ⟨by omega, by omega⟩ (fun (h1 : mo ≤ 2) => ?_) (fun (h1 : ¬ (mo ≤ 2)) => ?_)
  · refine sv_go C.1 C.2.1 [(.iconst 0, 1), (.iadd, 1)] (pc' := 38) (by decide +kernel) rfl (lv' := [(0, sv_i y), (1, sv_i mo)]) (st' := [sv_i ((dy_st mo) + 0)]) rfl ?_
    exact sv_iret C hr (by decide +kernel) hok (⟨rfl, by unfold dy_ms; first | (rw [if_pos (by omega), dy_lp1 (by omega)]) | (rw [if_pos (by omega), dy_lp0 (by omega)]) | (rw [if_neg (by omega)])⟩)
  · refine sv_go C.1 C.2.1 [(.iload_n 0, 1)] (pc' := 26) (by decide +kernel) rfl (lv' := [(0, sv_i y), (1, sv_i mo)]) (st' := [sv_i y, sv_i (dy_st mo)]) rfl ?_
    refine sv_cs C (index := 19) (k := 1) (rest := [sv_i (dy_st mo)]) (by decide +kernel) (ct_X2_isLeap l g A ty σ hok (y) ⟨by omega, by omega⟩) ⟨co_X2_isLeap, in_X2, ⟨by decide, by decide, by decide +kernel⟩, Nat.le_of_ble_eq_true rfl, Nat.le_of_ble_eq_true rfl⟩ ml_X2_19 st_X2_isLeap rfl rfl (Nat.le_of_ble_eq_true rfl) ⟨Nat.zero_le _, Nat.zero_le _⟩ (fun r3 σ4 hpo2 hok5 => ?_)
    obtain ⟨rfl, ⟨h6, rfl⟩ | ⟨h6, rfl⟩⟩ := hpo2
    · refine sv_same (st2 := [sv_i 1, sv_i (dy_st mo)]) (lv2 := [(0, sv_i y), (1, sv_i mo)]) rfl rfl ?_
      refine sv_if_f C.1 C.2.1 (cnd := .eq) (off := 7) (tgt := 36) (by decide +kernel) (by decide) ⟨by omega, by omega⟩ (show ¬ (1 = 0) by omega) ?_
      refine sv_go C.1 C.2.1 [(.iconst 1, 1)] (pc' := 33) (by decide +kernel) rfl (lv' := [(0, sv_i y), (1, sv_i mo)]) (st' := [sv_i 1, sv_i (dy_st mo)]) rfl ?_
      refine sv_goto C.1 C.2.1 (off := 4) (tgt := 37) (by decide +kernel) (by decide) ?_
      refine sv_go C.1 C.2.1 [(.iadd, 1)] (pc' := 38) (by decide +kernel) rfl (lv' := [(0, sv_i y), (1, sv_i mo)]) (st' := [sv_i ((dy_st mo) + 1)]) rfl ?_
      exact sv_iret C hr (by decide +kernel) hok5 (⟨rfl, by unfold dy_ms; first | (rw [if_pos (by omega), dy_lp1 (by omega)]) | (rw [if_pos (by omega), dy_lp0 (by omega)]) | (rw [if_neg (by omega)])⟩)
    · refine sv_same (st2 := [sv_i 0, sv_i (dy_st mo)]) (lv2 := [(0, sv_i y), (1, sv_i mo)]) rfl rfl ?_
      refine sv_if_t C.1 C.2.1 (cnd := .eq) (off := 7) (tgt := 36) (by decide +kernel) (by decide) ⟨by omega, by omega⟩ (show 0 = 0 by omega) ?_
      refine sv_go C.1 C.2.1 [(.iconst 0, 1), (.iadd, 1)] (pc' := 38) (by decide +kernel) rfl (lv' := [(0, sv_i y), (1, sv_i mo)]) (st' := [sv_i ((dy_st mo) + 0)]) rfl ?_
      exact sv_iret C hr (by decide +kernel) hok5 (⟨rfl, by unfold dy_ms; first | (rw [if_pos (by omega), dy_lp1 (by omega)]) | (rw [if_pos (by omega), dy_lp0 (by omega)]) | (rw [if_neg (by omega)])⟩)

theorem ml_X2_39 : Cond.methodLink RX2 39 yX2_monthStart ∈ lw_good := sv_mem 653 (by decide +kernel) rfl
theorem co_X2_monthStart : Cond.code yX2_monthStart cX2_monthStart 2 (some .int) ∈ lw_good := sv_mem 655 (by decide +kernel) rfl
theorem st_X2_monthStart : Cond.static yX2_monthStart ∈ lw_good := sv_mem 654 (by decide +kernel) rfl
set_option maxHeartbeats 4000000 in
set_option maxRecDepth 100000 in
theorem ct_X2_easterOf (l : Launch) (g : sv_G) (A : Nat → Prop) (ty : Nat → Nat) (σ : Nat → Nat → Int) (hok : sv_ok ty σ) (y : Int) (hy : 1 ≤ y ∧ y ≤ 2000) : sv_M l yX2_easterOf cX2_easterOf 3 (some .int) { frames := 2, cells := 0, slots := 0, locals := 41 } g A ty σ [sv_i y] (fun r σ' => σ = σ' ∧ r = [sv_i (dy_ea y)]) := by
  refine sv_enter (by decide) (Nat.le_of_ble_eq_true rfl) ?_
  intro p e s m args below meth c C hr
  have C : sv_C g A RX2 cX2_easterOf 3 p s m args meth c := C
  have hr : meth.sig.returnType = (some .int) := hr
  have hlp := dy_lp_in y
  have e3 := dy_ms3 y
  have hw := dy_wd_in y (dy_ms y 3 + 20 + (19 * (y % 19) + 15) % 30)
  refine sv_same (st2 := []) (lv2 := [(0, sv_i y)]) rfl rfl ?_
  refine sv_go C.1 C.2.1 [(.bipush 19, 2), (.iload_n 0, 1), (.bipush 19, 2)] (pc' := 5) (by decide +kernel) rfl (lv' := [(0, sv_i y)]) (st' := [sv_i 19, sv_i y, sv_i 19]) rfl ?_
  refine sv_iremP C.1 C.2.1 (by decide +kernel) ⟨by omega, by omega⟩ ⟨by omega, by omega⟩ ?_
  refine sv_go C.1 C.2.1 [(.imul, 1), (.bipush 15, 2), (.iadd, 1), (.bipush 30, 2)] (pc' := 12) (by decide +kernel) rfl (lv' := [(0, sv_i y)]) (st' := [sv_i 30, sv_i ((19 * (y % 19)) + 15)]) rfl ?_
  refine sv_iremP C.1 C.2.1 (by decide +kernel) ⟨by omega, by omega⟩ ⟨by omega, by omega⟩ ?_
  refine sv_go C.1 C.2.1 [(.istore_n 1, 1), (.iload_n 0, 1), (.iconst 3, 1)] (pc' := 16) (by decide +kernel) rfl (lv' := [(0, sv_i y), (1, sv_i (((19 * (y % 19)) + 15) % 30))]) (st' := [sv_i 3, sv_i y]) rfl ?_
  refine sv_cs C (index := 39) (k := 2) (rest := []) (by decide +kernel) (ct_X2_monthStart l g A ty σ hok (y) ⟨by omega, by omega⟩ (3) ⟨by omega, by omega⟩) ⟨co_X2_monthStart, in_X2, ⟨by decide, by decide, by decide +kernel⟩, Nat.le_of_ble_eq_true rfl, Nat.le_of_ble_eq_true rfl⟩ ml_X2_39 st_X2_monthStart rfl rfl (Nat.le_of_ble_eq_true rfl) ⟨Nat.zero_le _, Nat.zero_le _⟩ (fun r2 σ3 hpo1 hok4 => ?_)
  obtain ⟨rfl, rfl⟩ := hpo1
  have hn5 := dy_ms_in y 3
  refine sv_same (st2 := [sv_i (dy_ms y 3)]) (lv2 := [(0, sv_i y), (1, sv_i (((19 * (y % 19)) + 15) % 30))]) rfl rfl ?_
  refine sv_go C.1 C.2.1 [(.bipush 20, 2), (.iadd, 1), (.iload_n 1, 1), (.iadd, 1), (.istore_n 2, 1), (.iload_n 2, 1), (.bipush 7, 2), (.iadd, 1), (.iload_n 0, 1), (.iload_n 2, 1)] (pc' := 31) (by decide +kernel) rfl (lv' := [(0, sv_i y), (1, sv_i (((19 * (y % 19)) + 15) % 30)), (2, sv_i (((dy_ms y 3) + 20) + (((19 * (y % 19)) + 15) % 30)))]) (st' := [sv_i (((dy_ms y 3) + 20) + (((19 * (y % 19)) + 15) % 30)), sv_i y, sv_i ((((dy_ms y 3) + 20) + (((19 * (y % 19)) + 15) % 30)) + 7)]) rfl ?_
  refine sv_cs C (index := 25) (k := 2) (rest := [sv_i ((((dy_ms y 3) + 20) + (((19 * (y % 19)) + 15) % 30)) + 7)]) (by decide +kernel) (ct_X2_weekday l g A ty σ hok4 (y) ⟨by omega, by omega⟩ (((dy_ms y 3) + 20) + (((19 * (y % 19)) + 15) % 30)) ⟨by omega, by omega⟩) ⟨co_X2_weekday, in_X2, ⟨by decide, by decide, by decide +kernel⟩, Nat.le_of_ble_eq_true rfl, Nat.le_of_ble_eq_true rfl⟩ ml_X2_25 st_X2_weekday rfl rfl (Nat.le_of_ble_eq_true rfl) ⟨Nat.zero_le _, Nat.zero_le _⟩ (fun r7 σ8 hpo6 hok9 => ?_)
  obtain ⟨rfl, rfl⟩ := hpo6
  refine sv_same (st2 := [sv_i (dy_wd y (((dy_ms y 3) + 20) + (((19 * (y % 19)) + 15) % 30))), sv_i ((((dy_ms y 3) + 20) + (((19 * (y % 19)) + 15) % 30)) + 7)]) (lv2 := [(0, sv_i y), (1, sv_i (((19 * (y % 19)) + 15) % 30)), (2, sv_i (((dy_ms y 3) + 20) + (((19 * (y % 19)) + 15) % 30)))]) rfl rfl ?_
  refine sv_go C.1 C.2.1 [(.isub, 1)] (pc' := 35) (by decide +kernel) rfl (lv' := [(0, sv_i y), (1, sv_i (((19 * (y % 19)) + 15) % 30)), (2, sv_i (((dy_ms y 3) + 20) + (((19 * (y % 19)) + 15) % 30)))]) (st' := [sv_i (((((dy_ms y 3) + 20) + (((19 * (y % 19)) + 15) % 30)) + 7) - (dy_wd y (((dy_ms y 3) + 20) + (((19 * (y % 19)) + 15) % 30))))]) rfl ?_
  exact sv_iret C hr (by decide +kernel) hok9 (⟨rfl, rfl⟩)

set_option maxHeartbeats 4000000 in
set_option maxRecDepth 100000 in
theorem ct_X2_monthOf (l : Launch) (g : sv_G) (A : Nat → Prop) (ty : Nat → Nat) (σ : Nat → Nat → Int) (hok : sv_ok ty σ) (y : Int) (hy : 1 ≤ y ∧ y ≤ 2000) (d : Int) (hd : 0 ≤ d ∧ d ≤ 400) : sv_M l yX2_monthOf cX2_monthOf 3 (some .int) { frames := 2, cells := 0, slots := 0, locals := 41 } g A ty σ [sv_i y, sv_i d] (fun r σ' => σ = σ' ∧ ∃ M : Int, r = [sv_i M] ∧ (1 ≤ M ∧ M ≤ 12) ∧ dy_ms y M ≤ d ∧ (M = 12 ∨ d < dy_ms y (M + 1))) := by
  refine sv_enter (by decide) (Nat.le_of_ble_eq_true rfl) ?_
  intro p e s m args below meth c C hr
  have C : sv_C g A RX2 cX2_monthOf 3 p s m args meth c := C
  have hr : meth.sig.returnType = (some .int) := hr
  refine sv_same (st2 := []) (lv2 := [(0, sv_i y), (1, sv_i d)]) rfl rfl ?_
  refine sv_go C.1 C.2.1 [(.iconst 1, 1), (.istore_n 2, 1)] (pc' := 2) (by decide +kernel) rfl (lv' := [(0, sv_i y), (1, sv_i d), (2, sv_i 1)]) (st' := []) rfl ?_
  have L1 : ∀ (n : Nat) (M : Int) , (1 ≤ M ∧ M ≤ 12) → (dy_ms y M ≤ d) → (12 - M) < (n : Int) → sv_E p l e { frames := 2, cells := 0, slots := 0, locals := 41 } s m args below meth c 3 g A ty (fun r σ' => σ = σ' ∧ ∃ M : Int, r = [sv_i M] ∧ (1 ≤ M ∧ M ≤ 12) ∧ dy_ms y M ≤ d ∧ (M = 12 ∨ d < dy_ms y (M + 1))) σ 2 [(0, sv_i y), (1, sv_i d), (2, sv_i M)] [] := by
    intro n
    induction n with
    | zero => intro M  hM hs hmu; exact absurd hmu (by omega)
    | succ n ih2 =>
      intro M  hM hs hmu
      refine sv_go C.1 C.2.1 [(.iload_n 2, 1), (.bipush 12, 2)] (pc' := 5) (by decide +kernel) rfl (lv' := [(0, sv_i y), (1, sv_i d), (2, sv_i M)]) (st' := [sv_i 12, sv_i M]) rfl ?_
      refine sv_icmp C.1 C.2.1 (cnd := .ge) (off := 20) (tgt := 25) (by decide +kernel) (by decide) ⟨by omega, by omega⟩ ⟨by omega, by omega⟩ (fun (h3 : 12 ≤ M) => ?_) (fun (h3 : ¬ (12 ≤ M)) => ?_)
      · refine sv_go C.1 C.2.1 [(.iload_n 2, 1)] (pc' := 26) (by decide +kernel) rfl (lv' := [(0, sv_i y), (1, sv_i d), (2, sv_i M)]) (st' := [sv_i M]) rfl ?_
        exact sv_iret C hr (by decide +kernel) hok (⟨rfl, _, rfl, by omega, by omega, by omega⟩)
      · refine sv_go C.1 C.2.1 [(.iload_n 1, 1), (.iload_n 0, 1), (.iload_n 2, 1), (.iconst 1, 1), (.iadd, 1)] (pc' := 13) (by decide +kernel) rfl (lv' := [(0, sv_i y), (1, sv_i d), (2, sv_i M)]) (st' := [sv_i (M + 1), sv_i y, sv_i d]) rfl ?_
        refine sv_cs C (index := 39) (k := 2) (rest := [sv_i d]) (by decide +kernel) (ct_X2_monthStart l g A ty σ hok (y) ⟨by omega, by omega⟩ (M + 1) ⟨by omega, by omega⟩) ⟨co_X2_monthStart, in_X2, ⟨by decide, by decide, by decide +kernel⟩, Nat.le_of_ble_eq_true rfl, Nat.le_of_ble_eq_true rfl⟩ ml_X2_39 st_X2_monthStart rfl rfl (Nat.le_of_ble_eq_true rfl) ⟨Nat.zero_le _, Nat.zero_le _⟩ (fun r5 σ6 hpo4 hok7 => ?_)
        obtain ⟨rfl, rfl⟩ := hpo4
        have hn8 := dy_ms_in y (M + 1)
        refine sv_same (st2 := [sv_i (dy_ms y (M + 1)), sv_i d]) (lv2 := [(0, sv_i y), (1, sv_i d), (2, sv_i M)]) rfl rfl ?_
        refine sv_icmp C.1 C.2.1 (cnd := .lt) (off := 9) (tgt := 25) (by decide +kernel) (by decide) ⟨by omega, by omega⟩ ⟨by omega, by omega⟩ (fun (h9 : d < (dy_ms y (M + 1))) => ?_) (fun (h9 : ¬ (d < (dy_ms y (M + 1)))) => ?_)
        · refine sv_go C.1 C.2.1 [(.iload_n 2, 1)] (pc' := 26) (by decide +kernel) rfl (lv' := [(0, sv_i y), (1, sv_i d), (2, sv_i M)]) (st' := [sv_i M]) rfl ?_
          exact sv_iret C hr (by decide +kernel) hok7 (⟨rfl, _, rfl, by omega, by omega, by omega⟩)
        · refine sv_go C.1 C.2.1 [(.iinc 2 1, 3)] (pc' := 22) (by decide +kernel) rfl (lv' := [(0, sv_i y), (1, sv_i d), (2, sv_i (M + 1))]) (st' := []) rfl ?_
          refine sv_goto C.1 C.2.1 (off := (-20)) (tgt := 2) (by decide +kernel) (by decide) ?_
          exact ih2 (M + 1)  (by omega) (by omega) (by omega)
  exact L1 (((12 - 1 : Int)).toNat + 1) 1  (by omega) (by rw [dy_ms1]; omega) (by omega)
