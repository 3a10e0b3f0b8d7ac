set_option maxHeartbeats 4000000 in
set_option maxRecDepth 100000 in
theorem ct_X11_in (l : Launch) (g : sv_G) (A : Nat → Prop) (ty : Nat → Nat) (σ : Nat → Nat → Int) (hok : sv_ok ty σ) (v : Int) (hv : sv_in64 v) (lo : Int) (hl : sv_in64 lo) (hi : Int) (hh : sv_in64 hi) : sv_M l yX11_in cX11_in 6 (some .boolean) { frames := 0, cells := 0, slots := 0, locals := 0 } g A ty σ [sv_l v, sv_l lo, sv_l hi] (fun r σ' => σ = σ' ∧ sv_bo (lo ≤ v ∧ v ≤ hi) r) := by
  refine sv_enter (by decide) (Nat.le_of_ble_eq_true rfl) ?_
  intro p e s m args below meth c C hr
  have C : sv_C g A RX11 cX11_in 6 p s m args meth c := C
  have hr : meth.sig.returnType = (some .boolean) := hr
  refine sv_same (st2 := []) (lv2 := [(0, sv_l v), (2, sv_l lo), (4, sv_l hi)]) rfl rfl ?_
  refine sv_go C.1 C.2.1 [(.lload_n 0, 1), (.lload_n 2, 1)] (pc' := 2) (by decide +kernel) rfl (lv' := [(0, sv_l v), (2, sv_l lo), (4, sv_l hi)]) (st' := [sv_l lo, sv_l v]) rfl ?_
  refine sv_lcmp C.1 C.2.1 (by decide +kernel) ⟨by omega, by omega⟩ ⟨by omega, by omega⟩ (fun z2 (h1 : sv_sg z2 v lo) => ?_)
  obtain ⟨h1z, h1l, h1e, h1g⟩ := h1
  refine sv_if C.1 C.2.1 (cnd := .lt) (off := 14) (tgt := 17) (by decide +kernel) (by decide) ⟨by omega, by omega⟩ (fun (h3 : z2 < 0) => ?_) (fun (h3 : ¬ (z2 < 0)) => ?_)
  · refine sv_go C.1 C.2.1 [(.iconst 0, 1)] (pc' := 18) (by decide +kernel) rfl (lv' := [(0, sv_l v), (2, sv_l lo), (4, sv_l hi)]) (st' := [sv_i 0]) rfl ?_
    exact sv_zret C hr (by first | exact Or.inl rfl | exact Or.inr rfl | omega) (by decide +kernel) hok (by first | exact ⟨rfl, Or.inl ⟨by omega, rfl⟩⟩ | exact ⟨rfl, Or.inr ⟨by omega, rfl⟩⟩)
  · refine sv_go C.1 C.2.1 [(.lload_n 0, 1), (.lload 4, 2)] (pc' := 9) (by decide +kernel) rfl (lv' := [(0, sv_l v), (2, sv_l lo), (4, sv_l hi)]) (st' := [sv_l hi, sv_l v]) rfl ?_
    refine sv_lcmp C.1 C.2.1 (by decide +kernel) ⟨by omega, by omega⟩ ⟨by omega, by omega⟩ (fun z5 (h4 : sv_sg z5 v hi) => ?_)
    obtain ⟨h4z, h4l, h4e, h4g⟩ := h4
    refine sv_if C.1 C.2.1 (cnd := .gt) (off := 7) (tgt := 17) (by decide +kernel) (by decide) ⟨by omega, by omega⟩ (fun (h6 : 0 < z5) => ?_) (fun (h6 : ¬ (0 < z5)) => ?_)
    · refine sv_go C.1 C.2.1 [(.iconst 0, 1)] (pc' := 18) (by decide +kernel) rfl (lv' := [(0, sv_l v), (2, sv_l lo), (4, sv_l hi)]) (st' := [sv_i 0]) rfl ?_
      exact sv_zret C hr (by first | exact Or.inl rfl | exact Or.inr rfl | omega) (by decide +kernel) hok (by first | exact ⟨rfl, Or.inl ⟨by omega, rfl⟩⟩ | exact ⟨rfl, Or.inr ⟨by omega, rfl⟩⟩)
    · refine sv_go C.1 C.2.1 [(.iconst 1, 1)] (pc' := 14) (by decide +kernel) rfl (lv' := [(0, sv_l v), (2, sv_l lo), (4, sv_l hi)]) (st' := [sv_i 1]) rfl ?_
      refine sv_goto C.1 C.2.1 (off := 4) (tgt := 18) (by decide +kernel) (by decide) ?_
      exact sv_zret C hr (by first | exact Or.inl rfl | exact Or.inr rfl | omega) (by decide +kernel) hok (by first | exact ⟨rfl, Or.inl ⟨by omega, rfl⟩⟩ | exact ⟨rfl, Or.inr ⟨by omega, rfl⟩⟩)

set_option maxHeartbeats 4000000 in
set_option maxRecDepth 100000 in
theorem ct_X11_isLeap (l : Launch) (g : sv_G) (A : Nat → Prop) (ty : Nat → Nat) (σ : Nat → Nat → Int) (hok : sv_ok ty σ) (y : Int) (hy : 0 ≤ y ∧ y ≤ 2000) : sv_M l yX11_isLeap cX11_isLeap 1 (some .boolean) { frames := 0, cells := 0, slots := 0, locals := 0 } g A ty σ [sv_i y] (fun r σ' => σ = σ' ∧ sv_bo (y % 4 = 0) r) := by
  refine sv_enter (by decide) (Nat.le_of_ble_eq_true rfl) ?_
  intro p e s m args below meth c C hr
  have C : sv_C g A RX11 cX11_isLeap 1 p s m args meth c := C
  have hr : meth.sig.returnType = (some .boolean) := hr
  refine sv_same (st2 := []) (lv2 := [(0, sv_i y)]) rfl rfl ?_
  refine sv_go C.1 C.2.1 [(.iload_n 0, 1), (.iconst 4, 1)] (pc' := 2) (by decide +kernel) rfl (lv' := [(0, sv_i y)]) (st' := [sv_i 4, sv_i y]) rfl ?_
  refine sv_iremP C.1 C.2.1 (by decide +kernel) ⟨by omega, by omega⟩ ⟨by omega, by omega⟩ ?_
  refine sv_if C.1 C.2.1 (cnd := .ne) (off := 7) (tgt := 10) (by decide +kernel) (by decide) ⟨by omega, by omega⟩ (fun (h1 : (y % 4) ≠ 0) => ?_) (fun (h1 : ¬ ((y % 4) ≠ 0)) => ?_)
  · refine sv_go C.1 C.2.1 [(.iconst 0, 1)] (pc' := 11) (by decide +kernel) rfl (lv' := [(0, sv_i y)]) (st' := [sv_i 0]) rfl ?_
    exact sv_zret C hr (by first | exact Or.inl rfl | exact Or.inr rfl | omega) (by decide +kernel) hok (by first | exact ⟨rfl, Or.inl ⟨by omega, rfl⟩⟩ | exact ⟨rfl, Or.inr ⟨by omega, rfl⟩⟩)
  · refine sv_go C.1 C.2.1 [(.iconst 1, 1)] (pc' := 7) (by decide +kernel) rfl (lv' := [(0, sv_i y)]) (st' := [sv_i 1]) rfl ?_
    refine sv_goto C.1 C.2.1 (off := 4) (tgt := 11) (by decide +kernel) (by decide) ?_
    exact sv_zret C hr (by first | exact Or.inl rfl | exact Or.inr rfl | omega) (by decide +kernel) hok (by first | exact ⟨rfl, Or.inl ⟨by omega, rfl⟩⟩ | exact ⟨rfl, Or.inr ⟨by omega, rfl⟩⟩)

theorem ml_X11_3 : Cond.methodLink RX11 3 yX11_isLeap ∈ lw_good := sv_mem 1019 (by decide +kernel) rfl
theorem co_X11_isLeap : Cond.code yX11_isLeap cX11_isLeap 1 (some .boolean) ∈ lw_good := sv_mem 1021 (by decide +kernel) rfl
theorem in_X11 : Cond.initialized RX11 ∈ lw_good := sv_mem 82 (by decide +kernel) rfl
theorem st_X11_isLeap : Cond.static yX11_isLeap ∈ lw_good := sv_mem 1020 (by decide +kernel) rfl
set_option maxHeartbeats 4000000 in
set_option maxRecDepth 100000 in
theorem ct_X11_daysOf (l : Launch) (g : sv_G) (A : Nat → Prop) (ty : Nat → Nat) (σ : Nat → Nat → Int) (hok : sv_ok ty σ) (y : Int) (hy : 0 ≤ y ∧ y ≤ 2000) : sv_M l yX11_daysOf cX11_daysOf 1 (some .int) { frames := 1, cells := 0, slots := 0, locals := 20 } g A ty σ [sv_i y] (fun r σ' => σ = σ' ∧ r = [sv_i (365 + dy_lp y)]) := by
  refine sv_enter (by decide) (Nat.le_of_ble_eq_true rfl) ?_
  intro p e s m args below meth c C hr
  have C : sv_C g A RX11 cX11_daysOf 1 p s m args meth c := C
  have hr : meth.sig.returnType = (some .int) := hr
  refine sv_same (st2 := []) (lv2 := [(0, sv_i y)]) rfl rfl ?_
  refine sv_go C.1 C.2.1 [(.iload_n 0, 1)] (pc' := 1) (by decide +kernel) rfl (lv' := [(0, sv_i y)]) (st' := [sv_i y]) rfl ?_
  refine sv_cs C (index := 3) (k := 1) (rest := []) (by decide +kernel) (ct_X11_isLeap l g A ty σ hok (y) ⟨by omega, by omega⟩) ⟨co_X11_isLeap, in_X11, ⟨by decide, by decide, by decide +kernel⟩, Nat.le_of_ble_eq_true rfl, Nat.le_of_ble_eq_true rfl⟩ ml_X11_3 st_X11_isLeap rfl rfl (Nat.le_of_ble_eq_true rfl) ⟨Nat.zero_le _, Nat.zero_le _⟩ (fun r2 σ3 hpo1 hok4 => ?_)
  obtain ⟨rfl, ⟨h5, rfl⟩ | ⟨h5, rfl⟩⟩ := hpo1
  · refine sv_same (st2 := [sv_i 1]) (lv2 := [(0, sv_i y)]) rfl rfl ?_
    refine sv_if_f C.1 C.2.1 (cnd := .eq) (off := 9) (tgt := 13) (by decide +kernel) (by decide) ⟨by omega, by omega⟩ (show ¬ (1 = 0) by omega) ?_
    refine sv_go C.1 C.2.1 [(.sipush 366, 3)] (pc' := 10) (by decide +kernel) rfl (lv' := [(0, sv_i y)]) (st' := [sv_i 366]) rfl ?_
    refine sv_goto C.1 C.2.1 (off := 6) (tgt := 16) (by decide +kernel) (by decide) ?_
    exact sv_iret C hr (by decide +kernel) hok4 (⟨rfl, by first | (rw [dy_lp1 (by omega)]; rfl) | (rw [dy_lp0 (by omega)]; rfl)⟩)
  · refine sv_same (st2 := [sv_i 0]) (lv2 := [(0, sv_i y)]) rfl rfl ?_
    refine sv_if_t C.1 C.2.1 (cnd := .eq) (off := 9) (tgt := 13) (by decide +kernel) (by decide) ⟨by omega, by omega⟩ (show 0 = 0 by omega) ?_
    refine sv_go C.1 C.2.1 [(.sipush 365, 3)] (pc' := 16) (by decide +kernel) rfl (lv' := [(0, sv_i y)]) (st' := [sv_i 365]) rfl ?_
    exact sv_iret C hr (by decide +kernel) hok4 (⟨rfl, by first | (rw [dy_lp1 (by omega)]; rfl) | (rw [dy_lp0 (by omega)]; rfl)⟩)

set_option maxHeartbeats 4000000 in
set_option maxRecDepth 100000 in
theorem ct_X11_monthDays (l : Launch) (g : sv_G) (A : Nat → Prop) (ty : Nat → Nat) (σ : Nat → Nat → Int) (hok : sv_ok ty σ) (y : Int) (hy : 0 ≤ y ∧ y ≤ 2000) (mo : Int) (hm : sv_in mo) : sv_M l yX11_monthDays cX11_monthDays 2 (some .int) { frames := 1, cells := 0, slots := 0, locals := 20 } g A ty σ [sv_i y, sv_i mo] (fun r σ' => σ = σ' ∧ r = [sv_i (dy_md y mo)]) := by
  refine sv_enter (by decide) (Nat.le_of_ble_eq_true rfl) ?_
  intro p e s m args below meth c C hr
  have C : sv_C g A RX11 cX11_monthDays 2 p s m args meth c := C
  have hr : meth.sig.returnType = (some .int) := hr
  refine sv_same (st2 := []) (lv2 := [(0, sv_i y), (1, sv_i mo)]) rfl rfl ?_
  refine sv_go C.1 C.2.1 [(.iload_n 1, 1), (.iconst 2, 1)] (pc' := 2) (by decide +kernel) rfl (lv' := [(0, sv_i y), (1, sv_i mo)]) (st' := [sv_i 2, sv_i mo]) rfl ?_
  refine sv_icmp C.1 C.2.1 (cnd := .ne) (off := 18) (tgt := 20) (by decide +kernel) (by decide) ⟨by omega, by omega⟩ ⟨by omega, by omega⟩ (fun (h1 : mo ≠ 2) => ?_) (fun (h1 : ¬ (mo ≠ 2)) => ?_)
  · refine sv_go C.1 C.2.1 [(.iload_n 1, 1), (.iconst 4, 1)] (pc' := 22) (by decide +kernel) rfl (lv' := [(0, sv_i y), (1, sv_i mo)]) (st' := [sv_i 4, sv_i mo]) rfl ?_
    refine sv_icmp C.1 C.2.1 (cnd := .eq) (off := 21) (tgt := 43) (by decide +kernel) (by decide) ⟨by omega, by omega⟩ ⟨by omega, by omega⟩ (fun (h2 : mo = 4) => ?_) (fun (h2 : ¬ (mo = 4)) => ?_)
    · refine sv_go C.1 C.2.1 [(.bipush 30, 2)] (pc' := 45) (by decide +kernel) rfl (lv' := [(0, sv_i y), (1, sv_i mo)]) (st' := [sv_i 30]) rfl ?_
      refine sv_goto C.1 C.2.1 (off := 5) (tgt := 50) (by decide +kernel) (by decide) ?_
      exact sv_iret C hr (by decide +kernel) hok (⟨rfl, congrArg (fun q => [sv_i q]) (by unfold dy_md; first | (rw [if_pos (by omega), dy_lp1 (by omega)]; rfl) | (rw [if_pos (by omega), dy_lp0 (by omega)]; rfl) | (rw [if_neg (by omega), if_pos (by omega)]) | (rw [if_neg (by omega), if_neg (by omega)]))⟩)
    · refine sv_go C.1 C.2.1 [(.iload_n 1, 1), (.bipush 6, 2)] (pc' := 28) (by decide +kernel) rfl (lv' := [(0, sv_i y), (1, sv_i mo)]) (st' := [sv_i 6, sv_i mo]) rfl ?_
      refine sv_icmp C.1 C.2.1 (cnd := .eq) (off := 15) (tgt := 43) (by decide +kernel) (by decide) ⟨by omega, by omega⟩ ⟨by omega, by omega⟩ (fun (h3 : mo = 6) => ?_) (fun (h3 : ¬ (mo = 6)) => ?_)
      · refine sv_go C.1 C.2.1 [(.bipush 30, 2)] (pc' := 45) (by decide +kernel) rfl (lv' := [(0, sv_i y), (1, sv_i mo)]) (st' := [sv_i 30]) rfl ?_
        refine sv_goto C.1 C.2.1 (off := 5) (tgt := 50) (by decide +kernel) (by decide) ?_
        exact sv_iret C hr (by decide +kernel) hok (⟨rfl, congrArg (fun q => [sv_i q]) (by unfold dy_md; first | (rw [if_pos (by omega), dy_lp1 (by omega)]; rfl) | (rw [if_pos (by omega), dy_lp0 (by omega)]; rfl) | (rw [if_neg (by omega), if_pos (by omega)]) | (rw [if_neg (by omega), if_neg (by omega)]))⟩)
      · refine sv_go C.1 C.2.1 [(.iload_n 1, 1), (.bipush 9, 2)] (pc' := 34) (by decide +kernel) rfl (lv' := [(0, sv_i y), (1, sv_i mo)]) (st' := [sv_i 9, sv_i mo]) rfl ?_
        refine sv_icmp C.1 C.2.1 (cnd := .eq) (off := 9) (tgt := 43) (by decide +kernel) (by decide) ⟨by omega, by omega⟩ ⟨by omega, by omega⟩ (fun (h4 : mo = 9) => ?_) (fun (h4 : ¬ (mo = 9)) => ?_)
        · refine sv_go C.1 C.2.1 [(.bipush 30, 2)] (pc' := 45) (by decide +kernel) rfl (lv' := [(0, sv_i y), (1, sv_i mo)]) (st' := [sv_i 30]) rfl ?_
          refine sv_goto C.1 C.2.1 (off := 5) (tgt := 50) (by decide +kernel) (by decide) ?_
          exact sv_iret C hr (by decide +kernel) hok (⟨rfl, congrArg (fun q => [sv_i q]) (by unfold dy_md; first | (rw [if_pos (by omega), dy_lp1 (by omega)]; rfl) | (rw [if_pos (by omega), dy_lp0 (by omega)]; rfl) | (rw [if_neg (by omega), if_pos (by omega)]) | (rw [if_neg (by omega), if_neg (by omega)]))⟩)
        · refine sv_go C.1 C.2.1 [(.iload_n 1, 1), (.bipush 11, 2)] (pc' := 40) (by decide +kernel) rfl (lv' := [(0, sv_i y), (1, sv_i mo)]) (st' := [sv_i 11, sv_i mo]) rfl ?_
          refine sv_icmp C.1 C.2.1 (cnd := .ne) (off := 8) (tgt := 48) (by decide +kernel) (by decide) ⟨by omega, by omega⟩ ⟨by omega, by omega⟩ (fun (h5 : mo ≠ 11) => ?_) (fun (h5 : ¬ (mo ≠ 11)) => ?_)
          · refine sv_go C.1 C.2.1 [(.bipush 31, 2)] (pc' := 50) (by decide +kernel) rfl (lv' := [(0, sv_i y), (1, sv_i mo)]) (st' := [sv_i 31]) rfl ?_
            exact sv_iret C hr (by decide +kernel) hok (⟨rfl, congrArg (fun q => [sv_i q]) (by unfold dy_md; first | (rw [if_pos (by omega), dy_lp1 (by omega)]; rfl) | (rw [if_pos (by omega), dy_lp0 (by omega)]; rfl) | (rw [if_neg (by omega), if_pos (by omega)]) | (rw [if_neg (by omega), if_neg (by omega)]))⟩)
          · refine sv_go C.1 C.2.1 [(.bipush 30, 2)] (pc' := 45) (by decide +kernel) rfl (lv' := [(0, sv_i y), (1, sv_i mo)]) (st' := [sv_i 30]) rfl ?_
            refine sv_goto C.1 C.2.1 (off := 5) (tgt := 50) (by decide +kernel) (by decide) ?_
            exact sv_iret C hr (by decide +kernel) hok (⟨rfl, congrArg (fun q => [sv_i q]) (by unfold dy_md; first | (rw [if_pos (by omega), dy_lp1 (by omega)]; rfl) | (rw [if_pos (by omega), dy_lp0 (by omega)]; rfl) | (rw [if_neg (by omega), if_pos (by omega)]) | (rw [if_neg (by omega), if_neg (by omega)]))⟩)
  · refine sv_go C.1 C.2.1 [(.iload_n 0, 1)] (pc' := 6) (by decide +kernel) rfl (lv' := [(0, sv_i y), (1, sv_i mo)]) (st' := [sv_i y]) rfl ?_
    refine sv_cs C (index := 3) (k := 1) (rest := []) (by decide +kernel) (ct_X11_isLeap l g A ty σ hok (y) ⟨by omega, by omega⟩) ⟨co_X11_isLeap, in_X11, ⟨by decide, by decide, by decide +kernel⟩, Nat.le_of_ble_eq_true rfl, Nat.le_of_ble_eq_true rfl⟩ ml_X11_3 st_X11_isLeap rfl rfl (Nat.le_of_ble_eq_true rfl) ⟨Nat.zero_le _, Nat.zero_le _⟩ (fun r7 σ8 hpo6 hok9 => ?_)
    obtain ⟨rfl, ⟨h10, rfl⟩ | ⟨h10, rfl⟩⟩ := hpo6
    · refine sv_same (st2 := [sv_i 1]) (lv2 := [(0, sv_i y), (1, sv_i mo)]) rfl rfl ?_
      refine sv_if_f C.1 C.2.1 (cnd := .eq) (off := 8) (tgt := 17) (by decide +kernel) (by decide) ⟨by omega, by omega⟩ (show ¬ (1 = 0) by omega) ?_
      refine sv_go C.1 C.2.1 [(.bipush 29, 2)] (pc' := 14) (by decide +kernel) rfl (lv' := [(0, sv_i y), (1, sv_i mo)]) (st' := [sv_i 29]) rfl ?_
      refine sv_goto C.1 C.2.1 (off := 5) (tgt := 19) (by decide +kernel) (by decide) ?_
      exact sv_iret C hr (by decide +kernel) hok9 (⟨rfl, congrArg (fun q => [sv_i q]) (by unfold dy_md; first | (rw [if_pos (by omega), dy_lp1 (by omega)]; rfl) | (rw [if_pos (by omega), dy_lp0 (by omega)]; rfl) | (rw [if_neg (by omega), if_pos (by omega)]) | (rw [if_neg (by omega), if_neg (by omega)]))⟩)
    · refine sv_same (st2 := [sv_i 0]) (lv2 := [(0, sv_i y), (1, sv_i mo)]) rfl rfl ?_
      refine sv_if_t C.1 C.2.1 (cnd := .eq) (off := 8) (tgt := 17) (by decide +kernel) (by decide) ⟨by omega, by omega⟩ (show 0 = 0 by omega) ?_
      refine sv_go C.1 C.2.1 [(.bipush 28, 2)] (pc' := 19) (by decide +kernel) rfl (lv' := [(0, sv_i y), (1, sv_i mo)]) (st' := [sv_i 28]) rfl ?_
      exact sv_iret C hr (by decide +kernel) hok9 (⟨rfl, congrArg (fun q => [sv_i q]) (by unfold dy_md; first | (rw [if_pos (by omega), dy_lp1 (by omega)]; rfl) | (rw [if_pos (by omega), dy_lp0 (by omega)]; rfl) | (rw [if_neg (by omega), if_pos (by omega)]) | (rw [if_neg (by omega), if_neg (by omega)]))⟩)

theorem cl_X11_7 : Cond.constantLong RX11 7 (2000) ∈ lw_good := sv_mem 1006 (by decide +kernel) rfl
theorem ml_X11_9 : Cond.methodLink RX11 9 yX11_in ∈ lw_good := sv_mem 1007 (by decide +kernel) rfl
theorem co_X11_in : Cond.code yX11_in cX11_in 6 (some .boolean) ∈ lw_good := sv_mem 1009 (by decide +kernel) rfl
theorem st_X11_in : Cond.static yX11_in ∈ lw_good := sv_mem 1008 (by decide +kernel) rfl
set_option maxHeartbeats 4000000 in
set_option maxRecDepth 100000 in
theorem ct_X11_isYear (l : Launch) (g : sv_G) (A : Nat → Prop) (ty : Nat → Nat) (σ : Nat → Nat → Int) (hok : sv_ok ty σ) (y : Int) (hy : sv_in y) : sv_M l yX11_isYear cX11_isYear 1 (some .boolean) { frames := 1, cells := 0, slots := 0, locals := 25 } g A ty σ [sv_i y] (fun r σ' => σ = σ' ∧ sv_bo (1 ≤ y ∧ y ≤ 2000) r) := by
  refine sv_enter (by decide) (Nat.le_of_ble_eq_true rfl) ?_
  intro p e s m args below meth c C hr
  have C : sv_C g A RX11 cX11_isYear 1 p s m args meth c := C
  have hr : meth.sig.returnType = (some .boolean) := hr
  refine sv_same (st2 := []) (lv2 := [(0, sv_i y)]) rfl rfl ?_
  refine sv_go C.1 C.2.1 [(.iload_n 0, 1)] (pc' := 1) (by decide +kernel) rfl (lv' := [(0, sv_i y)]) (st' := [sv_i y]) rfl ?_
  refine sv_i2l C.1 C.2.1 (by decide +kernel) ⟨by omega, by omega⟩ ?_
  refine sv_go C.1 C.2.1 [(.lconst 1, 1)] (pc' := 3) (by decide +kernel) rfl (lv' := [(0, sv_i y)]) (st' := [sv_l 1, sv_l y]) rfl ?_
  refine sv_ldc2 C (index := 7) (z := 2000) (by decide +kernel) cl_X11_7 (by decide) ?_
  refine sv_cs C (index := 9) (k := 3) (rest := []) (by decide +kernel) (ct_X11_in l g A ty σ hok (y) ⟨by omega, by omega⟩ (1) ⟨by omega, by omega⟩ (2000) ⟨by omega, by omega⟩) ⟨co_X11_in, in_X11, ⟨by decide, by decide, by decide +kernel⟩, Nat.le_of_ble_eq_true rfl, Nat.le_of_ble_eq_true rfl⟩ ml_X11_9 st_X11_in rfl rfl (Nat.le_of_ble_eq_true rfl) ⟨Nat.zero_le _, Nat.zero_le _⟩ (fun r2 σ3 hpo1 hok4 => ?_)
  obtain ⟨rfl, ⟨h5, rfl⟩ | ⟨h5, rfl⟩⟩ := hpo1
  · refine sv_same (st2 := [sv_i 1]) (lv2 := [(0, sv_i y)]) rfl rfl ?_
    exact sv_zret C hr (by first | exact Or.inl rfl | exact Or.inr rfl | omega) (by decide +kernel) hok4 (by first | exact ⟨rfl, Or.inl ⟨by omega, rfl⟩⟩ | exact ⟨rfl, Or.inr ⟨by omega, rfl⟩⟩)
  · refine sv_same (st2 := [sv_i 0]) (lv2 := [(0, sv_i y)]) rfl rfl ?_
    exact sv_zret C hr (by first | exact Or.inl rfl | exact Or.inr rfl | omega) (by decide +kernel) hok4 (by first | exact ⟨rfl, Or.inl ⟨by omega, rfl⟩⟩ | exact ⟨rfl, Or.inr ⟨by omega, rfl⟩⟩)

theorem ml_X11_13 : Cond.methodLink RX11 13 yX11_isYear ∈ lw_good := sv_mem 1003 (by decide +kernel) rfl
theorem co_X11_isYear : Cond.code yX11_isYear cX11_isYear 1 (some .boolean) ∈ lw_good := sv_mem 1005 (by decide +kernel) rfl
theorem st_X11_isYear : Cond.static yX11_isYear ∈ lw_good := sv_mem 1004 (by decide +kernel) rfl
theorem ml_X11_16 : Cond.methodLink RX11 16 yX11_daysOf ∈ lw_good := sv_mem 1035 (by decide +kernel) rfl
theorem co_X11_daysOf : Cond.code yX11_daysOf cX11_daysOf 1 (some .int) ∈ lw_good := sv_mem 1037 (by decide +kernel) rfl
theorem st_X11_daysOf : Cond.static yX11_daysOf ∈ lw_good := sv_mem 1036 (by decide +kernel) rfl
set_option maxHeartbeats 4000000 in
set_option maxRecDepth 100000 in
theorem ct_X11_isDay (l : Launch) (g : sv_G) (A : Nat → Prop) (ty : Nat → Nat) (σ : Nat → Nat → Int) (hok : sv_ok ty σ) (y : Int) (hy : sv_in y) (d : Int) (hd : sv_in d) : sv_M l yX11_isDay cX11_isDay 2 (some .boolean) { frames := 2, cells := 0, slots := 0, locals := 45 } g A ty σ [sv_i y, sv_i d] (fun r σ' => σ = σ' ∧ sv_bo ((1 ≤ y ∧ y ≤ 2000) ∧ 0 ≤ d ∧ d < 365 + dy_lp y) r) := by
  refine sv_enter (by decide) (Nat.le_of_ble_eq_true rfl) ?_
  intro p e s m args below meth c C hr
  have C : sv_C g A RX11 cX11_isDay 2 p s m args meth c := C
  have hr : meth.sig.returnType = (some .boolean) := hr
  refine sv_same (st2 := []) (lv2 := [(0, sv_i y), (1, sv_i d)]) rfl rfl ?_
  refine sv_go C.1 C.2.1 [(.iload_n 0, 1)] (pc' := 1) (by decide +kernel) rfl (lv' := [(0, sv_i y), (1, sv_i d)]) (st' := [sv_i y]) rfl ?_
  refine sv_cs C (index := 13) (k := 1) (rest := []) (by decide +kernel) (ct_X11_isYear l g A ty σ hok (y) ⟨by omega, by omega⟩) ⟨co_X11_isYear, in_X11, ⟨by decide, by decide, by decide +kernel⟩, Nat.le_of_ble_eq_true rfl, Nat.le_of_ble_eq_true rfl⟩ ml_X11_13 st_X11_isYear rfl rfl (Nat.le_of_ble_eq_true rfl) ⟨Nat.zero_le _, Nat.zero_le _⟩ (fun r2 σ3 hpo1 hok4 => ?_)
  obtain ⟨rfl, ⟨h5, rfl⟩ | ⟨h5, rfl⟩⟩ := hpo1
  · refine sv_same (st2 := [sv_i 1]) (lv2 := [(0, sv_i y), (1, sv_i d)]) rfl rfl ?_
    refine sv_if_f C.1 C.2.1 (cnd := .eq) (off := 23) (tgt := 27) (by decide +kernel) (by decide) ⟨by omega, by omega⟩ (show ¬ (1 = 0) by omega) ?_
    refine sv_go C.1 C.2.1 [(.iload_n 1, 1)] (pc' := 8) (by decide +kernel) rfl (lv' := [(0, sv_i y), (1, sv_i d)]) (st' := [sv_i d]) rfl ?_
    refine sv_i2l C.1 C.2.1 (by decide +kernel) ⟨by omega, by omega⟩ ?_
    refine sv_go C.1 C.2.1 [(.lconst 0, 1), (.iload_n 0, 1)] (pc' := 11) (by decide +kernel) rfl (lv' := [(0, sv_i y), (1, sv_i d)]) (st' := [sv_i y, sv_l 0, sv_l d]) rfl ?_
    refine sv_cs C (index := 16) (k := 1) (rest := [sv_l 0, sv_l d]) (by decide +kernel) (ct_X11_daysOf l g A ty σ hok4 (y) ⟨by omega, by omega⟩) ⟨co_X11_daysOf, in_X11, ⟨by decide, by decide, by decide +kernel⟩, Nat.le_of_ble_eq_true rfl, Nat.le_of_ble_eq_true rfl⟩ ml_X11_16 st_X11_daysOf rfl rfl (Nat.le_of_ble_eq_true rfl) ⟨Nat.zero_le _, Nat.zero_le _⟩ (fun r7 σ8 hpo6 hok9 => ?_)
    obtain ⟨rfl, rfl⟩ := hpo6
    have hn10 := dy_lp_in y
    refine sv_same (st2 := [sv_i (365 + dy_lp y), sv_l 0, sv_l d]) (lv2 := [(0, sv_i y), (1, sv_i d)]) rfl rfl ?_
    refine sv_i2l C.1 C.2.1 (by decide +kernel) ⟨by omega, by omega⟩ ?_
    refine sv_go C.1 C.2.1 [(.lconst 1, 1), (.lsub, 1)] (pc' := 17) (by decide +kernel) rfl (lv' := [(0, sv_i y), (1, sv_i d)]) (st' := [sv_l ((365 + dy_lp y) - 1), sv_l 0, sv_l d]) rfl ?_
    refine sv_cs C (index := 9) (k := 3) (rest := []) (by decide +kernel) (ct_X11_in l g A ty σ hok9 (d) ⟨by omega, by omega⟩ (0) ⟨by omega, by omega⟩ ((365 + dy_lp y) - 1) ⟨by omega, by omega⟩) ⟨co_X11_in, in_X11, ⟨by decide, by decide, by decide +kernel⟩, Nat.le_of_ble_eq_true rfl, Nat.le_of_ble_eq_true rfl⟩ ml_X11_9 st_X11_in rfl rfl (Nat.le_of_ble_eq_true rfl) ⟨Nat.zero_le _, Nat.zero_le _⟩ (fun r12 σ13 hpo11 hok14 => ?_)
    obtain ⟨rfl, ⟨h15, rfl⟩ | ⟨h15, rfl⟩⟩ := hpo11
    · refine sv_same (st2 := [sv_i 1]) (lv2 := [(0, sv_i y), (1, sv_i d)]) rfl rfl ?_
      refine sv_if_f C.1 C.2.1 (cnd := .eq) (off := 7) (tgt := 27) (by decide +kernel) (by decide) ⟨by omega, by omega⟩ (show ¬ (1 = 0) by omega) ?_
      refine sv_go C.1 C.2.1 [(.iconst 1, 1)] (pc' := 24) (by decide +kernel) rfl (lv' := [(0, sv_i y), (1, sv_i d)]) (st' := [sv_i 1]) rfl ?_
      refine sv_goto C.1 C.2.1 (off := 4) (tgt := 28) (by decide +kernel) (by decide) ?_
      exact sv_zret C hr (by first | exact Or.inl rfl | exact Or.inr rfl | omega) (by decide +kernel) hok14 (by first | exact ⟨rfl, Or.inl ⟨by omega, rfl⟩⟩ | exact ⟨rfl, Or.inr ⟨by omega, rfl⟩⟩)
    · refine sv_same (st2 := [sv_i 0]) (lv2 := [(0, sv_i y), (1, sv_i d)]) rfl rfl ?_
      refine sv_if_t C.1 C.2.1 (cnd := .eq) (off := 7) (tgt := 27) (by decide +kernel) (by decide) ⟨by omega, by omega⟩ (show 0 = 0 by omega) ?_
      refine sv_go C.1 C.2.1 [(.iconst 0, 1)] (pc' := 28) (by decide +kernel) rfl (lv' := [(0, sv_i y), (1, sv_i d)]) (st' := [sv_i 0]) rfl ?_
      exact sv_zret C hr (by first | exact Or.inl rfl | exact Or.inr rfl | omega) (by decide +kernel) hok14 (by first | exact ⟨rfl, Or.inl ⟨by omega, rfl⟩⟩ | exact ⟨rfl, Or.inr ⟨by omega, rfl⟩⟩)
  · refine sv_same (st2 := [sv_i 0]) (lv2 := [(0, sv_i y), (1, sv_i d)]) rfl rfl ?_
    refine sv_if_t C.1 C.2.1 (cnd := .eq) (off := 23) (tgt := 27) (by decide +kernel) (by decide) ⟨by omega, by omega⟩ (show 0 = 0 by omega) ?_
    refine sv_go C.1 C.2.1 [(.iconst 0, 1)] (pc' := 28) (by decide +kernel) rfl (lv' := [(0, sv_i y), (1, sv_i d)]) (st' := [sv_i 0]) rfl ?_
    exact sv_zret C hr (by first | exact Or.inl rfl | exact Or.inr rfl | omega) (by decide +kernel) hok4 (by first | exact ⟨rfl, Or.inl ⟨by omega, rfl⟩⟩ | exact ⟨rfl, Or.inr ⟨by omega, rfl⟩⟩)

set_option maxHeartbeats 4000000 in
set_option maxRecDepth 100000 in
theorem ct_X11_dayCount (l : Launch) (g : sv_G) (A : Nat → Prop) (ty : Nat → Nat) (σ : Nat → Nat → Int) (hok : sv_ok ty σ) (y : Int) (hy : 1 ≤ y ∧ y ≤ 2000) (d : Int) (hd : 0 ≤ d ∧ d ≤ 3000) : sv_M l yX11_dayCount cX11_dayCount 2 (some .int) { frames := 0, cells := 0, slots := 0, locals := 0 } g A ty σ [sv_i y, sv_i d] (fun r σ' => σ = σ' ∧ r = [sv_i (365 * (y - 1) + (y - 1) / 4 + d)]) := by
  refine sv_enter (by decide) (Nat.le_of_ble_eq_true rfl) ?_
  intro p e s m args below meth c C hr
  have C : sv_C g A RX11 cX11_dayCount 2 p s m args meth c := C
  have hr : meth.sig.returnType = (some .int) := hr
  refine sv_same (st2 := []) (lv2 := [(0, sv_i y), (1, sv_i d)]) rfl rfl ?_
  refine sv_go C.1 C.2.1 [(.sipush 365, 3), (.iload_n 0, 1), (.iconst 1, 1), (.isub, 1), (.imul, 1), (.iload_n 0, 1), (.iconst 1, 1), (.isub, 1), (.iconst 4, 1)] (pc' := 11) (by decide +kernel) rfl (lv' := [(0, sv_i y), (1, sv_i d)]) (st' := [sv_i 4, sv_i (y - 1), sv_i (365 * (y - 1))]) rfl ?_
  refine sv_idivP C.1 C.2.1 (by decide +kernel) ⟨by omega, by omega⟩ ⟨by omega, by omega⟩ ?_
  refine sv_go C.1 C.2.1 [(.iadd, 1), (.iload_n 1, 1), (.iadd, 1)] (pc' := 15) (by decide +kernel) rfl (lv' := [(0, sv_i y), (1, sv_i d)]) (st' := [sv_i (((365 * (y - 1)) + ((y - 1) / 4)) + d)]) rfl ?_
  exact sv_iret C hr (by decide +kernel) hok (⟨rfl, rfl⟩)

theorem ml_X11_20 : Cond.methodLink RX11 20 yX11_dayCount ∈ lw_good := sv_mem 1025 (by decide +kernel) rfl
theorem co_X11_dayCount : Cond.code yX11_dayCount cX11_dayCount 2 (some .int) ∈ lw_good := sv_mem 1027 (by decide +kernel) rfl
theorem st_X11_dayCount : Cond.static yX11_dayCount ∈ lw_good := sv_mem 1026 (by decide +kernel) rfl
set_option maxHeartbeats 4000000 in
set_option maxRecDepth 100000 in
theorem ct_X11_weekday (l : Launch) (g : sv_G) (A : Nat → Prop) (ty : Nat → Nat) (σ : Nat → Nat → Int) (hok : sv_ok ty σ) (y : Int) (hy : 1 ≤ y ∧ y ≤ 2000) (d : Int) (hd : 0 ≤ d ∧ d ≤ 3000) : sv_M l yX11_weekday cX11_weekday 2 (some .int) { frames := 1, cells := 0, slots := 0, locals := 21 } g A ty σ [sv_i y, sv_i d] (fun r σ' => σ = σ' ∧ r = [sv_i (dy_wd y d)]) := by
  refine sv_enter (by decide) (Nat.le_of_ble_eq_true rfl) ?_
  intro p e s m args below meth c C hr
  have C : sv_C g A RX11 cX11_weekday 2 p s m args meth c := C
  have hr : meth.sig.returnType = (some .int) := hr
  refine sv_same (st2 := []) (lv2 := [(0, sv_i y), (1, sv_i d)]) rfl rfl ?_
  refine sv_go C.1 C.2.1 [(.bipush 6, 2), (.iload_n 0, 1), (.iload_n 1, 1)] (pc' := 4) (by decide +kernel) rfl (lv' := [(0, sv_i y), (1, sv_i d)]) (st' := [sv_i d, sv_i y, sv_i 6]) rfl ?_
  refine sv_cs C (index := 20) (k := 2) (rest := [sv_i 6]) (by decide +kernel) (ct_X11_dayCount l g A ty σ hok (y) ⟨by omega, by omega⟩ (d) ⟨by omega, by omega⟩) ⟨co_X11_dayCount, in_X11, ⟨by decide, by decide, by decide +kernel⟩, Nat.le_of_ble_eq_true rfl, Nat.le_of_ble_eq_true rfl⟩ ml_X11_20 st_X11_dayCount rfl rfl (Nat.le_of_ble_eq_true rfl) ⟨Nat.zero_le _, Nat.zero_le _⟩ (fun r2 σ3 hpo1 hok4 => ?_)
  obtain ⟨rfl, rfl⟩ := hpo1
  refine sv_same (st2 := [sv_i (365 * (y - 1) + (y - 1) / 4 + d), sv_i 6]) (lv2 := [(0, sv_i y), (1, sv_i d)]) rfl rfl ?_
  refine sv_go C.1 C.2.1 [(.iadd, 1), (.bipush 7, 2)] (pc' := 10) (by decide +kernel) rfl (lv' := [(0, sv_i y), (1, sv_i d)]) (st' := [sv_i 7, sv_i (6 + (365 * (y - 1) + (y - 1) / 4 + d))]) rfl ?_
  refine sv_iremP C.1 C.2.1 (by decide +kernel) ⟨by omega, by omega⟩ ⟨by omega, by omega⟩ ?_
  exact sv_iret C hr (by decide +kernel) hok4 (⟨rfl, congrArg (fun q => [sv_i q]) (by unfold dy_wd; omega)⟩)

theorem ml_X11_24 : Cond.methodLink RX11 24 yX11_monthDays ∈ lw_good := sv_mem 1016 (by decide +kernel) rfl
theorem co_X11_monthDays : Cond.code yX11_monthDays cX11_monthDays 2 (some .int) ∈ lw_good := sv_mem 1018 (by decide +kernel) rfl
theorem st_X11_monthDays : Cond.static yX11_monthDays ∈ lw_good := sv_mem 1017 (by decide +kernel) rfl
set_option maxHeartbeats 4000000 in
set_option maxRecDepth 100000 in
theorem ct_X11_dayOf (l : Launch) (g : sv_G) (A : Nat → Prop) (ty : Nat → Nat) (σ : Nat → Nat → Int) (hok : sv_ok ty σ) (y : Int) (hy : 1 ≤ y ∧ y ≤ 2000) (mo : Int) (hm : 1 ≤ mo ∧ mo ≤ 12) (d : Int) (hd : 1 ≤ d ∧ d ≤ 31) : sv_M l yX11_dayOf cX11_dayOf 5 (some .int) { frames := 2, cells := 0, slots := 0, locals := 41 } g A ty σ [sv_i y, sv_i mo, sv_i d] (fun r σ' => σ = σ' ∧ r = [sv_i (dy_ms y mo + d - 1)]) := by
  refine sv_enter (by decide) (Nat.le_of_ble_eq_true rfl) ?_
  intro p e s m args below meth c C hr
  have C : sv_C g A RX11 cX11_dayOf 5 p s m args meth c := C
  have hr : meth.sig.returnType = (some .int) := hr
  refine sv_same (st2 := []) (lv2 := [(0, sv_i y), (1, sv_i mo), (2, sv_i d)]) rfl rfl ?_
  refine sv_go C.1 C.2.1 [(.iload_n 2, 1), (.iconst 1, 1), (.isub, 1), (.istore_n 3, 1), (.iconst 1, 1), (.istore 4, 2)] (pc' := 7) (by decide +kernel) rfl (lv' := [(0, sv_i y), (1, sv_i mo), (2, sv_i d), (3, sv_i (d - 1)), (4, sv_i 1)]) (st' := []) rfl ?_
  have L1 : ∀ (n : Nat) (N : Int) (M : Int) , (1 ≤ M ∧ M ≤ mo) → (N = dy_ms y M + d - 1) → (mo - M) < (n : Int) → sv_E p l e { frames := 2, cells := 0, slots := 0, locals := 41 } s m args below meth c 5 g A ty (fun r σ' => σ = σ' ∧ r = [sv_i (dy_ms y mo + d - 1)]) σ 7 [(0, sv_i y), (1, sv_i mo), (2, sv_i d), (3, sv_i N), (4, sv_i M)] [] := by
    intro n
    induction n with
    | zero => intro N M  hM hN hmu; exact absurd hmu (by omega)
    | succ n ih2 =>
      intro N M  hM hN hmu
      refine sv_go C.1 C.2.1 [(.iload 4, 2), (.iload_n 1, 1)] (pc' := 10) (by decide +kernel) rfl (lv' := [(0, sv_i y), (1, sv_i mo), (2, sv_i d), (3, sv_i N), (4, sv_i M)]) (st' := [sv_i mo, sv_i M]) rfl ?_
      refine sv_icmp C.1 C.2.1 (cnd := .ge) (off := 18) (tgt := 28) (by decide +kernel) (by decide) ⟨by omega, by omega⟩ ⟨by omega, by omega⟩ (fun (h3 : mo ≤ M) => ?_) (fun (h3 : ¬ (mo ≤ M)) => ?_)
      · refine sv_go C.1 C.2.1 [(.iload_n 3, 1)] (pc' := 29) (by decide +kernel) rfl (lv' := [(0, sv_i y), (1, sv_i mo), (2, sv_i d), (3, sv_i N), (4, sv_i M)]) (st' := [sv_i N]) rfl ?_
        exact sv_iret C hr (by decide +kernel) hok (⟨rfl, congrArg (fun q => [sv_i q]) (by rw [hN, show M = mo by omega])⟩)
      · refine sv_go C.1 C.2.1 [(.iload_n 3, 1), (.iload_n 0, 1), (.iload 4, 2)] (pc' := 17) (by decide +kernel) rfl (lv' := [(0, sv_i y), (1, sv_i mo), (2, sv_i d), (3, sv_i N), (4, sv_i M)]) (st' := [sv_i M, sv_i y, sv_i N]) rfl ?_
        refine sv_cs C (index := 24) (k := 2) (rest := [sv_i N]) (by decide +kernel) (ct_X11_monthDays l g A ty σ hok (y) ⟨by omega, by omega⟩ (M) ⟨by omega, by omega⟩) ⟨co_X11_monthDays, in_X11, ⟨by decide, by decide, by decide +kernel⟩, Nat.le_of_ble_eq_true rfl, Nat.le_of_ble_eq_true rfl⟩ ml_X11_24 st_X11_monthDays rfl rfl (Nat.le_of_ble_eq_true rfl) ⟨Nat.zero_le _, Nat.zero_le _⟩ (fun r5 σ6 hpo4 hok7 => ?_)
        obtain ⟨rfl, rfl⟩ := hpo4
        have hn8 := dy_md_in y M
        refine sv_same (st2 := [sv_i (dy_md y M), sv_i N]) (lv2 := [(0, sv_i y), (1, sv_i mo), (2, sv_i d), (3, sv_i N), (4, sv_i M)]) rfl rfl ?_
        refine sv_go C.1 C.2.1 [(.iadd, 1), (.istore_n 3, 1), (.iinc 4 1, 3)] (pc' := 25) (by decide +kernel) rfl (lv' := [(0, sv_i y), (1, sv_i mo), (2, sv_i d), (3, sv_i (N + (dy_md y M))), (4, sv_i (M + 1))]) (st' := []) rfl ?_
        refine sv_goto C.1 C.2.1 (off := (-18)) (tgt := 7) (by decide +kernel) (by decide) ?_
        exact ih2 (N + (dy_md y M)) (M + 1)  (by omega) (by rw [dy_ms_s (by omega) (by omega)]; omega) (by omega)
  exact L1 (((mo - 1 : Int)).toNat + 1) (d - 1) 1  (by omega) (by rw [dy_ms1]; omega) (by omega)

theorem ml_X11_27 : Cond.methodLink RX11 27 yX11_dayOf ∈ lw_good := sv_mem 1013 (by decide +kernel) rfl
theorem co_X11_dayOf : Cond.code yX11_dayOf cX11_dayOf 5 (some .int) ∈ lw_good := sv_mem 1015 (by decide +kernel) rfl
theorem st_X11_dayOf : Cond.static yX11_dayOf ∈ lw_good := sv_mem 1014 (by decide +kernel) rfl
theorem ml_X11_31 : Cond.methodLink RX11 31 yX11_weekday ∈ lw_good := sv_mem 1022 (by decide +kernel) rfl
theorem co_X11_weekday : Cond.code yX11_weekday cX11_weekday 2 (some .int) ∈ lw_good := sv_mem 1024 (by decide +kernel) rfl
theorem st_X11_weekday : Cond.static yX11_weekday ∈ lw_good := sv_mem 1023 (by decide +kernel) rfl
set_option maxHeartbeats 4000000 in
set_option maxRecDepth 100000 in
theorem ct_X11_easterOf (l : Launch) (g : sv_G) (A : Nat → Prop) (ty : Nat → Nat) (σ : Nat → Nat → Int) (hok : sv_ok ty σ) (y : Int) (hy : 1 ≤ y ∧ y ≤ 2000) : sv_M l yX11_easterOf cX11_easterOf 2 (some .int) { frames := 3, cells := 0, slots := 0, locals := 65 } g A ty σ [sv_i y] (fun r σ' => σ = σ' ∧ r = [sv_i (dy_ea y)]) := by
  refine sv_enter (by decide) (Nat.le_of_ble_eq_true rfl) ?_
  intro p e s m args below meth c C hr
  have C : sv_C g A RX11 cX11_easterOf 2 p s m args meth c := C
  have hr : meth.sig.returnType = (some .int) := hr
  have hlp := dy_lp_in y
  have e3 := dy_ms3 y
  obtain ⟨D, hD⟩ : ∃ D : Int, D = dy_ms y 3 + 20 + (19 * (y % 19) + 15) % 30 := ⟨_, rfl⟩
  have hw := dy_wd_in y D
  have hea : dy_ea y = D + 7 - dy_wd y D := by unfold dy_ea; rw [← hD]
  refine sv_same (st2 := []) (lv2 := [(0, sv_i y)]) rfl rfl ?_
  refine sv_go C.1 C.2.1 [(.iload_n 0, 1), (.iconst 3, 1), (.bipush 21, 2)] (pc' := 4) (by decide +kernel) rfl (lv' := [(0, sv_i y)]) (st' := [sv_i 21, sv_i 3, sv_i y]) rfl ?_
  refine sv_cs C (index := 27) (k := 3) (rest := []) (by decide +kernel) (ct_X11_dayOf l g A ty σ hok (y) ⟨by omega, by omega⟩ (3) ⟨by omega, by omega⟩ (21) ⟨by omega, by omega⟩) ⟨co_X11_dayOf, in_X11, ⟨by decide, by decide, by decide +kernel⟩, Nat.le_of_ble_eq_true rfl, Nat.le_of_ble_eq_true rfl⟩ ml_X11_27 st_X11_dayOf rfl rfl (Nat.le_of_ble_eq_true rfl) ⟨Nat.zero_le _, Nat.zero_le _⟩ (fun r2 σ3 hpo1 hok4 => ?_)
  obtain ⟨rfl, rfl⟩ := hpo1
  have hn5 := dy_ms_in y 3
  refine sv_same (st2 := [sv_i (dy_ms y 3 + 21 - 1)]) (lv2 := [(0, sv_i y)]) rfl rfl ?_
  refine sv_go C.1 C.2.1 [(.bipush 19, 2), (.iload_n 0, 1), (.bipush 19, 2)] (pc' := 12) (by decide +kernel) rfl (lv' := [(0, sv_i y)]) (st' := [sv_i 19, sv_i y, sv_i 19, sv_i (dy_ms y 3 + 21 - 1)]) rfl ?_
  refine sv_iremP C.1 C.2.1 (by decide +kernel) ⟨by omega, by omega⟩ ⟨by omega, by omega⟩ ?_
  refine sv_go C.1 C.2.1 [(.imul, 1), (.bipush 15, 2), (.iadd, 1), (.bipush 30, 2)] (pc' := 19) (by decide +kernel) rfl (lv' := [(0, sv_i y)]) (st' := [sv_i 30, sv_i ((19 * (y % 19)) + 15), sv_i (dy_ms y 3 + 21 - 1)]) rfl ?_
  refine sv_iremP C.1 C.2.1 (by decide +kernel) ⟨by omega, by omega⟩ ⟨by omega, by omega⟩ ?_
  refine sv_go C.1 C.2.1 [(.iadd, 1), (.istore_n 1, 1)] (pc' := 22) (by decide +kernel) rfl (lv' := [(0, sv_i y), (1, sv_i ((dy_ms y 3 + 21 - 1) + (((19 * (y % 19)) + 15) % 30)))]) (st' := []) rfl ?_
  have L6 : ∀ (n : Nat) (X : Int) , (D ≤ X ∧ X < D + 7 - dy_wd y D) → (D + 8 - X) < (n : Int) → sv_E p l e { frames := 3, cells := 0, slots := 0, locals := 65 } s m args below meth c 2 g A ty (fun r σ' => σ = σ' ∧ r = [sv_i (dy_ea y)]) σ 22 [(0, sv_i y), (1, sv_i X)] [] := by
    intro n
    induction n with
    | zero => intro X  hX hmu; exact absurd hmu (by omega)
    | succ n ih7 =>
      intro X  hX hmu
      refine sv_go C.1 C.2.1 [(.iinc 1 1, 3)] (pc' := 25) (by decide +kernel) rfl (lv' := [(0, sv_i y), (1, sv_i (X + 1))]) (st' := []) rfl ?_
      have hsh := dy_wd_sh y D (X + 1 - D)
      rw [show D + (X + 1 - D) = X + 1 by omega] at hsh
      refine sv_go C.1 C.2.1 [(.iload_n 0, 1), (.iload_n 1, 1)] (pc' := 27) (by decide +kernel) rfl (lv' := [(0, sv_i y), (1, sv_i (X + 1))]) (st' := [sv_i (X + 1), sv_i y]) rfl ?_
      refine sv_cs C (index := 31) (k := 2) (rest := []) (by decide +kernel) (ct_X11_weekday l g A ty σ hok4 (y) ⟨by omega, by omega⟩ (X + 1) ⟨by omega, by omega⟩) ⟨co_X11_weekday, in_X11, ⟨by decide, by decide, by decide +kernel⟩, Nat.le_of_ble_eq_true rfl, Nat.le_of_ble_eq_true rfl⟩ ml_X11_31 st_X11_weekday rfl rfl (Nat.le_of_ble_eq_true rfl) ⟨Nat.zero_le _, Nat.zero_le _⟩ (fun r9 σ10 hpo8 hok11 => ?_)
      obtain ⟨rfl, rfl⟩ := hpo8
      have hn12 := dy_wd_in y (X + 1)
      refine sv_same (st2 := [sv_i (dy_wd y (X + 1))]) (lv2 := [(0, sv_i y), (1, sv_i (X + 1))]) rfl rfl ?_
      refine sv_if C.1 C.2.1 (cnd := .ne) (off := -8) (tgt := 22) (by decide +kernel) (by decide) ⟨by omega, by omega⟩ (fun (h13 : (dy_wd y (X + 1)) ≠ 0) => ?_) (fun (h13 : ¬ ((dy_wd y (X + 1)) ≠ 0)) => ?_)
      · exact ih7 (X + 1)  (by omega) (by omega)
      · refine sv_go C.1 C.2.1 [(.iload_n 1, 1)] (pc' := 34) (by decide +kernel) rfl (lv' := [(0, sv_i y), (1, sv_i (X + 1))]) (st' := [sv_i (X + 1)]) rfl ?_
        exact sv_iret C hr (by decide +kernel) hok11 (⟨rfl, congrArg (fun q => [sv_i q]) (by omega)⟩)
  exact L6 (((D + 8 - ((dy_ms y 3 + 21 - 1) + (((19 * (y % 19)) + 15) % 30)) : Int)).toNat + 1) ((dy_ms y 3 + 21 - 1) + (((19 * (y % 19)) + 15) % 30))  (by omega) (by omega)
