theorem fl_X4_66 : Cond.fieldLink RX4 66 "SaintsRoad$Place" "inYear" "I" ∈ lw_good := sv_mem 284 (by decide +kernel) rfl
theorem fl_X4_21 : Cond.fieldLink RX4 21 "SaintsRoad$Place" "calendar" "LSaintsRoad$Calendar;" ∈ lw_good := sv_mem 278 (by decide +kernel) rfl
theorem fl_X4_75 : Cond.fieldLink RX4 75 "SaintsRoad$Calendar" "size" "I" ∈ lw_good := sv_mem 249 (by decide +kernel) rfl
set_option maxHeartbeats 4000000 in
set_option maxRecDepth 100000 in
theorem ct_X4_sortByOwnDay (l : Launch) (g : sv_G) (A : Nat → Prop) (ty : Nat → Nat) (σ : Nat → Nat → Int) (hok : sv_ok ty σ) (hTA : ∀ q, ty q ≠ 0 → A q) (hI : sv_inv sp_1 ty σ) (a : Nat) (k_a : ty a = 4) (y : Int) (hy : 1 ≤ y ∧ y ≤ 2000) : sv_M l yX4_sortByOwnDay cX4_sortByOwnDay 3 none { frames := 0, cells := 0, slots := 0, locals := 0 } g A ty σ [sv_r a, sv_i y] (fun r σ' => r = [] ∧ σ' = sv_up σ a 7 0) := by
  refine sv_enter (by decide) (Nat.le_of_ble_eq_true rfl) ?_
  intro p e s m args below meth c C hr
  have C : sv_C g A RX4 cX4_sortByOwnDay 3 p s m args meth c := C
  have hr : meth.sig.returnType = none := hr
  have hF : sv_off [4] ty σ σ := sv_off.rf
  refine sv_same (st2 := []) (lv2 := [(0, sv_r a), (1, sv_i y)]) rfl rfl ?_
  refine sv_go C.1 C.2.1 [(.aload_n 0, 1), (.iconst 0, 1)] (pc' := 2) (by decide +kernel) rfl (lv' := [(0, sv_r a), (1, sv_i y)]) (st' := [sv_i 0, sv_r a]) rfl ?_
  refine sv_pf C (index := 66) (ci := 3) (k := 7) (r := (RX4, TX4, 11)) (z := 0) (by decide +kernel) (by rw [k_a]; rfl) rfl (by decide) rfl fl_X4_66 rfl (Or.inl rfl) ⟨by omega, by omega⟩ (hTA _ (by rw [k_a]; decide)) hok (fun hok1 => ?_)
  have hI3 := hI.up (a := a) (k := 7) (z := 0) (by rw [k_a]; exact trivial)
  have hF4 := hF.up (a := a) (k := 7) (z := 0) (by rw [k_a]; decide)
  generalize eσ2 : sv_up σ a 7 0 = σ2 at hok1 hI3 hF4 ⊢
  have t5 : σ2 a 7 = 0 := by rw [← eσ2]; exact sv_up_s _ _ _ _
  refine sv_go C.1 C.2.1 [(.iconst 0, 1), (.istore_n 2, 1), (.iload_n 2, 1), (.aload_n 0, 1)] (pc' := 9) (by decide +kernel) rfl (lv' := [(0, sv_r a), (1, sv_i y), (2, sv_i 0)]) (st' := [sv_r a, sv_i 0]) rfl ?_
  obtain ⟨q6, eq6, kq6⟩ := hI3.ref (k := 2) k_a rfl
  refine sv_gf C (index := 21) (ci := 3) (k := 2) (r := (RX4, TX4, 11)) (v := sv_r q6) (by decide +kernel) (by rw [k_a]; rfl) rfl (by decide) fl_X4_21 (congrArg sv_a eq6) ?_
  have t7 : σ2 q6 2 = 0 := by have q := hI3.num (k := 2) kq6 rfl; omega
  refine sv_gf C (index := 75) (ci := 1) (k := 2) (r := (RX1, TX1, 6)) (v := sv_i 0) (by decide +kernel) (by rw [kq6]; rfl) rfl (by decide) fl_X4_75 (congrArg sv_i t7) ?_
  refine sv_icmp_t C.1 C.2.1 (cnd := .ge) (off := 74) (tgt := 89) (by decide +kernel) (by decide) ⟨by omega, by omega⟩ ⟨by omega, by omega⟩ (show 0 ≤ 0 by omega) ?_
  exact sv_vret C hr (by decide +kernel) hok1 (⟨rfl, rfl⟩)

theorem fl_X4_37 : Cond.fieldLink RX4 37 "SaintsRoad$Place" "settledYear" "I" ∈ lw_good := sv_mem 287 (by decide +kernel) rfl
theorem ml_X4_41 : Cond.methodLink RX4 41 yX2_easterOf ∈ lw_good := sv_mem 691 (by decide +kernel) rfl
theorem fl_X4_47 : Cond.fieldLink RX4 47 "SaintsRoad$Place" "easterDay" "I" ∈ lw_good := sv_mem 285 (by decide +kernel) rfl
theorem fl_X4_15 : Cond.fieldLink RX4 15 "SaintsRoad$Place" "heldOn" "[I" ∈ lw_good := sv_mem 276 (by decide +kernel) rfl
theorem ml_X4_50 : Cond.methodLink RX4 50 yJ7_fill_53178 ∈ lw_good := sv_mem 692 (by decide +kernel) rfl
theorem co_J7_fill_53178 : Cond.code yJ7_fill_53178 cJ7_fill_53178 4 none ∈ lw_good := sv_mem 241 (by decide +kernel) rfl
theorem in_J7 : Cond.initialized RJ7 ∈ lw_good := sv_mem 78 (by decide +kernel) rfl
theorem st_J7_fill_53178 : Cond.static yJ7_fill_53178 ∈ lw_good := sv_mem 240 (by decide +kernel) rfl
theorem fl_X4_56 : Cond.fieldLink RX4 56 "SaintsRoad$Place" "waitingCount" "I" ∈ lw_good := sv_mem 286 (by decide +kernel) rfl
theorem ml_X4_59 : Cond.methodLink RX4 59 yX4_sortByOwnDay ∈ lw_good := sv_mem 693 (by decide +kernel) rfl
theorem co_X4_sortByOwnDay : Cond.code yX4_sortByOwnDay cX4_sortByOwnDay 3 none ∈ lw_good := sv_mem 696 (by decide +kernel) rfl
theorem in_X4 : Cond.initialized RX4 ∈ lw_good := sv_mem 75 (by decide +kernel) rfl
theorem im_X4_sortByOwnDay : Cond.instanceMethod yX4_sortByOwnDay ∈ lw_good := sv_mem 695 (by decide +kernel) rfl
theorem se_X4_sortByOwnDay : Cond.selects RX4 yX4_sortByOwnDay yX4_sortByOwnDay ∈ lw_good := sv_mem 20 (by decide +kernel) rfl
theorem ml_X4_63 : Cond.methodLink RX4 63 yX2_length ∈ lw_good := sv_mem 719 (by decide +kernel) rfl
set_option maxHeartbeats 4000000 in
set_option maxRecDepth 100000 in
theorem ct_X4_settle (l : Launch) (g : sv_G) (A : Nat → Prop) (ty : Nat → Nat) (σ : Nat → Nat → Int) (hok : sv_ok ty σ) (hTA : ∀ q, ty q ≠ 0 → A q) (hI : sv_inv sp_1 ty σ) (a : Nat) (k_a : ty a = 4) (y : Int) (hy : 1 ≤ y ∧ y ≤ 2000) (h0 : pl_0 ty σ a) : sv_M l yX4_settle cX4_settle 5 none { frames := 3, cells := 0, slots := 0, locals := 63 } g A ty σ [sv_r a, sv_i y] (fun r σ' => r = [] ∧ sv_inv sp_1 ty σ' ∧ sv_off [4, 25] ty σ σ' ∧ pl_st σ' a y ∧ pl_X ty σ σ' ∧ pl_Y ty σ σ' a) := by
  refine sv_enter (by decide) (Nat.le_of_ble_eq_true rfl) ?_
  intro p e s m args below meth c C hr
  have C : sv_C g A RX4 cX4_settle 5 p s m args meth c := C
  have hr : meth.sig.returnType = none := hr
  have hF : sv_off [4, 25] ty σ σ := sv_off.rf
  have hea := dy_ea_in y
  have hlp := dy_lp_in y
  have hX : pl_X ty σ σ := pl_X.rf
  have hY : pl_Y ty σ σ a := pl_Y.rf
  refine sv_same (st2 := []) (lv2 := [(0, sv_r a), (1, sv_i y)]) rfl rfl ?_
  refine sv_go C.1 C.2.1 [(.iload_n 1, 1), (.aload_n 0, 1)] (pc' := 2) (by decide +kernel) rfl (lv' := [(0, sv_r a), (1, sv_i y)]) (st' := [sv_r a, sv_i y]) rfl ?_
  have w1 := sv_ok.num hok (k := 10) (ci := 3) (r := (RX4, TX4, 11)) (by rw [k_a]; rfl) rfl (by decide)
  have w1 : sv_in (σ a 10) := w1
  refine sv_gf C (index := 37) (ci := 3) (k := 10) (r := (RX4, TX4, 11)) (v := sv_i (σ a 10)) (by decide +kernel) (by rw [k_a]; rfl) rfl (by decide) fl_X4_37 rfl ?_
  refine sv_icmp C.1 C.2.1 (cnd := .ne) (off := 4) (tgt := 9) (by decide +kernel) (by decide) ⟨by omega, by omega⟩ ⟨by omega, by omega⟩ (fun (h2 : y ≠ (σ a 10)) => ?_) (fun (h2 : ¬ (y ≠ (σ a 10))) => ?_)
  · refine sv_go C.1 C.2.1 [(.aload_n 0, 1), (.iload_n 1, 1)] (pc' := 11) (by decide +kernel) rfl (lv' := [(0, sv_r a), (1, sv_i y)]) (st' := [sv_i y, sv_r a]) rfl ?_
    refine sv_pf C (index := 37) (ci := 3) (k := 10) (r := (RX4, TX4, 11)) (z := y) (by decide +kernel) (by rw [k_a]; rfl) rfl (by decide) rfl fl_X4_37 rfl (Or.inl rfl) ⟨by omega, by omega⟩ (hTA _ (by rw [k_a]; decide)) hok (fun hok3 => ?_)
    have hI5 := hI.up (a := a) (k := 10) (z := y) (by rw [k_a]; exact trivial)
    have hF6 := hF.up (a := a) (k := 10) (z := y) (by rw [k_a]; decide)
    generalize eσ4 : sv_up σ a 10 y = σ4 at hok3 hI5 hF6 ⊢
    have t7 : σ4 a 10 = y := by rw [← eσ4]; exact sv_up_s _ _ _ _
    have hXu8 := hX.up (a := a) (k := 10) (z := y) k_a
    have hYu8 := hY.up (k := 10) (z := y)
    rw [eσ4] at hXu8 hYu8
    refine sv_go C.1 C.2.1 [(.aload_n 0, 1), (.iload_n 1, 1)] (pc' := 16) (by decide +kernel) rfl (lv' := [(0, sv_r a), (1, sv_i y)]) (st' := [sv_i y, sv_r a]) rfl ?_
    refine sv_cs C (index := 41) (k := 1) (rest := [sv_r a]) (by decide +kernel) (ct_X2_easterOf l g A ty σ4 hok3 (y) ⟨by omega, by omega⟩) ⟨co_X2_easterOf, in_X2, ⟨by decide, by decide, by decide +kernel⟩, Nat.le_of_ble_eq_true rfl, Nat.le_of_ble_eq_true rfl⟩ ml_X4_41 st_X2_easterOf rfl rfl (Nat.le_of_ble_eq_true rfl) ⟨Nat.zero_le _, Nat.zero_le _⟩ (fun r10 σ11 hpo9 hok12 => ?_)
    obtain ⟨rfl, rfl⟩ := hpo9
    refine sv_same (st2 := [sv_i (dy_ea y), sv_r a]) (lv2 := [(0, sv_r a), (1, sv_i y)]) rfl rfl ?_
    refine sv_pf C (index := 47) (ci := 3) (k := 8) (r := (RX4, TX4, 11)) (z := dy_ea y) (by decide +kernel) (by rw [k_a]; rfl) rfl (by decide) rfl fl_X4_47 rfl (Or.inl rfl) ⟨by omega, by omega⟩ (hTA _ (by rw [k_a]; decide)) hok12 (fun hok13 => ?_)
    have hI15 := hI5.up (a := a) (k := 8) (z := dy_ea y) (by rw [k_a]; exact trivial)
    have hF16 := hF6.up (a := a) (k := 8) (z := dy_ea y) (by rw [k_a]; decide)
    generalize eσ14 : sv_up σ4 a 8 (dy_ea y) = σ14 at hok13 hI15 hF16 ⊢
    have t17 : σ14 a 10 = y := by rw [← eσ14, sv_up_k (by decide)]; exact t7
    have t18 : σ14 a 8 = dy_ea y := by rw [← eσ14]; exact sv_up_s _ _ _ _
    have hXu19 := hXu8.up (a := a) (k := 8) (z := dy_ea y) k_a
    have hYu19 := hYu8.up (k := 8) (z := dy_ea y)
    rw [eσ14] at hXu19 hYu19
    refine sv_go C.1 C.2.1 [(.aload_n 0, 1)] (pc' := 23) (by decide +kernel) rfl (lv' := [(0, sv_r a), (1, sv_i y)]) (st' := [sv_r a]) rfl ?_
    obtain ⟨q20, eq20, kq20⟩ := hI15.ref (k := 1) k_a rfl
    refine sv_gf C (index := 15) (ci := 3) (k := 1) (r := (RX4, TX4, 11)) (v := sv_r q20) (by decide +kernel) (by rw [k_a]; rfl) rfl (by decide) fl_X4_15 (congrArg sv_a eq20) ?_
    refine sv_go C.1 C.2.1 [(.iconst (-1), 1)] (pc' := 27) (by decide +kernel) rfl (lv' := [(0, sv_r a), (1, sv_i y)]) (st' := [sv_i ((-1)), sv_r q20]) rfl ?_
    refine sv_cs C (index := 50) (k := 2) (rest := []) (by decide +kernel) (ct_fill l g A ty σ14 hok13 q20 366 (by rw [kq20]; rfl) (by decide) (hTA _ (by rw [kq20]; decide)) ((-1)) ⟨by omega, by omega⟩) ⟨co_J7_fill_53178, in_J7, ⟨by decide, by decide, by decide +kernel⟩, Nat.le_of_ble_eq_true rfl, Nat.le_of_ble_eq_true rfl⟩ ml_X4_50 st_J7_fill_53178 rfl rfl (Nat.le_of_ble_eq_true rfl) ⟨Nat.zero_le _, Nat.zero_le _⟩ (fun r22 σ23 hpo21 hok24 => ?_)
    obtain ⟨rfl, hOu25, hEu25, hRu25⟩ := hpo21
    have hIu25 := sv_fill_inv hI15 hOu25 kq20 (fun _ => rfl)
    have hFu25 := sv_fill_off hF16 hOu25 kq20 (by decide)
    have hXu25 := hXu19.fill hOu25 hEu25
    have hYu25 := hYu19.fill hOu25 kq20
    have t26 : σ23 a 10 = y := (hOu25 _ (sv_ne k_a kq20 (by decide)) _).trans t17
    have t27 : σ23 a 8 = dy_ea y := (hOu25 _ (sv_ne k_a kq20 (by decide)) _).trans t18
    have t28 : σ23 a 1 = (q20 : Int) + 1 := (hOu25 _ (sv_ne k_a kq20 (by decide)) _).trans eq20
    refine sv_same (st2 := []) (lv2 := [(0, sv_r a), (1, sv_i y)]) rfl rfl ?_
    refine sv_go C.1 C.2.1 [(.aload_n 0, 1), (.iconst 0, 1)] (pc' := 32) (by decide +kernel) rfl (lv' := [(0, sv_r a), (1, sv_i y)]) (st' := [sv_i 0, sv_r a]) rfl ?_
    refine sv_pf C (index := 56) (ci := 3) (k := 9) (r := (RX4, TX4, 11)) (z := 0) (by decide +kernel) (by rw [k_a]; rfl) rfl (by decide) rfl fl_X4_56 rfl (Or.inl rfl) ⟨by omega, by omega⟩ (hTA _ (by rw [k_a]; decide)) hok24 (fun hok29 => ?_)
    have hI31 := hIu25.up (a := a) (k := 9) (z := 0) (by rw [k_a]; exact trivial)
    have hF32 := hFu25.up (a := a) (k := 9) (z := 0) (by rw [k_a]; decide)
    generalize eσ30 : sv_up σ23 a 9 0 = σ30 at hok29 hI31 hF32 ⊢
    have t33 : σ30 a 10 = y := by rw [← eσ30, sv_up_k (by decide)]; exact t26
    have t34 : σ30 a 8 = dy_ea y := by rw [← eσ30, sv_up_k (by decide)]; exact t27
    have t35 : σ30 a 1 = (q20 : Int) + 1 := by rw [← eσ30, sv_up_k (by decide)]; exact t28
    have t36 : σ30 a 9 = 0 := by rw [← eσ30]; exact sv_up_s _ _ _ _
    have hXu37 := hXu25.up (a := a) (k := 9) (z := 0) k_a
    have hYu37 := hYu25.up (k := 9) (z := 0)
    rw [eσ30] at hXu37 hYu37
    have hA38 : ∀ i : Nat, i < 366 → σ30 q20 i = (-1) := fun i hi => by rw [← eσ30, sv_up_a (sv_ne kq20 k_a (by decide))]; exact hEu25 i hi
    refine sv_go C.1 C.2.1 [(.aload_n 0, 1), (.iload_n 1, 1)] (pc' := 37) (by decide +kernel) rfl (lv' := [(0, sv_r a), (1, sv_i y)]) (st' := [sv_i y, sv_r a]) rfl ?_
    refine sv_cv C (index := 59) (k := 1) (rest := []) (ci := 3) (r := (RX4, TX4, 11)) (by decide +kernel) (ct_X4_sortByOwnDay l g A ty σ30 hok29 hTA hI31 a k_a (y) ⟨by omega, by omega⟩) ⟨co_X4_sortByOwnDay, in_X4, ⟨by decide, by decide, by decide +kernel⟩, Nat.le_of_ble_eq_true rfl, Nat.le_of_ble_eq_true rfl⟩ ml_X4_59 im_X4_sortByOwnDay se_X4_sortByOwnDay (by rw [k_a]; rfl) rfl rfl rfl (Nat.le_of_ble_eq_true rfl) ⟨Nat.zero_le _, Nat.zero_le _⟩ (fun r40 σ41 hpo39 hok42 => ?_)
    obtain ⟨rfl, eu43⟩ := hpo39
    have hIu43 : sv_inv sp_1 ty σ41 := by rw [eu43]; exact hI31.up (by rw [k_a]; exact trivial)
    have hFu43 := hF32.up (a := a) (k := 7) (z := 0) (by rw [k_a]; decide)
    rw [← eu43] at hFu43
    have hXu43 := hXu37.up (a := a) (k := 7) (z := 0) k_a
    have hYu43 := hYu37.up (k := 7) (z := 0)
    rw [← eu43] at hXu43 hYu43
    have t44 : σ41 a 10 = y := by rw [eu43, sv_up_k (by decide)]; exact t33
    have t45 : σ41 a 8 = dy_ea y := by rw [eu43, sv_up_k (by decide)]; exact t34
    have t46 : σ41 a 1 = (q20 : Int) + 1 := by rw [eu43, sv_up_k (by decide)]; exact t35
    have t47 : σ41 a 9 = 0 := by rw [eu43, sv_up_k (by decide)]; exact t36
    have t48 : σ41 a 7 = 0 := by rw [eu43]; exact sv_up_s _ _ _ _
    have hA49 : ∀ i : Nat, i < 366 → σ41 q20 i = (-1) := fun i hi => by rw [eu43, sv_up_a (sv_ne kq20 k_a (by decide))]; exact hA38 i hi
    refine sv_same (st2 := []) (lv2 := [(0, sv_r a), (1, sv_i y)]) rfl rfl ?_
    refine sv_go C.1 C.2.1 [(.iload_n 1, 1)] (pc' := 41) (by decide +kernel) rfl (lv' := [(0, sv_r a), (1, sv_i y)]) (st' := [sv_i y]) rfl ?_
    refine sv_cs C (index := 63) (k := 1) (rest := []) (by decide +kernel) (ct_X2_length l g A ty σ41 hok42 (y) ⟨by omega, by omega⟩) ⟨co_X2_length, in_X2, ⟨by decide, by decide, by decide +kernel⟩, Nat.le_of_ble_eq_true rfl, Nat.le_of_ble_eq_true rfl⟩ ml_X4_63 st_X2_length rfl rfl (Nat.le_of_ble_eq_true rfl) ⟨Nat.zero_le _, Nat.zero_le _⟩ (fun r51 σ52 hpo50 hok53 => ?_)
    obtain ⟨rfl, rfl⟩ := hpo50
    refine sv_same (st2 := [sv_i (365 + dy_lp y)]) (lv2 := [(0, sv_r a), (1, sv_i y)]) rfl rfl ?_
    refine sv_go C.1 C.2.1 [(.istore_n 2, 1), (.iconst 0, 1), (.istore_n 3, 1), (.iconst 0, 1), (.istore 4, 2), (.iload 4, 2), (.iload_n 2, 1)] (pc' := 53) (by decide +kernel) rfl (lv' := [(0, sv_r a), (1, sv_i y), (2, sv_i (365 + dy_lp y)), (3, sv_i 0), (4, sv_i 0)]) (st' := [sv_i (365 + dy_lp y), sv_i 0]) rfl ?_
    refine sv_icmp_f C.1 C.2.1 (cnd := .ge) (off := 96) (tgt := 149) (by decide +kernel) (by decide) ⟨by omega, by omega⟩ ⟨by omega, by omega⟩ (show ¬ ((365 + dy_lp y) ≤ 0) by omega) ?_
    refine sv_go C.1 C.2.1 [(.iload_n 3, 1), (.aload_n 0, 1)] (pc' := 58) (by decide +kernel) rfl (lv' := [(0, sv_r a), (1, sv_i y), (2, sv_i (365 + dy_lp y)), (3, sv_i 0), (4, sv_i 0)]) (st' := [sv_r a, sv_i 0]) rfl ?_
    refine sv_gf C (index := 66) (ci := 3) (k := 7) (r := (RX4, TX4, 11)) (v := sv_i 0) (by decide +kernel) (by rw [k_a]; rfl) rfl (by decide) fl_X4_66 (congrArg sv_i t48) ?_
    refine sv_icmp_f C.1 C.2.1 (cnd := .lt) (off := 10) (tgt := 71) (by decide +kernel) (by decide) ⟨by omega, by omega⟩ ⟨by omega, by omega⟩ (show ¬ (0 < 0) by omega) ?_
    refine sv_go C.1 C.2.1 [(.aload_n 0, 1)] (pc' := 65) (by decide +kernel) rfl (lv' := [(0, sv_r a), (1, sv_i y), (2, sv_i (365 + dy_lp y)), (3, sv_i 0), (4, sv_i 0)]) (st' := [sv_r a]) rfl ?_
    refine sv_gf C (index := 56) (ci := 3) (k := 9) (r := (RX4, TX4, 11)) (v := sv_i 0) (by decide +kernel) (by rw [k_a]; rfl) rfl (by decide) fl_X4_56 (congrArg sv_i t47) ?_
    refine sv_if_t C.1 C.2.1 (cnd := .le) (off := 81) (tgt := 149) (by decide +kernel) (by decide) ⟨by omega, by omega⟩ (show 0 ≤ 0 by omega) ?_
    exact sv_vret C hr (by decide +kernel) hok53 (⟨rfl, hIu43, hFu43, ⟨t44, t45, fun h hh i hi => by have hb : h = q20 := (by have q := t46; omega); rw [hb]; exact hA49 i hi⟩, hXu43, hYu43⟩)
  · exact sv_vret C hr (by decide +kernel) hok (⟨rfl, hI, hF, h0.elim (fun q => absurd q (by omega)) (fun q => by rw [show y = σ a 10 by omega]; exact q), hX, hY⟩)

set_option maxHeartbeats 4000000 in
set_option maxRecDepth 100000 in
theorem ct_X4_feastHeldOn (l : Launch) (g : sv_G) (A : Nat → Prop) (ty : Nat → Nat) (σ : Nat → Nat → Int) (hok : sv_ok ty σ) (hI : sv_inv sp_1 ty σ) (a : Nat) (k_a : ty a = 4) (y : Int) (hy : 1 ≤ y ∧ y ≤ 2000) (hP : pl_st σ a y) (d : Int) (hd : -10 ≤ d ∧ d ≤ 370) : sv_M l yX4_feastHeldOn cX4_feastHeldOn 2 (some (.object "SaintsRoad$Feast")) { frames := 0, cells := 0, slots := 0, locals := 0 } g A ty σ [sv_r a, sv_i d] (fun r σ' => σ = σ' ∧ r = [sv_a 0]) := by
  refine sv_enter (by decide) (Nat.le_of_ble_eq_true rfl) ?_
  intro p e s m args below meth c C hr
  have C : sv_C g A RX4 cX4_feastHeldOn 2 p s m args meth c := C
  have hr : meth.sig.returnType = (some (.object "SaintsRoad$Feast")) := hr
  refine sv_same (st2 := []) (lv2 := [(0, sv_r a), (1, sv_i d)]) rfl rfl ?_
  refine sv_go C.1 C.2.1 [(.iload_n 1, 1)] (pc' := 1) (by decide +kernel) rfl (lv' := [(0, sv_r a), (1, sv_i d)]) (st' := [sv_i d]) rfl ?_
  refine sv_if C.1 C.2.1 (cnd := .lt) (off := 19) (tgt := 20) (by decide +kernel) (by decide) ⟨by omega, by omega⟩ (fun (h1 : d < 0) => ?_) (fun (h1 : ¬ (d < 0)) => ?_)
  · refine sv_go C.1 C.2.1 [(.aconst_null, 1)] (pc' := 21) (by decide +kernel) rfl (lv' := [(0, sv_r a), (1, sv_i d)]) (st' := [sv_a 0]) rfl ?_
    exact sv_aret C hr (Or.inl ⟨_, rfl⟩) (by decide +kernel) hok (⟨rfl, rfl⟩)
  · refine sv_go C.1 C.2.1 [(.iload_n 1, 1), (.sipush 366, 3)] (pc' := 8) (by decide +kernel) rfl (lv' := [(0, sv_r a), (1, sv_i d)]) (st' := [sv_i 366, sv_i d]) rfl ?_
    refine sv_icmp C.1 C.2.1 (cnd := .ge) (off := 12) (tgt := 20) (by decide +kernel) (by decide) ⟨by omega, by omega⟩ ⟨by omega, by omega⟩ (fun (h2 : 366 ≤ d) => ?_) (fun (h2 : ¬ (366 ≤ d)) => ?_)
    · refine sv_go C.1 C.2.1 [(.aconst_null, 1)] (pc' := 21) (by decide +kernel) rfl (lv' := [(0, sv_r a), (1, sv_i d)]) (st' := [sv_a 0]) rfl ?_
      exact sv_aret C hr (Or.inl ⟨_, rfl⟩) (by decide +kernel) hok (⟨rfl, rfl⟩)
    · refine sv_go C.1 C.2.1 [(.aload_n 0, 1)] (pc' := 12) (by decide +kernel) rfl (lv' := [(0, sv_r a), (1, sv_i d)]) (st' := [sv_r a]) rfl ?_
      obtain ⟨q3, eq3, kq3⟩ := hI.ref (k := 1) k_a rfl
      refine sv_gf C (index := 15) (ci := 3) (k := 1) (r := (RX4, TX4, 11)) (v := sv_r q3) (by decide +kernel) (by rw [k_a]; rfl) rfl (by decide) fl_X4_15 (congrArg sv_a eq3) ?_
      refine sv_go C.1 C.2.1 [(.iload_n 1, 1)] (pc' := 16) (by decide +kernel) rfl (lv' := [(0, sv_r a), (1, sv_i d)]) (st' := [sv_i d, sv_r q3]) rfl ?_
      refine sv_ia C (n := 366) (by decide +kernel) (by rw [kq3]; rfl) (by decide) (by omega) (by omega) ?_
      rw [show σ q3 d.toNat = -1 from (hP.2.2 q3 eq3 _ (by omega))]
      refine sv_if_f C.1 C.2.1 (cnd := .ge) (off := 5) (tgt := 22) (by decide +kernel) (by decide) ⟨by omega, by omega⟩ (show ¬ (0 ≤ (-1)) by omega) ?_
      refine sv_go C.1 C.2.1 [(.aconst_null, 1)] (pc' := 21) (by decide +kernel) rfl (lv' := [(0, sv_r a), (1, sv_i d)]) (st' := [sv_a 0]) rfl ?_
      exact sv_aret C hr (Or.inl ⟨_, rfl⟩) (by decide +kernel) hok (⟨rfl, rfl⟩)

theorem ml_X4_108 : Cond.methodLink RX4 108 yX4_feastHeldOn ∈ lw_good := sv_mem 740 (by decide +kernel) rfl
theorem co_X4_feastHeldOn : Cond.code yX4_feastHeldOn cX4_feastHeldOn 2 (some (.object "SaintsRoad$Feast")) ∈ lw_good := sv_mem 743 (by decide +kernel) rfl
theorem im_X4_feastHeldOn : Cond.instanceMethod yX4_feastHeldOn ∈ lw_good := sv_mem 741 (by decide +kernel) rfl
theorem se_X4_feastHeldOn : Cond.selects RX4 yX4_feastHeldOn yX4_feastHeldOn ∈ lw_good := sv_mem 742 (by decide +kernel) rfl
theorem ml_X4_116 : Cond.methodLink RX4 116 yX2_isSunday ∈ lw_good := sv_mem 744 (by decide +kernel) rfl
theorem co_X2_isSunday : Cond.code yX2_isSunday cX2_isSunday 2 (some .boolean) ∈ lw_good := sv_mem 746 (by decide +kernel) rfl
theorem st_X2_isSunday : Cond.static yX2_isSunday ∈ lw_good := sv_mem 745 (by decide +kernel) rfl
set_option maxHeartbeats 4000000 in
set_option maxRecDepth 100000 in
theorem ct_X4_officeOf (l : Launch) (g : sv_G) (A : Nat → Prop) (ty : Nat → Nat) (σ : Nat → Nat → Int) (hok : sv_ok ty σ) (hI : sv_inv sp_1 ty σ) (a : Nat) (k_a : ty a = 4) (y : Int) (hy : 1 ≤ y ∧ y ≤ 2000) (hP : pl_st σ a y) (d : Int) (hd : 0 ≤ d ∧ d ≤ 366) : sv_M l yX4_officeOf cX4_officeOf 4 (some .int) { frames := 3, cells := 0, slots := 0, locals := 62 } g A ty σ [sv_r a, sv_i d] (fun r σ' => σ = σ' ∧ r = [sv_i (fx_of y d)]) := by
  refine sv_enter (by decide) (Nat.le_of_ble_eq_true rfl) ?_
  intro p e s m args below meth c C hr
  have C : sv_C g A RX4 cX4_officeOf 4 p s m args meth c := C
  have hr : meth.sig.returnType = (some .int) := hr
  refine sv_same (st2 := []) (lv2 := [(0, sv_r a), (1, sv_i d)]) rfl rfl ?_
  refine sv_go C.1 C.2.1 [(.aload_n 0, 1), (.iload_n 1, 1)] (pc' := 2) (by decide +kernel) rfl (lv' := [(0, sv_r a), (1, sv_i d)]) (st' := [sv_i d, sv_r a]) rfl ?_
  refine sv_cv C (index := 108) (k := 1) (rest := []) (ci := 3) (r := (RX4, TX4, 11)) (by decide +kernel) (ct_X4_feastHeldOn l g A ty σ hok hI a k_a (y) ⟨by omega, by omega⟩ hP (d) ⟨by omega, by omega⟩) ⟨co_X4_feastHeldOn, in_X4, ⟨by decide, by decide, by decide +kernel⟩, Nat.le_of_ble_eq_true rfl, Nat.le_of_ble_eq_true rfl⟩ ml_X4_108 im_X4_feastHeldOn se_X4_feastHeldOn (by rw [k_a]; rfl) rfl rfl rfl (Nat.le_of_ble_eq_true rfl) ⟨Nat.zero_le _, Nat.zero_le _⟩ (fun r2 σ3 hpo1 hok4 => ?_)
  obtain ⟨rfl, rfl⟩ := hpo1
  refine sv_same (st2 := [sv_a 0]) (lv2 := [(0, sv_r a), (1, sv_i d)]) rfl rfl ?_
  refine sv_ifnull C.1 C.2.1 (off := 10) (tgt := 15) (by decide +kernel) (by decide) (by omega) (fun _ => ?_) (fun (h5 : 0 < 0) => absurd h5 (by omega))
  refine sv_go C.1 C.2.1 [(.iconst 1, 1), (.istore_n 2, 1)] (pc' := 17) (by decide +kernel) rfl (lv' := [(0, sv_r a), (1, sv_i d), (2, sv_i 1)]) (st' := []) rfl ?_
  have L6 : ∀ (n : Nat) (X : Int) , (1 ≤ X ∧ X ≤ 8) → (8 - X) < (n : Int) → sv_E p l e { frames := 3, cells := 0, slots := 0, locals := 62 } s m args below meth c 4 g A ty (fun r σ' => σ = σ' ∧ r = [sv_i (fx_of y d)]) σ 17 [(0, sv_r a), (1, sv_i d), (2, sv_i X)] [] := by
    intro n
    induction n with
    | zero => intro X  hX hmu; exact absurd hmu (by omega)
    | succ n ih7 =>
      intro X  hX hmu
      refine sv_go C.1 C.2.1 [(.iload_n 2, 1), (.bipush 7, 2)] (pc' := 20) (by decide +kernel) rfl (lv' := [(0, sv_r a), (1, sv_i d), (2, sv_i X)]) (st' := [sv_i 7, sv_i X]) rfl ?_
      refine sv_icmp C.1 C.2.1 (cnd := .gt) (off := 40) (tgt := 60) (by decide +kernel) (by decide) ⟨by omega, by omega⟩ ⟨by omega, by omega⟩ (fun (h8 : 7 < X) => ?_) (fun (h8 : ¬ (7 < X)) => ?_)
      · refine sv_go C.1 C.2.1 [(.aload_n 0, 1)] (pc' := 61) (by decide +kernel) rfl (lv' := [(0, sv_r a), (1, sv_i d), (2, sv_i X)]) (st' := [sv_r a]) rfl ?_
        refine sv_gf C (index := 37) (ci := 3) (k := 10) (r := (RX4, TX4, 11)) (v := sv_i y) (by decide +kernel) (by rw [k_a]; rfl) rfl (by decide) fl_X4_37 (congrArg sv_i hP.1) ?_
        refine sv_go C.1 C.2.1 [(.iload_n 1, 1)] (pc' := 65) (by decide +kernel) rfl (lv' := [(0, sv_r a), (1, sv_i d), (2, sv_i X)]) (st' := [sv_i d, sv_i y]) rfl ?_
        refine sv_cs C (index := 116) (k := 2) (rest := []) (by decide +kernel) (ct_X2_isSunday l g A ty σ hok4 (y) ⟨by omega, by omega⟩ (d) ⟨by omega, by omega⟩) ⟨co_X2_isSunday, in_X2, ⟨by decide, by decide, by decide +kernel⟩, Nat.le_of_ble_eq_true rfl, Nat.le_of_ble_eq_true rfl⟩ ml_X4_116 st_X2_isSunday rfl rfl (Nat.le_of_ble_eq_true rfl) ⟨Nat.zero_le _, Nat.zero_le _⟩ (fun r10 σ11 hpo9 hok12 => ?_)
        obtain ⟨rfl, ⟨h13, rfl⟩ | ⟨h13, rfl⟩⟩ := hpo9
        · refine sv_same (st2 := [sv_i 1]) (lv2 := [(0, sv_r a), (1, sv_i d), (2, sv_i X)]) rfl rfl ?_
          refine sv_if_f C.1 C.2.1 (cnd := .eq) (off := 8) (tgt := 76) (by decide +kernel) (by decide) ⟨by omega, by omega⟩ (show ¬ (1 = 0) by omega) ?_
          refine sv_go C.1 C.2.1 [(.bipush (-11), 2)] (pc' := 73) (by decide +kernel) rfl (lv' := [(0, sv_r a), (1, sv_i d), (2, sv_i X)]) (st' := [sv_i ((-11))]) rfl ?_
          refine sv_goto C.1 C.2.1 (off := 5) (tgt := 78) (by decide +kernel) (by decide) ?_
          exact sv_iret C hr (by decide +kernel) hok12 (⟨rfl, congrArg (fun q => [sv_i q]) (by unfold fx_of; omega)⟩)
        · refine sv_same (st2 := [sv_i 0]) (lv2 := [(0, sv_r a), (1, sv_i d), (2, sv_i X)]) rfl rfl ?_
          refine sv_if_t C.1 C.2.1 (cnd := .eq) (off := 8) (tgt := 76) (by decide +kernel) (by decide) ⟨by omega, by omega⟩ (show 0 = 0 by omega) ?_
          refine sv_go C.1 C.2.1 [(.bipush (-10), 2)] (pc' := 78) (by decide +kernel) rfl (lv' := [(0, sv_r a), (1, sv_i d), (2, sv_i X)]) (st' := [sv_i ((-10))]) rfl ?_
          exact sv_iret C hr (by decide +kernel) hok12 (⟨rfl, congrArg (fun q => [sv_i q]) (by unfold fx_of; omega)⟩)
      · refine sv_go C.1 C.2.1 [(.aload_n 0, 1), (.iload_n 1, 1), (.iload_n 2, 1), (.isub, 1)] (pc' := 27) (by decide +kernel) rfl (lv' := [(0, sv_r a), (1, sv_i d), (2, sv_i X)]) (st' := [sv_i (d - X), sv_r a]) rfl ?_
        refine sv_cv C (index := 108) (k := 1) (rest := []) (ci := 3) (r := (RX4, TX4, 11)) (by decide +kernel) (ct_X4_feastHeldOn l g A ty σ hok4 hI a k_a (y) ⟨by omega, by omega⟩ hP (d - X) ⟨by omega, by omega⟩) ⟨co_X4_feastHeldOn, in_X4, ⟨by decide, by decide, by decide +kernel⟩, Nat.le_of_ble_eq_true rfl, Nat.le_of_ble_eq_true rfl⟩ ml_X4_108 im_X4_feastHeldOn se_X4_feastHeldOn (by rw [k_a]; rfl) rfl rfl rfl (Nat.le_of_ble_eq_true rfl) ⟨Nat.zero_le _, Nat.zero_le _⟩ (fun r15 σ16 hpo14 hok17 => ?_)
        obtain ⟨rfl, rfl⟩ := hpo14
        refine sv_same (st2 := [sv_a 0]) (lv2 := [(0, sv_r a), (1, sv_i d), (2, sv_i X)]) rfl rfl ?_
        refine sv_go C.1 C.2.1 [(.astore_n 3, 1), (.aload_n 3, 1)] (pc' := 32) (by decide +kernel) rfl (lv' := [(0, sv_r a), (1, sv_i d), (2, sv_i X), (3, sv_a 0)]) (st' := [sv_a 0]) rfl ?_
        refine sv_ifnull C.1 C.2.1 (off := 22) (tgt := 54) (by decide +kernel) (by decide) (by omega) (fun _ => ?_) (fun (h18 : 0 < 0) => absurd h18 (by omega))
        refine sv_go C.1 C.2.1 [(.iinc 2 1, 3)] (pc' := 57) (by decide +kernel) rfl (lv' := [(0, sv_r a), (1, sv_i d), (2, sv_i (X + 1)), (3, sv_a 0)]) (st' := []) rfl ?_
        refine sv_goto C.1 C.2.1 (off := (-40)) (tgt := 17) (by decide +kernel) (by decide) ?_
        refine sv_pick [0, 1, 2] (lv2 := [(0, sv_r a), (1, sv_i d), (2, sv_i (X + 1))]) rfl ?_
        exact ih7 (X + 1)  (by omega) (by omega)
  exact L6 (((8 - 1 : Int)).toNat + 1) 1  (by omega) (by omega)

theorem fl_X4_126 : Cond.fieldLink RX4 126 "SaintsRoad$Calendar" "lent" "I" ∈ lw_good := sv_mem 260 (by decide +kernel) rfl
set_option maxHeartbeats 4000000 in
set_option maxRecDepth 100000 in
theorem ct_X4_isInLent (l : Launch) (g : sv_G) (A : Nat → Prop) (ty : Nat → Nat) (σ : Nat → Nat → Int) (hok : sv_ok ty σ) (hI : sv_inv sp_1 ty σ) (a : Nat) (k_a : ty a = 4) (y : Int) (hy : 1 ≤ y ∧ y ≤ 2000) (hP : pl_st σ a y) (d : Int) (hd : 0 ≤ d ∧ d ≤ 366) : sv_M l yX4_isInLent cX4_isInLent 2 (some .boolean) { frames := 0, cells := 0, slots := 0, locals := 0 } g A ty σ [sv_r a, sv_i d] (fun r σ' => σ = σ' ∧ sv_bo False r) := by
  refine sv_enter (by decide) (Nat.le_of_ble_eq_true rfl) ?_
  intro p e s m args below meth c C hr
  have C : sv_C g A RX4 cX4_isInLent 2 p s m args meth c := C
  have hr : meth.sig.returnType = (some .boolean) := hr
  have hea := dy_ea_in y
  refine sv_same (st2 := []) (lv2 := [(0, sv_r a), (1, sv_i d)]) rfl rfl ?_
  refine sv_go C.1 C.2.1 [(.iload_n 1, 1), (.aload_n 0, 1)] (pc' := 2) (by decide +kernel) rfl (lv' := [(0, sv_r a), (1, sv_i d)]) (st' := [sv_r a, sv_i d]) rfl ?_
  refine sv_gf C (index := 47) (ci := 3) (k := 8) (r := (RX4, TX4, 11)) (v := sv_i (dy_ea y)) (by decide +kernel) (by rw [k_a]; rfl) rfl (by decide) fl_X4_47 (congrArg sv_i hP.2.1) ?_
  refine sv_icmp C.1 C.2.1 (cnd := .ge) (off := 23) (tgt := 28) (by decide +kernel) (by decide) ⟨by omega, by omega⟩ ⟨by omega, by omega⟩ (fun (h1 : (dy_ea y) ≤ d) => ?_) (fun (h1 : ¬ ((dy_ea y) ≤ d)) => ?_)
  · refine sv_go C.1 C.2.1 [(.iconst 0, 1)] (pc' := 29) (by decide +kernel) rfl (lv' := [(0, sv_r a), (1, sv_i d)]) (st' := [sv_i 0]) rfl ?_
    exact sv_zret C hr (by first | exact Or.inl rfl | exact Or.inr rfl | omega) (by decide +kernel) hok (⟨rfl, Or.inr ⟨id, rfl⟩⟩)
  · refine sv_go C.1 C.2.1 [(.iload_n 1, 1), (.aload_n 0, 1)] (pc' := 10) (by decide +kernel) rfl (lv' := [(0, sv_r a), (1, sv_i d)]) (st' := [sv_r a, sv_i d]) rfl ?_
    refine sv_gf C (index := 47) (ci := 3) (k := 8) (r := (RX4, TX4, 11)) (v := sv_i (dy_ea y)) (by decide +kernel) (by rw [k_a]; rfl) rfl (by decide) fl_X4_47 (congrArg sv_i hP.2.1) ?_
    refine sv_go C.1 C.2.1 [(.aload_n 0, 1)] (pc' := 14) (by decide +kernel) rfl (lv' := [(0, sv_r a), (1, sv_i d)]) (st' := [sv_r a, sv_i (dy_ea y), sv_i d]) rfl ?_
    obtain ⟨q2, eq2, kq2⟩ := hI.ref (k := 2) k_a rfl
    refine sv_gf C (index := 21) (ci := 3) (k := 2) (r := (RX4, TX4, 11)) (v := sv_r q2) (by decide +kernel) (by rw [k_a]; rfl) rfl (by decide) fl_X4_21 (congrArg sv_a eq2) ?_
    have t3 : σ q2 5 = (-1) := by have q := hI.num (k := 5) kq2 rfl; omega
    refine sv_gf C (index := 126) (ci := 1) (k := 5) (r := (RX1, TX1, 6)) (v := sv_i ((-1))) (by decide +kernel) (by rw [kq2]; rfl) rfl (by decide) fl_X4_126 (congrArg sv_i t3) ?_
    refine sv_go C.1 C.2.1 [(.isub, 1)] (pc' := 21) (by decide +kernel) rfl (lv' := [(0, sv_r a), (1, sv_i d)]) (st' := [sv_i ((dy_ea y) - ((-1))), sv_i d]) rfl ?_
    refine sv_icmp_t C.1 C.2.1 (cnd := .lt) (off := 7) (tgt := 28) (by decide +kernel) (by decide) ⟨by omega, by omega⟩ ⟨by omega, by omega⟩ (show d < ((dy_ea y) - ((-1))) by omega) ?_
    refine sv_go C.1 C.2.1 [(.iconst 0, 1)] (pc' := 29) (by decide +kernel) rfl (lv' := [(0, sv_r a), (1, sv_i d)]) (st' := [sv_i 0]) rfl ?_
    exact sv_zret C hr (by first | exact Or.inl rfl | exact Or.inr rfl | omega) (by decide +kernel) hok (⟨rfl, Or.inr ⟨id, rfl⟩⟩)

set_option maxHeartbeats 4000000 in
set_option maxRecDepth 100000 in
theorem ct_X4_hasVigil (l : Launch) (g : sv_G) (A : Nat → Prop) (ty : Nat → Nat) (σ : Nat → Nat → Int) (hok : sv_ok ty σ) (hI : sv_inv sp_1 ty σ) (a : Nat) (k_a : ty a = 4) (y : Int) (hy : 1 ≤ y ∧ y ≤ 2000) (hP : pl_st σ a y) (d : Int) (hd : -10 ≤ d ∧ d ≤ 370) : sv_M l yX4_hasVigil cX4_hasVigil 3 (some .boolean) { frames := 1, cells := 0, slots := 0, locals := 21 } g A ty σ [sv_r a, sv_i d] (fun r σ' => σ = σ' ∧ sv_bo False r) := by
  refine sv_enter (by decide) (Nat.le_of_ble_eq_true rfl) ?_
  intro p e s m args below meth c C hr
  have C : sv_C g A RX4 cX4_hasVigil 3 p s m args meth c := C
  have hr : meth.sig.returnType = (some .boolean) := hr
  refine sv_same (st2 := []) (lv2 := [(0, sv_r a), (1, sv_i d)]) rfl rfl ?_
  refine sv_go C.1 C.2.1 [(.aload_n 0, 1), (.iload_n 1, 1)] (pc' := 2) (by decide +kernel) rfl (lv' := [(0, sv_r a), (1, sv_i d)]) (st' := [sv_i d, sv_r a]) rfl ?_
  refine sv_cv C (index := 108) (k := 1) (rest := []) (ci := 3) (r := (RX4, TX4, 11)) (by decide +kernel) (ct_X4_feastHeldOn l g A ty σ hok hI a k_a (y) ⟨by omega, by omega⟩ hP (d) ⟨by omega, by omega⟩) ⟨co_X4_feastHeldOn, in_X4, ⟨by decide, by decide, by decide +kernel⟩, Nat.le_of_ble_eq_true rfl, Nat.le_of_ble_eq_true rfl⟩ ml_X4_108 im_X4_feastHeldOn se_X4_feastHeldOn (by rw [k_a]; rfl) rfl rfl rfl (Nat.le_of_ble_eq_true rfl) ⟨Nat.zero_le _, Nat.zero_le _⟩ (fun r2 σ3 hpo1 hok4 => ?_)
  obtain ⟨rfl, rfl⟩ := hpo1
  refine sv_same (st2 := [sv_a 0]) (lv2 := [(0, sv_r a), (1, sv_i d)]) rfl rfl ?_
  refine sv_go C.1 C.2.1 [(.astore_n 2, 1), (.aload_n 2, 1)] (pc' := 7) (by decide +kernel) rfl (lv' := [(0, sv_r a), (1, sv_i d), (2, sv_a 0)]) (st' := [sv_a 0]) rfl ?_
  refine sv_ifnull C.1 C.2.1 (off := 14) (tgt := 21) (by decide +kernel) (by decide) (by omega) (fun _ => ?_) (fun (h5 : 0 < 0) => absurd h5 (by omega))
  refine sv_go C.1 C.2.1 [(.iconst 0, 1)] (pc' := 22) (by decide +kernel) rfl (lv' := [(0, sv_r a), (1, sv_i d), (2, sv_a 0)]) (st' := [sv_i 0]) rfl ?_
  exact sv_zret C hr (by first | exact Or.inl rfl | exact Or.inr rfl | omega) (by decide +kernel) hok4 (⟨rfl, Or.inr ⟨id, rfl⟩⟩)

theorem ml_X4_129 : Cond.methodLink RX4 129 yX4_hasVigil ∈ lw_good := sv_mem 772 (by decide +kernel) rfl
theorem co_X4_hasVigil : Cond.code yX4_hasVigil cX4_hasVigil 3 (some .boolean) ∈ lw_good := sv_mem 775 (by decide +kernel) rfl
theorem im_X4_hasVigil : Cond.instanceMethod yX4_hasVigil ∈ lw_good := sv_mem 774 (by decide +kernel) rfl
theorem se_X4_hasVigil : Cond.selects RX4 yX4_hasVigil yX4_hasVigil ∈ lw_good := sv_mem 29 (by decide +kernel) rfl
set_option maxHeartbeats 4000000 in
set_option maxRecDepth 100000 in
theorem ct_X4_isVigil (l : Launch) (g : sv_G) (A : Nat → Prop) (ty : Nat → Nat) (σ : Nat → Nat → Int) (hok : sv_ok ty σ) (hI : sv_inv sp_1 ty σ) (a : Nat) (k_a : ty a = 4) (y : Int) (hy : 1 ≤ y ∧ y ≤ 2000) (hP : pl_st σ a y) (d : Int) (hd : 0 ≤ d ∧ d ≤ 366) (b : Int) (hb : 0 ≤ b ∧ b ≤ 1) : sv_M l yX4_isVigil cX4_isVigil 3 (some .boolean) { frames := 3, cells := 0, slots := 0, locals := 62 } g A ty σ [sv_r a, sv_i d, sv_i b] (fun r σ' => σ = σ' ∧ sv_bo False r) := by
  refine sv_enter (by decide) (Nat.le_of_ble_eq_true rfl) ?_
  intro p e s m args below meth c C hr
  have C : sv_C g A RX4 cX4_isVigil 3 p s m args meth c := C
  have hr : meth.sig.returnType = (some .boolean) := hr
  refine sv_same (st2 := []) (lv2 := [(0, sv_r a), (1, sv_i d), (2, sv_i b)]) rfl rfl ?_
  refine sv_go C.1 C.2.1 [(.iload_n 2, 1)] (pc' := 1) (by decide +kernel) rfl (lv' := [(0, sv_r a), (1, sv_i d), (2, sv_i b)]) (st' := [sv_i b]) rfl ?_
  refine sv_if C.1 C.2.1 (cnd := .ne) (off := 15) (tgt := 16) (by decide +kernel) (by decide) ⟨by omega, by omega⟩ (fun (h1 : b ≠ 0) => ?_) (fun (h1 : ¬ (b ≠ 0)) => ?_)
  · refine sv_go C.1 C.2.1 [(.aload_n 0, 1)] (pc' := 17) (by decide +kernel) rfl (lv' := [(0, sv_r a), (1, sv_i d), (2, sv_i b)]) (st' := [sv_r a]) rfl ?_
    refine sv_gf C (index := 37) (ci := 3) (k := 10) (r := (RX4, TX4, 11)) (v := sv_i y) (by decide +kernel) (by rw [k_a]; rfl) rfl (by decide) fl_X4_37 (congrArg sv_i hP.1) ?_
    refine sv_go C.1 C.2.1 [(.iload_n 1, 1), (.iconst 1, 1), (.iadd, 1)] (pc' := 23) (by decide +kernel) rfl (lv' := [(0, sv_r a), (1, sv_i d), (2, sv_i b)]) (st' := [sv_i (d + 1), sv_i y]) rfl ?_
    refine sv_cs C (index := 116) (k := 2) (rest := []) (by decide +kernel) (ct_X2_isSunday l g A ty σ hok (y) ⟨by omega, by omega⟩ (d + 1) ⟨by omega, by omega⟩) ⟨co_X2_isSunday, in_X2, ⟨by decide, by decide, by decide +kernel⟩, Nat.le_of_ble_eq_true rfl, Nat.le_of_ble_eq_true rfl⟩ ml_X4_116 st_X2_isSunday rfl rfl (Nat.le_of_ble_eq_true rfl) ⟨Nat.zero_le _, Nat.zero_le _⟩ (fun r3 σ4 hpo2 hok5 => ?_)
    obtain ⟨rfl, ⟨h6, rfl⟩ | ⟨h6, rfl⟩⟩ := hpo2
    · refine sv_same (st2 := [sv_i 1]) (lv2 := [(0, sv_r a), (1, sv_i d), (2, sv_i b)]) rfl rfl ?_
      refine sv_if_f C.1 C.2.1 (cnd := .eq) (off := 17) (tgt := 43) (by decide +kernel) (by decide) ⟨by omega, by omega⟩ (show ¬ (1 = 0) by omega) ?_
      refine sv_go C.1 C.2.1 [(.aload_n 0, 1), (.iload_n 1, 1), (.iconst 2, 1), (.iadd, 1)] (pc' := 33) (by decide +kernel) rfl (lv' := [(0, sv_r a), (1, sv_i d), (2, sv_i b)]) (st' := [sv_i (d + 2), sv_r a]) rfl ?_
      refine sv_cv C (index := 129) (k := 1) (rest := []) (ci := 3) (r := (RX4, TX4, 11)) (by decide +kernel) (ct_X4_hasVigil l g A ty σ hok5 hI a k_a (y) ⟨by omega, by omega⟩ hP (d + 2) ⟨by omega, by omega⟩) ⟨co_X4_hasVigil, in_X4, ⟨by decide, by decide, by decide +kernel⟩, Nat.le_of_ble_eq_true rfl, Nat.le_of_ble_eq_true rfl⟩ ml_X4_129 im_X4_hasVigil se_X4_hasVigil (by rw [k_a]; rfl) rfl rfl rfl (Nat.le_of_ble_eq_true rfl) ⟨Nat.zero_le _, Nat.zero_le _⟩ (fun r8 σ9 hpo7 hok10 => ?_)
      obtain ⟨rfl, hpo7⟩ := hpo7
      obtain rfl := sv_boF hpo7
      refine sv_same (st2 := [sv_i 0]) (lv2 := [(0, sv_r a), (1, sv_i d), (2, sv_i b)]) rfl rfl ?_
      refine sv_if_t C.1 C.2.1 (cnd := .eq) (off := 7) (tgt := 43) (by decide +kernel) (by decide) ⟨by omega, by omega⟩ (show 0 = 0 by omega) ?_
      refine sv_go C.1 C.2.1 [(.iconst 0, 1)] (pc' := 44) (by decide +kernel) rfl (lv' := [(0, sv_r a), (1, sv_i d), (2, sv_i b)]) (st' := [sv_i 0]) rfl ?_
      exact sv_zret C hr (by first | exact Or.inl rfl | exact Or.inr rfl | omega) (by decide +kernel) hok10 (⟨rfl, Or.inr ⟨id, rfl⟩⟩)
    · refine sv_same (st2 := [sv_i 0]) (lv2 := [(0, sv_r a), (1, sv_i d), (2, sv_i b)]) rfl rfl ?_
      refine sv_if_t C.1 C.2.1 (cnd := .eq) (off := 17) (tgt := 43) (by decide +kernel) (by decide) ⟨by omega, by omega⟩ (show 0 = 0 by omega) ?_
      refine sv_go C.1 C.2.1 [(.iconst 0, 1)] (pc' := 44) (by decide +kernel) rfl (lv' := [(0, sv_r a), (1, sv_i d), (2, sv_i b)]) (st' := [sv_i 0]) rfl ?_
      exact sv_zret C hr (by first | exact Or.inl rfl | exact Or.inr rfl | omega) (by decide +kernel) hok5 (⟨rfl, Or.inr ⟨id, rfl⟩⟩)
  · refine sv_go C.1 C.2.1 [(.aload_n 0, 1), (.iload_n 1, 1), (.iconst 1, 1), (.iadd, 1)] (pc' := 8) (by decide +kernel) rfl (lv' := [(0, sv_r a), (1, sv_i d), (2, sv_i b)]) (st' := [sv_i (d + 1), sv_r a]) rfl ?_
    refine sv_cv C (index := 129) (k := 1) (rest := []) (ci := 3) (r := (RX4, TX4, 11)) (by decide +kernel) (ct_X4_hasVigil l g A ty σ hok hI a k_a (y) ⟨by omega, by omega⟩ hP (d + 1) ⟨by omega, by omega⟩) ⟨co_X4_hasVigil, in_X4, ⟨by decide, by decide, by decide +kernel⟩, Nat.le_of_ble_eq_true rfl, Nat.le_of_ble_eq_true rfl⟩ ml_X4_129 im_X4_hasVigil se_X4_hasVigil (by rw [k_a]; rfl) rfl rfl rfl (Nat.le_of_ble_eq_true rfl) ⟨Nat.zero_le _, Nat.zero_le _⟩ (fun r12 σ13 hpo11 hok14 => ?_)
    obtain ⟨rfl, hpo11⟩ := hpo11
    obtain rfl := sv_boF hpo11
    refine sv_same (st2 := [sv_i 0]) (lv2 := [(0, sv_r a), (1, sv_i d), (2, sv_i b)]) rfl rfl ?_
    refine sv_if_t C.1 C.2.1 (cnd := .eq) (off := 5) (tgt := 16) (by decide +kernel) (by decide) ⟨by omega, by omega⟩ (show 0 = 0 by omega) ?_
    refine sv_go C.1 C.2.1 [(.aload_n 0, 1)] (pc' := 17) (by decide +kernel) rfl (lv' := [(0, sv_r a), (1, sv_i d), (2, sv_i b)]) (st' := [sv_r a]) rfl ?_
    refine sv_gf C (index := 37) (ci := 3) (k := 10) (r := (RX4, TX4, 11)) (v := sv_i y) (by decide +kernel) (by rw [k_a]; rfl) rfl (by decide) fl_X4_37 (congrArg sv_i hP.1) ?_
    refine sv_go C.1 C.2.1 [(.iload_n 1, 1), (.iconst 1, 1), (.iadd, 1)] (pc' := 23) (by decide +kernel) rfl (lv' := [(0, sv_r a), (1, sv_i d), (2, sv_i b)]) (st' := [sv_i (d + 1), sv_i y]) rfl ?_
    refine sv_cs C (index := 116) (k := 2) (rest := []) (by decide +kernel) (ct_X2_isSunday l g A ty σ hok14 (y) ⟨by omega, by omega⟩ (d + 1) ⟨by omega, by omega⟩) ⟨co_X2_isSunday, in_X2, ⟨by decide, by decide, by decide +kernel⟩, Nat.le_of_ble_eq_true rfl, Nat.le_of_ble_eq_true rfl⟩ ml_X4_116 st_X2_isSunday rfl rfl (Nat.le_of_ble_eq_true rfl) ⟨Nat.zero_le _, Nat.zero_le _⟩ (fun r16 σ17 hpo15 hok18 => ?_)
    obtain ⟨rfl, ⟨h19, rfl⟩ | ⟨h19, rfl⟩⟩ := hpo15
    · refine sv_same (st2 := [sv_i 1]) (lv2 := [(0, sv_r a), (1, sv_i d), (2, sv_i b)]) rfl rfl ?_
      refine sv_if_f C.1 C.2.1 (cnd := .eq) (off := 17) (tgt := 43) (by decide +kernel) (by decide) ⟨by omega, by omega⟩ (show ¬ (1 = 0) by omega) ?_
      refine sv_go C.1 C.2.1 [(.aload_n 0, 1), (.iload_n 1, 1), (.iconst 2, 1), (.iadd, 1)] (pc' := 33) (by decide +kernel) rfl (lv' := [(0, sv_r a), (1, sv_i d), (2, sv_i b)]) (st' := [sv_i (d + 2), sv_r a]) rfl ?_
      refine sv_cv C (index := 129) (k := 1) (rest := []) (ci := 3) (r := (RX4, TX4, 11)) (by decide +kernel) (ct_X4_hasVigil l g A ty σ hok18 hI a k_a (y) ⟨by omega, by omega⟩ hP (d + 2) ⟨by omega, by omega⟩) ⟨co_X4_hasVigil, in_X4, ⟨by decide, by decide, by decide +kernel⟩, Nat.le_of_ble_eq_true rfl, Nat.le_of_ble_eq_true rfl⟩ ml_X4_129 im_X4_hasVigil se_X4_hasVigil (by rw [k_a]; rfl) rfl rfl rfl (Nat.le_of_ble_eq_true rfl) ⟨Nat.zero_le _, Nat.zero_le _⟩ (fun r21 σ22 hpo20 hok23 => ?_)
      obtain ⟨rfl, hpo20⟩ := hpo20
      obtain rfl := sv_boF hpo20
      refine sv_same (st2 := [sv_i 0]) (lv2 := [(0, sv_r a), (1, sv_i d), (2, sv_i b)]) rfl rfl ?_
      refine sv_if_t C.1 C.2.1 (cnd := .eq) (off := 7) (tgt := 43) (by decide +kernel) (by decide) ⟨by omega, by omega⟩ (show 0 = 0 by omega) ?_
      refine sv_go C.1 C.2.1 [(.iconst 0, 1)] (pc' := 44) (by decide +kernel) rfl (lv' := [(0, sv_r a), (1, sv_i d), (2, sv_i b)]) (st' := [sv_i 0]) rfl ?_
      exact sv_zret C hr (by first | exact Or.inl rfl | exact Or.inr rfl | omega) (by decide +kernel) hok23 (⟨rfl, Or.inr ⟨id, rfl⟩⟩)
    · refine sv_same (st2 := [sv_i 0]) (lv2 := [(0, sv_r a), (1, sv_i d), (2, sv_i b)]) rfl rfl ?_
      refine sv_if_t C.1 C.2.1 (cnd := .eq) (off := 17) (tgt := 43) (by decide +kernel) (by decide) ⟨by omega, by omega⟩ (show 0 = 0 by omega) ?_
      refine sv_go C.1 C.2.1 [(.iconst 0, 1)] (pc' := 44) (by decide +kernel) rfl (lv' := [(0, sv_r a), (1, sv_i d), (2, sv_i b)]) (st' := [sv_i 0]) rfl ?_
      exact sv_zret C hr (by first | exact Or.inl rfl | exact Or.inr rfl | omega) (by decide +kernel) hok18 (⟨rfl, Or.inr ⟨id, rfl⟩⟩)

theorem ml_X4_122 : Cond.methodLink RX4 122 yX4_isVigil ∈ lw_good := sv_mem 768 (by decide +kernel) rfl
theorem co_X4_isVigil : Cond.code yX4_isVigil cX4_isVigil 3 (some .boolean) ∈ lw_good := sv_mem 771 (by decide +kernel) rfl
theorem im_X4_isVigil : Cond.instanceMethod yX4_isVigil ∈ lw_good := sv_mem 770 (by decide +kernel) rfl
theorem se_X4_isVigil : Cond.selects RX4 yX4_isVigil yX4_isVigil ∈ lw_good := sv_mem 28 (by decide +kernel) rfl
theorem ml_X4_119 : Cond.methodLink RX4 119 yX4_isInLent ∈ lw_good := sv_mem 764 (by decide +kernel) rfl
theorem co_X4_isInLent : Cond.code yX4_isInLent cX4_isInLent 2 (some .boolean) ∈ lw_good := sv_mem 767 (by decide +kernel) rfl
theorem im_X4_isInLent : Cond.instanceMethod yX4_isInLent ∈ lw_good := sv_mem 766 (by decide +kernel) rfl
theorem se_X4_isInLent : Cond.selects RX4 yX4_isInLent yX4_isInLent ∈ lw_good := sv_mem 27 (by decide +kernel) rfl
set_option maxHeartbeats 4000000 in
set_option maxRecDepth 100000 in
theorem ct_X4_isFast (l : Launch) (g : sv_G) (A : Nat → Prop) (ty : Nat → Nat) (σ : Nat → Nat → Int) (hok : sv_ok ty σ) (hI : sv_inv sp_1 ty σ) (a : Nat) (k_a : ty a = 4) (y : Int) (hy : 1 ≤ y ∧ y ≤ 2000) (hP : pl_st σ a y) (d : Int) (hd : 0 ≤ d ∧ d ≤ 366) : sv_M l yX4_isFast cX4_isFast 3 (some .boolean) { frames := 4, cells := 0, slots := 0, locals := 84 } g A ty σ [sv_r a, sv_i d] (fun r σ' => σ = σ' ∧ sv_bo False r) := by
  refine sv_enter (by decide) (Nat.le_of_ble_eq_true rfl) ?_
  intro p e s m args below meth c C hr
  have C : sv_C g A RX4 cX4_isFast 3 p s m args meth c := C
  have hr : meth.sig.returnType = (some .boolean) := hr
  refine sv_same (st2 := []) (lv2 := [(0, sv_r a), (1, sv_i d)]) rfl rfl ?_
  refine sv_go C.1 C.2.1 [(.aload_n 0, 1)] (pc' := 1) (by decide +kernel) rfl (lv' := [(0, sv_r a), (1, sv_i d)]) (st' := [sv_r a]) rfl ?_
  refine sv_gf C (index := 37) (ci := 3) (k := 10) (r := (RX4, TX4, 11)) (v := sv_i y) (by decide +kernel) (by rw [k_a]; rfl) rfl (by decide) fl_X4_37 (congrArg sv_i hP.1) ?_
  refine sv_go C.1 C.2.1 [(.iload_n 1, 1)] (pc' := 5) (by decide +kernel) rfl (lv' := [(0, sv_r a), (1, sv_i d)]) (st' := [sv_i d, sv_i y]) rfl ?_
  refine sv_cs C (index := 116) (k := 2) (rest := []) (by decide +kernel) (ct_X2_isSunday l g A ty σ hok (y) ⟨by omega, by omega⟩ (d) ⟨by omega, by omega⟩) ⟨co_X2_isSunday, in_X2, ⟨by decide, by decide, by decide +kernel⟩, Nat.le_of_ble_eq_true rfl, Nat.le_of_ble_eq_true rfl⟩ ml_X4_116 st_X2_isSunday rfl rfl (Nat.le_of_ble_eq_true rfl) ⟨Nat.zero_le _, Nat.zero_le _⟩ (fun r2 σ3 hpo1 hok4 => ?_)
  obtain ⟨rfl, ⟨h5, rfl⟩ | ⟨h5, rfl⟩⟩ := hpo1
  · refine sv_same (st2 := [sv_i 1]) (lv2 := [(0, sv_r a), (1, sv_i d)]) rfl rfl ?_
    refine sv_go C.1 C.2.1 [(.istore_n 2, 1), (.iload_n 2, 1)] (pc' := 10) (by decide +kernel) rfl (lv' := [(0, sv_r a), (1, sv_i d), (2, sv_i 1)]) (st' := [sv_i 1]) rfl ?_
    refine sv_if_t C.1 C.2.1 (cnd := .ne) (off := 11) (tgt := 21) (by decide +kernel) (by decide) ⟨by omega, by omega⟩ (show 1 ≠ 0 by omega) ?_
    refine sv_go C.1 C.2.1 [(.aload_n 0, 1), (.iload_n 1, 1), (.iload_n 2, 1)] (pc' := 24) (by decide +kernel) rfl (lv' := [(0, sv_r a), (1, sv_i d), (2, sv_i 1)]) (st' := [sv_i 1, sv_i d, sv_r a]) rfl ?_
    refine sv_cv C (index := 122) (k := 2) (rest := []) (ci := 3) (r := (RX4, TX4, 11)) (by decide +kernel) (ct_X4_isVigil l g A ty σ hok4 hI a k_a (y) ⟨by omega, by omega⟩ hP (d) ⟨by omega, by omega⟩ (1) ⟨by omega, by omega⟩) ⟨co_X4_isVigil, in_X4, ⟨by decide, by decide, by decide +kernel⟩, Nat.le_of_ble_eq_true rfl, Nat.le_of_ble_eq_true rfl⟩ ml_X4_122 im_X4_isVigil se_X4_isVigil (by rw [k_a]; rfl) rfl rfl rfl (Nat.le_of_ble_eq_true rfl) ⟨Nat.zero_le _, Nat.zero_le _⟩ (fun r7 σ8 hpo6 hok9 => ?_)
    obtain ⟨rfl, hpo6⟩ := hpo6
    obtain rfl := sv_boF hpo6
    refine sv_same (st2 := [sv_i 0]) (lv2 := [(0, sv_r a), (1, sv_i d), (2, sv_i 1)]) rfl rfl ?_
    refine sv_if_t C.1 C.2.1 (cnd := .eq) (off := 7) (tgt := 34) (by decide +kernel) (by decide) ⟨by omega, by omega⟩ (show 0 = 0 by omega) ?_
    refine sv_go C.1 C.2.1 [(.iconst 0, 1)] (pc' := 35) (by decide +kernel) rfl (lv' := [(0, sv_r a), (1, sv_i d), (2, sv_i 1)]) (st' := [sv_i 0]) rfl ?_
    exact sv_zret C hr (by first | exact Or.inl rfl | exact Or.inr rfl | omega) (by decide +kernel) hok9 (⟨rfl, Or.inr ⟨id, rfl⟩⟩)
  · refine sv_same (st2 := [sv_i 0]) (lv2 := [(0, sv_r a), (1, sv_i d)]) rfl rfl ?_
    refine sv_go C.1 C.2.1 [(.istore_n 2, 1), (.iload_n 2, 1)] (pc' := 10) (by decide +kernel) rfl (lv' := [(0, sv_r a), (1, sv_i d), (2, sv_i 0)]) (st' := [sv_i 0]) rfl ?_
    refine sv_if_f C.1 C.2.1 (cnd := .ne) (off := 11) (tgt := 21) (by decide +kernel) (by decide) ⟨by omega, by omega⟩ (show ¬ (0 ≠ 0) by omega) ?_
    refine sv_go C.1 C.2.1 [(.aload_n 0, 1), (.iload_n 1, 1)] (pc' := 15) (by decide +kernel) rfl (lv' := [(0, sv_r a), (1, sv_i d), (2, sv_i 0)]) (st' := [sv_i d, sv_r a]) rfl ?_
    refine sv_cv C (index := 119) (k := 1) (rest := []) (ci := 3) (r := (RX4, TX4, 11)) (by decide +kernel) (ct_X4_isInLent l g A ty σ hok4 hI a k_a (y) ⟨by omega, by omega⟩ hP (d) ⟨by omega, by omega⟩) ⟨co_X4_isInLent, in_X4, ⟨by decide, by decide, by decide +kernel⟩, Nat.le_of_ble_eq_true rfl, Nat.le_of_ble_eq_true rfl⟩ ml_X4_119 im_X4_isInLent se_X4_isInLent (by rw [k_a]; rfl) rfl rfl rfl (Nat.le_of_ble_eq_true rfl) ⟨Nat.zero_le _, Nat.zero_le _⟩ (fun r11 σ12 hpo10 hok13 => ?_)
    obtain ⟨rfl, hpo10⟩ := hpo10
    obtain rfl := sv_boF hpo10
    refine sv_same (st2 := [sv_i 0]) (lv2 := [(0, sv_r a), (1, sv_i d), (2, sv_i 0)]) rfl rfl ?_
    refine sv_if_f C.1 C.2.1 (cnd := .ne) (off := 12) (tgt := 30) (by decide +kernel) (by decide) ⟨by omega, by omega⟩ (show ¬ (0 ≠ 0) by omega) ?_
    refine sv_go C.1 C.2.1 [(.aload_n 0, 1), (.iload_n 1, 1), (.iload_n 2, 1)] (pc' := 24) (by decide +kernel) rfl (lv' := [(0, sv_r a), (1, sv_i d), (2, sv_i 0)]) (st' := [sv_i 0, sv_i d, sv_r a]) rfl ?_
    refine sv_cv C (index := 122) (k := 2) (rest := []) (ci := 3) (r := (RX4, TX4, 11)) (by decide +kernel) (ct_X4_isVigil l g A ty σ hok13 hI a k_a (y) ⟨by omega, by omega⟩ hP (d) ⟨by omega, by omega⟩ (0) ⟨by omega, by omega⟩) ⟨co_X4_isVigil, in_X4, ⟨by decide, by decide, by decide +kernel⟩, Nat.le_of_ble_eq_true rfl, Nat.le_of_ble_eq_true rfl⟩ ml_X4_122 im_X4_isVigil se_X4_isVigil (by rw [k_a]; rfl) rfl rfl rfl (Nat.le_of_ble_eq_true rfl) ⟨Nat.zero_le _, Nat.zero_le _⟩ (fun r15 σ16 hpo14 hok17 => ?_)
    obtain ⟨rfl, hpo14⟩ := hpo14
    obtain rfl := sv_boF hpo14
    refine sv_same (st2 := [sv_i 0]) (lv2 := [(0, sv_r a), (1, sv_i d), (2, sv_i 0)]) rfl rfl ?_
    refine sv_if_t C.1 C.2.1 (cnd := .eq) (off := 7) (tgt := 34) (by decide +kernel) (by decide) ⟨by omega, by omega⟩ (show 0 = 0 by omega) ?_
    refine sv_go C.1 C.2.1 [(.iconst 0, 1)] (pc' := 35) (by decide +kernel) rfl (lv' := [(0, sv_r a), (1, sv_i d), (2, sv_i 0)]) (st' := [sv_i 0]) rfl ?_
    exact sv_zret C hr (by first | exact Or.inl rfl | exact Or.inr rfl | omega) (by decide +kernel) hok17 (⟨rfl, Or.inr ⟨id, rfl⟩⟩)

set_option maxHeartbeats 4000000 in
set_option maxRecDepth 100000 in
theorem ct_X4_feastOf (l : Launch) (g : sv_G) (A : Nat → Prop) (ty : Nat → Nat) (σ : Nat → Nat → Int) (hok : sv_ok ty σ) (hI : sv_inv sp_1 ty σ) (a : Nat) (k_a : ty a = 4) (y : Int) (hy : 1 ≤ y ∧ y ≤ 2000) (hP : pl_st σ a y) (v : Int) (hv : -11 ≤ v ∧ v ≤ -10) : sv_M l yX4_feastOf cX4_feastOf 3 (some (.object "SaintsRoad$Feast")) { frames := 0, cells := 0, slots := 0, locals := 0 } g A ty σ [sv_r a, sv_i v] (fun r σ' => σ = σ' ∧ r = [sv_a 0]) := by
  refine sv_enter (by decide) (Nat.le_of_ble_eq_true rfl) ?_
  intro p e s m args below meth c C hr
  have C : sv_C g A RX4 cX4_feastOf 3 p s m args meth c := C
  have hr : meth.sig.returnType = (some (.object "SaintsRoad$Feast")) := hr
  refine sv_same (st2 := []) (lv2 := [(0, sv_r a), (1, sv_i v)]) rfl rfl ?_
  refine sv_go C.1 C.2.1 [(.iload_n 1, 1), (.bipush (-20), 2)] (pc' := 3) (by decide +kernel) rfl (lv' := [(0, sv_r a), (1, sv_i v)]) (st' := [sv_i ((-20)), sv_i v]) rfl ?_
  refine sv_icmp_t C.1 C.2.1 (cnd := .gt) (off := 10) (tgt := 13) (by decide +kernel) (by decide) ⟨by omega, by omega⟩ ⟨by omega, by omega⟩ (show ((-20)) < v by omega) ?_
  refine sv_go C.1 C.2.1 [(.iload_n 1, 1), (.istore_n 2, 1), (.iload_n 2, 1)] (pc' := 16) (by decide +kernel) rfl (lv' := [(0, sv_r a), (1, sv_i v), (2, sv_i v)]) (st' := [sv_i v]) rfl ?_
  refine sv_if_t C.1 C.2.1 (cnd := .lt) (off := 26) (tgt := 42) (by decide +kernel) (by decide) ⟨by omega, by omega⟩ (show v < 0 by omega) ?_
  refine sv_go C.1 C.2.1 [(.aconst_null, 1)] (pc' := 43) (by decide +kernel) rfl (lv' := [(0, sv_r a), (1, sv_i v), (2, sv_i v)]) (st' := [sv_a 0]) rfl ?_
  exact sv_aret C hr (Or.inl ⟨_, rfl⟩) (by decide +kernel) hok (⟨rfl, rfl⟩)

theorem ml_X4_135 : Cond.methodLink RX4 135 yX4_officeOf ∈ lw_good := sv_mem 784 (by decide +kernel) rfl
theorem co_X4_officeOf : Cond.code yX4_officeOf cX4_officeOf 4 (some .int) ∈ lw_good := sv_mem 739 (by decide +kernel) rfl
theorem im_X4_officeOf : Cond.instanceMethod yX4_officeOf ∈ lw_good := sv_mem 737 (by decide +kernel) rfl
theorem se_X4_officeOf : Cond.selects RX4 yX4_officeOf yX4_officeOf ∈ lw_good := sv_mem 738 (by decide +kernel) rfl
theorem ml_X4_138 : Cond.methodLink RX4 138 yX4_feastOf ∈ lw_good := sv_mem 785 (by decide +kernel) rfl
theorem co_X4_feastOf : Cond.code yX4_feastOf cX4_feastOf 3 (some (.object "SaintsRoad$Feast")) ∈ lw_good := sv_mem 788 (by decide +kernel) rfl
theorem im_X4_feastOf : Cond.instanceMethod yX4_feastOf ∈ lw_good := sv_mem 787 (by decide +kernel) rfl
theorem se_X4_feastOf : Cond.selects RX4 yX4_feastOf yX4_feastOf ∈ lw_good := sv_mem 30 (by decide +kernel) rfl
set_option maxHeartbeats 4000000 in
set_option maxRecDepth 100000 in
theorem ct_X4_waxOf (l : Launch) (g : sv_G) (A : Nat → Prop) (ty : Nat → Nat) (σ : Nat → Nat → Int) (hok : sv_ok ty σ) (hI : sv_inv sp_1 ty σ) (a : Nat) (k_a : ty a = 4) (y : Int) (hy : 1 ≤ y ∧ y ≤ 2000) (hP : pl_st σ a y) (d : Int) (hd : 0 ≤ d ∧ d ≤ 366) : sv_M l yX4_waxOf cX4_waxOf 5 (some .int) { frames := 4, cells := 0, slots := 0, locals := 85 } g A ty σ [sv_r a, sv_i d] (fun r σ' => σ = σ' ∧ r = [sv_i 0]) := by
  refine sv_enter (by decide) (Nat.le_of_ble_eq_true rfl) ?_
  intro p e s m args below meth c C hr
  have C : sv_C g A RX4 cX4_waxOf 5 p s m args meth c := C
  have hr : meth.sig.returnType = (some .int) := hr
  refine sv_same (st2 := []) (lv2 := [(0, sv_r a), (1, sv_i d)]) rfl rfl ?_
  refine sv_go C.1 C.2.1 [(.aload_n 0, 1), (.iload_n 1, 1)] (pc' := 2) (by decide +kernel) rfl (lv' := [(0, sv_r a), (1, sv_i d)]) (st' := [sv_i d, sv_r a]) rfl ?_
  refine sv_cv C (index := 135) (k := 1) (rest := []) (ci := 3) (r := (RX4, TX4, 11)) (by decide +kernel) (ct_X4_officeOf l g A ty σ hok hI a k_a (y) ⟨by omega, by omega⟩ hP (d) ⟨by omega, by omega⟩) ⟨co_X4_officeOf, in_X4, ⟨by decide, by decide, by decide +kernel⟩, Nat.le_of_ble_eq_true rfl, Nat.le_of_ble_eq_true rfl⟩ ml_X4_135 im_X4_officeOf se_X4_officeOf (by rw [k_a]; rfl) rfl rfl rfl (Nat.le_of_ble_eq_true rfl) ⟨Nat.zero_le _, Nat.zero_le _⟩ (fun r2 σ3 hpo1 hok4 => ?_)
  obtain ⟨rfl, rfl⟩ := hpo1
  have ho5 := fx_of_in y d
  refine sv_same (st2 := [sv_i (fx_of y d)]) (lv2 := [(0, sv_r a), (1, sv_i d)]) rfl rfl ?_
  refine sv_go C.1 C.2.1 [(.istore_n 2, 1), (.aload_n 0, 1), (.iload_n 2, 1)] (pc' := 8) (by decide +kernel) rfl (lv' := [(0, sv_r a), (1, sv_i d), (2, sv_i (fx_of y d))]) (st' := [sv_i (fx_of y d), sv_r a]) rfl ?_
  refine sv_cv C (index := 138) (k := 1) (rest := []) (ci := 3) (r := (RX4, TX4, 11)) (by decide +kernel) (ct_X4_feastOf l g A ty σ hok4 hI a k_a (y) ⟨by omega, by omega⟩ hP (fx_of y d) ⟨by omega, by omega⟩) ⟨co_X4_feastOf, in_X4, ⟨by decide, by decide, by decide +kernel⟩, Nat.le_of_ble_eq_true rfl, Nat.le_of_ble_eq_true rfl⟩ ml_X4_138 im_X4_feastOf se_X4_feastOf (by rw [k_a]; rfl) rfl rfl rfl (Nat.le_of_ble_eq_true rfl) ⟨Nat.zero_le _, Nat.zero_le _⟩ (fun r7 σ8 hpo6 hok9 => ?_)
  obtain ⟨rfl, rfl⟩ := hpo6
  refine sv_same (st2 := [sv_a 0]) (lv2 := [(0, sv_r a), (1, sv_i d), (2, sv_i (fx_of y d))]) rfl rfl ?_
  refine sv_go C.1 C.2.1 [(.astore_n 3, 1), (.aload_n 3, 1)] (pc' := 13) (by decide +kernel) rfl (lv' := [(0, sv_r a), (1, sv_i d), (2, sv_i (fx_of y d)), (3, sv_a 0)]) (st' := [sv_a 0]) rfl ?_
  refine sv_ifnonnull C.1 C.2.1 (off := 5) (tgt := 18) (by decide +kernel) (by decide) (by omega) (fun (h10 : 0 < 0) => absurd h10 (by omega)) (fun _ => ?_)
  refine sv_go C.1 C.2.1 [(.iconst 0, 1)] (pc' := 17) (by decide +kernel) rfl (lv' := [(0, sv_r a), (1, sv_i d), (2, sv_i (fx_of y d)), (3, sv_a 0)]) (st' := [sv_i 0]) rfl ?_
  exact sv_iret C hr (by decide +kernel) hok9 (⟨rfl, rfl⟩)

set_option maxHeartbeats 4000000 in
set_option maxRecDepth 100000 in
theorem ct_X4_firstHeld (l : Launch) (g : sv_G) (A : Nat → Prop) (ty : Nat → Nat) (σ : Nat → Nat → Int) (hok : sv_ok ty σ) (hI : sv_inv sp_1 ty σ) (a : Nat) (k_a : ty a = 4) (y : Int) (hy : 1 ≤ y ∧ y ≤ 2000) (hP : pl_st σ a y) (v1 : Int) (hv1 : sv_in v1) (v2 : Int) (hv2 : sv_in v2) : sv_M l yX4_firstHeld cX4_firstHeld 6 (some .int) { frames := 0, cells := 0, slots := 0, locals := 0 } g A ty σ [sv_r a, sv_i v1, sv_i v2] (fun r σ' => σ = σ' ∧ r = [sv_i (-1)]) := by
  refine sv_enter (by decide) (Nat.le_of_ble_eq_true rfl) ?_
  intro p e s m args below meth c C hr
  have C : sv_C g A RX4 cX4_firstHeld 6 p s m args meth c := C
  have hr : meth.sig.returnType = (some .int) := hr
  refine sv_same (st2 := []) (lv2 := [(0, sv_r a), (1, sv_i v1), (2, sv_i v2)]) rfl rfl ?_
  refine sv_go C.1 C.2.1 [(.iconst (-1), 1), (.istore_n 3, 1), (.iconst 0, 1), (.istore 4, 2), (.iload 4, 2), (.aload_n 0, 1)] (pc' := 8) (by decide +kernel) rfl (lv' := [(0, sv_r a), (1, sv_i v1), (2, sv_i v2), (3, sv_i ((-1))), (4, sv_i 0)]) (st' := [sv_r a, sv_i 0]) rfl ?_
  obtain ⟨q1, eq1, kq1⟩ := hI.ref (k := 2) k_a rfl
  refine sv_gf C (index := 21) (ci := 3) (k := 2) (r := (RX4, TX4, 11)) (v := sv_r q1) (by decide +kernel) (by rw [k_a]; rfl) rfl (by decide) fl_X4_21 (congrArg sv_a eq1) ?_
  have t2 : σ q1 2 = 0 := by have q := hI.num (k := 2) kq1 rfl; omega
  refine sv_gf C (index := 75) (ci := 1) (k := 2) (r := (RX1, TX1, 6)) (v := sv_i 0) (by decide +kernel) (by rw [kq1]; rfl) rfl (by decide) fl_X4_75 (congrArg sv_i t2) ?_
  refine sv_icmp_t C.1 C.2.1 (cnd := .ge) (off := 72) (tgt := 86) (by decide +kernel) (by decide) ⟨by omega, by omega⟩ ⟨by omega, by omega⟩ (show 0 ≤ 0 by omega) ?_
  refine sv_go C.1 C.2.1 [(.iload_n 3, 1)] (pc' := 87) (by decide +kernel) rfl (lv' := [(0, sv_r a), (1, sv_i v1), (2, sv_i v2), (3, sv_i ((-1))), (4, sv_i 0)]) (st' := [sv_i ((-1))]) rfl ?_
  exact sv_iret C hr (by decide +kernel) hok (⟨rfl, rfl⟩)

set_option maxHeartbeats 4000000 in
set_option maxRecDepth 100000 in
theorem ct_X4_isAlike (l : Launch) (g : sv_G) (A : Nat → Prop) (ty : Nat → Nat) (σ : Nat → Nat → Int) (hok : sv_ok ty σ) (hI : sv_inv sp_1 ty σ) (a : Nat) (k_a : ty a = 4) (y : Int) (hy : 1 ≤ y ∧ y ≤ 2000) (hP : pl_st σ a y) (b : Nat) (k_b : ty b = 4) (hR : pl_st σ b y) (d : Int) (hd : 0 ≤ d ∧ d ≤ 366) : sv_M l yX4_isAlike cX4_isAlike 7 (some .boolean) { frames := 4, cells := 0, slots := 0, locals := 85 } g A ty σ [sv_r a, sv_r b, sv_i d] (fun r σ' => σ = σ' ∧ r = [sv_i 1]) := by
  refine sv_enter (by decide) (Nat.le_of_ble_eq_true rfl) ?_
  intro p e s m args below meth c C hr
  have C : sv_C g A RX4 cX4_isAlike 7 p s m args meth c := C
  have hr : meth.sig.returnType = (some .boolean) := hr
  refine sv_same (st2 := []) (lv2 := [(0, sv_r a), (1, sv_r b), (2, sv_i d)]) rfl rfl ?_
  refine sv_go C.1 C.2.1 [(.aload_n 0, 1), (.iload_n 2, 1)] (pc' := 2) (by decide +kernel) rfl (lv' := [(0, sv_r a), (1, sv_r b), (2, sv_i d)]) (st' := [sv_i d, sv_r a]) rfl ?_
  refine sv_cv C (index := 135) (k := 1) (rest := []) (ci := 3) (r := (RX4, TX4, 11)) (by decide +kernel) (ct_X4_officeOf l g A ty σ hok hI a k_a (y) ⟨by omega, by omega⟩ hP (d) ⟨by omega, by omega⟩) ⟨co_X4_officeOf, in_X4, ⟨by decide, by decide, by decide +kernel⟩, Nat.le_of_ble_eq_true rfl, Nat.le_of_ble_eq_true rfl⟩ ml_X4_135 im_X4_officeOf se_X4_officeOf (by rw [k_a]; rfl) rfl rfl rfl (Nat.le_of_ble_eq_true rfl) ⟨Nat.zero_le _, Nat.zero_le _⟩ (fun r2 σ3 hpo1 hok4 => ?_)
  obtain ⟨rfl, rfl⟩ := hpo1
  have ho5 := fx_of_in y d
  refine sv_same (st2 := [sv_i (fx_of y d)]) (lv2 := [(0, sv_r a), (1, sv_r b), (2, sv_i d)]) rfl rfl ?_
  refine sv_go C.1 C.2.1 [(.istore_n 3, 1), (.aload_n 1, 1), (.iload_n 2, 1)] (pc' := 8) (by decide +kernel) rfl (lv' := [(0, sv_r a), (1, sv_r b), (2, sv_i d), (3, sv_i (fx_of y d))]) (st' := [sv_i d, sv_r b]) rfl ?_
  refine sv_cv C (index := 135) (k := 1) (rest := []) (ci := 3) (r := (RX4, TX4, 11)) (by decide +kernel) (ct_X4_officeOf l g A ty σ hok4 hI b k_b (y) ⟨by omega, by omega⟩ hR (d) ⟨by omega, by omega⟩) ⟨co_X4_officeOf, in_X4, ⟨by decide, by decide, by decide +kernel⟩, Nat.le_of_ble_eq_true rfl, Nat.le_of_ble_eq_true rfl⟩ ml_X4_135 im_X4_officeOf se_X4_officeOf (by rw [k_b]; rfl) rfl rfl rfl (Nat.le_of_ble_eq_true rfl) ⟨Nat.zero_le _, Nat.zero_le _⟩ (fun r7 σ8 hpo6 hok9 => ?_)
  obtain ⟨rfl, rfl⟩ := hpo6
  have ho10 := fx_of_in y d
  refine sv_same (st2 := [sv_i (fx_of y d)]) (lv2 := [(0, sv_r a), (1, sv_r b), (2, sv_i d), (3, sv_i (fx_of y d))]) rfl rfl ?_
  refine sv_go C.1 C.2.1 [(.istore 4, 2), (.aload_n 0, 1), (.iload_n 3, 1)] (pc' := 15) (by decide +kernel) rfl (lv' := [(0, sv_r a), (1, sv_r b), (2, sv_i d), (3, sv_i (fx_of y d)), (4, sv_i (fx_of y d))]) (st' := [sv_i (fx_of y d), sv_r a]) rfl ?_
  refine sv_cv C (index := 138) (k := 1) (rest := []) (ci := 3) (r := (RX4, TX4, 11)) (by decide +kernel) (ct_X4_feastOf l g A ty σ hok9 hI a k_a (y) ⟨by omega, by omega⟩ hP (fx_of y d) ⟨by omega, by omega⟩) ⟨co_X4_feastOf, in_X4, ⟨by decide, by decide, by decide +kernel⟩, Nat.le_of_ble_eq_true rfl, Nat.le_of_ble_eq_true rfl⟩ ml_X4_138 im_X4_feastOf se_X4_feastOf (by rw [k_a]; rfl) rfl rfl rfl (Nat.le_of_ble_eq_true rfl) ⟨Nat.zero_le _, Nat.zero_le _⟩ (fun r12 σ13 hpo11 hok14 => ?_)
  obtain ⟨rfl, rfl⟩ := hpo11
  refine sv_same (st2 := [sv_a 0]) (lv2 := [(0, sv_r a), (1, sv_r b), (2, sv_i d), (3, sv_i (fx_of y d)), (4, sv_i (fx_of y d))]) rfl rfl ?_
  refine sv_go C.1 C.2.1 [(.astore 5, 2), (.aload_n 1, 1), (.iload 4, 2)] (pc' := 23) (by decide +kernel) rfl (lv' := [(0, sv_r a), (1, sv_r b), (2, sv_i d), (3, sv_i (fx_of y d)), (4, sv_i (fx_of y d)), (5, sv_a 0)]) (st' := [sv_i (fx_of y d), sv_r b]) rfl ?_
  refine sv_cv C (index := 138) (k := 1) (rest := []) (ci := 3) (r := (RX4, TX4, 11)) (by decide +kernel) (ct_X4_feastOf l g A ty σ hok14 hI b k_b (y) ⟨by omega, by omega⟩ hR (fx_of y d) ⟨by omega, by omega⟩) ⟨co_X4_feastOf, in_X4, ⟨by decide, by decide, by decide +kernel⟩, Nat.le_of_ble_eq_true rfl, Nat.le_of_ble_eq_true rfl⟩ ml_X4_138 im_X4_feastOf se_X4_feastOf (by rw [k_b]; rfl) rfl rfl rfl (Nat.le_of_ble_eq_true rfl) ⟨Nat.zero_le _, Nat.zero_le _⟩ (fun r16 σ17 hpo15 hok18 => ?_)
  obtain ⟨rfl, rfl⟩ := hpo15
  refine sv_same (st2 := [sv_a 0]) (lv2 := [(0, sv_r a), (1, sv_r b), (2, sv_i d), (3, sv_i (fx_of y d)), (4, sv_i (fx_of y d)), (5, sv_a 0)]) rfl rfl ?_
  refine sv_go C.1 C.2.1 [(.astore 6, 2), (.aload 5, 2)] (pc' := 30) (by decide +kernel) rfl (lv' := [(0, sv_r a), (1, sv_r b), (2, sv_i d), (3, sv_i (fx_of y d)), (4, sv_i (fx_of y d)), (5, sv_a 0), (6, sv_a 0)]) (st' := [sv_a 0]) rfl ?_
  refine sv_ifnull C.1 C.2.1 (off := 8) (tgt := 38) (by decide +kernel) (by decide) (by omega) (fun _ => ?_) (fun (h19 : 0 < 0) => absurd h19 (by omega))
  refine sv_go C.1 C.2.1 [(.iload_n 3, 1), (.iload 4, 2)] (pc' := 41) (by decide +kernel) rfl (lv' := [(0, sv_r a), (1, sv_r b), (2, sv_i d), (3, sv_i (fx_of y d)), (4, sv_i (fx_of y d)), (5, sv_a 0), (6, sv_a 0)]) (st' := [sv_i (fx_of y d), sv_i (fx_of y d)]) rfl ?_
  refine sv_icmp_f C.1 C.2.1 (cnd := .ne) (off := 7) (tgt := 48) (by decide +kernel) (by decide) ⟨by omega, by omega⟩ ⟨by omega, by omega⟩ (show ¬ ((fx_of y d) ≠ (fx_of y d)) by omega) ?_
  refine sv_go C.1 C.2.1 [(.iconst 1, 1)] (pc' := 45) (by decide +kernel) rfl (lv' := [(0, sv_r a), (1, sv_r b), (2, sv_i d), (3, sv_i (fx_of y d)), (4, sv_i (fx_of y d)), (5, sv_a 0), (6, sv_a 0)]) (st' := [sv_i 1]) rfl ?_
  refine sv_goto C.1 C.2.1 (off := 4) (tgt := 49) (by decide +kernel) (by decide) ?_
  exact sv_zret C hr (by first | exact Or.inl rfl | exact Or.inr rfl | omega) (by decide +kernel) hok18 (⟨rfl, rfl⟩)
