theorem ml_X9_118 : Cond.methodLink RX9 118 yX4_settle ∈ lw_good := sv_mem 687 (by decide +kernel) rfl
theorem co_X4_settle : Cond.code yX4_settle cX4_settle 5 none ∈ lw_good := sv_mem 690 (by decide +kernel) rfl
theorem im_X4_settle : Cond.instanceMethod yX4_settle ∈ lw_good := sv_mem 688 (by decide +kernel) rfl
theorem se_X4_settle : Cond.selects RX4 yX4_settle yX4_settle ∈ lw_good := sv_mem 689 (by decide +kernel) rfl
theorem ml_X9_121 : Cond.methodLink RX9 121 yX4_officeOf ∈ lw_good := sv_mem 736 (by decide +kernel) rfl
set_option maxHeartbeats 4000000 in
set_option maxRecDepth 100000 in
theorem ct_X9_office (l : Launch) (g : sv_G) (A : Nat → Prop) (ty : Nat → Nat) (σ : Nat → Nat → Int) (hok : sv_ok ty σ) (hTA : ∀ q, ty q ≠ 0 → A q) (hI : sv_inv sp_1 ty σ) (hZ : sv_inv sp_0 ty σ) (a : Nat) (k_a : ty a = 1) (v1 : Int) (hv1 : sv_in v1) (y : Int) (hy : sv_in y) (d : Int) (hd : sv_in d) : sv_M l yX9_office cX9_office 4 (some .int) { frames := 4, cells := 0, slots := 0, locals := 87 } g A ty σ [sv_r a, sv_i v1, sv_i y, sv_i d] (fun r σ' => r = [sv_i (fx_office v1 y d)] ∧ sv_off [4, 25] ty σ σ') := by
  refine sv_enter (by decide) (Nat.le_of_ble_eq_true rfl) ?_
  intro p e s m args below meth c C hr
  have C : sv_C g A RX9 cX9_office 4 p s m args meth c := C
  have hr : meth.sig.returnType = (some .int) := hr
  have hF : sv_off [4, 25] ty σ σ := sv_off.rf
  have hlp := dy_lp_in y
  refine sv_same (st2 := []) (lv2 := [(0, sv_r a), (1, sv_i v1), (2, sv_i y), (3, sv_i d)]) rfl rfl ?_
  refine sv_go C.1 C.2.1 [(.iload_n 1, 1)] (pc' := 1) (by decide +kernel) rfl (lv' := [(0, sv_r a), (1, sv_i v1), (2, sv_i y), (3, sv_i d)]) (st' := [sv_i v1]) rfl ?_
  refine sv_cs C (index := 59) (k := 1) (rest := []) (by decide +kernel) (ct_X9_isPlace l g A ty σ hok (v1) ⟨by omega, by omega⟩) ⟨co_X9_isPlace, in_X9, ⟨by decide, by decide, by decide +kernel⟩, Nat.le_of_ble_eq_true rfl, Nat.le_of_ble_eq_true rfl⟩ ml_X9_59 st_X9_isPlace rfl rfl (Nat.le_of_ble_eq_true rfl) ⟨Nat.zero_le _, Nat.zero_le _⟩ (fun r2 σ3 hpo1 hok4 => ?_)
  obtain ⟨rfl, ⟨h5, rfl⟩ | ⟨h5, rfl⟩⟩ := hpo1
  · refine sv_same (st2 := [sv_i 1]) (lv2 := [(0, sv_r a), (1, sv_i v1), (2, sv_i y), (3, sv_i d)]) rfl rfl ?_
    refine sv_if_f C.1 C.2.1 (cnd := .eq) (off := 11) (tgt := 15) (by decide +kernel) (by decide) ⟨by omega, by omega⟩ (show ¬ (1 = 0) by omega) ?_
    refine sv_go C.1 C.2.1 [(.iload_n 2, 1), (.iload_n 3, 1)] (pc' := 9) (by decide +kernel) rfl (lv' := [(0, sv_r a), (1, sv_i v1), (2, sv_i y), (3, sv_i d)]) (st' := [sv_i d, sv_i y]) rfl ?_
    refine sv_cs C (index := 105) (k := 2) (rest := []) (by decide +kernel) (ct_X2_isDay l g A ty σ hok4 (y) ⟨by omega, by omega⟩ (d) ⟨by omega, by omega⟩) ⟨co_X2_isDay, in_X2, ⟨by decide, by decide, by decide +kernel⟩, Nat.le_of_ble_eq_true rfl, Nat.le_of_ble_eq_true rfl⟩ ml_X9_105 st_X2_isDay rfl rfl (Nat.le_of_ble_eq_true rfl) ⟨Nat.zero_le _, Nat.zero_le _⟩ (fun r7 σ8 hpo6 hok9 => ?_)
    obtain ⟨rfl, ⟨h10, rfl⟩ | ⟨h10, rfl⟩⟩ := hpo6
    · refine sv_same (st2 := [sv_i 1]) (lv2 := [(0, sv_r a), (1, sv_i v1), (2, sv_i y), (3, sv_i d)]) rfl rfl ?_
      refine sv_if_t C.1 C.2.1 (cnd := .ne) (off := 6) (tgt := 18) (by decide +kernel) (by decide) ⟨by omega, by omega⟩ (show 1 ≠ 0 by omega) ?_
      refine sv_go C.1 C.2.1 [(.aload_n 0, 1)] (pc' := 19) (by decide +kernel) rfl (lv' := [(0, sv_r a), (1, sv_i v1), (2, sv_i y), (3, sv_i d)]) (st' := [sv_r a]) rfl ?_
      obtain ⟨q11, eq11, kq11⟩ := hI.ref (k := 2) k_a rfl
      refine sv_gf C (index := 25) (ci := 8) (k := 2) (r := (RX9, TX9, 6)) (v := sv_r q11) (by decide +kernel) (by rw [k_a]; rfl) rfl (by decide) fl_X9_25 (congrArg sv_a eq11) ?_
      refine sv_go C.1 C.2.1 [(.iload_n 1, 1)] (pc' := 23) (by decide +kernel) rfl (lv' := [(0, sv_r a), (1, sv_i v1), (2, sv_i y), (3, sv_i d)]) (st' := [sv_i v1, sv_r q11]) rfl ?_
      refine sv_aa C (N := "SaintsRoad$Place") (by decide) (n := 4) (by decide +kernel) (by rw [kq11]; rfl) (by decide) (by omega) (by omega) ?_
      obtain ⟨q12, eq12, kq12⟩ := hI.ref (k := (v1 : Int).toNat) kq11 (by first | rfl | (show (if _ then _ else _) = _; rw [if_pos (by omega)]))
      rw [eq12]
      refine sv_go C.1 C.2.1 [(.iload_n 2, 1)] (pc' := 25) (by decide +kernel) rfl (lv' := [(0, sv_r a), (1, sv_i v1), (2, sv_i y), (3, sv_i d)]) (st' := [sv_i y, sv_r q12]) rfl ?_
      refine sv_cv C (index := 118) (k := 1) (rest := []) (ci := 3) (r := (RX4, TX4, 11)) (by decide +kernel) (ct_X4_settle l g A ty σ hok9 hTA hI q12 kq12 (y) ⟨by omega, by omega⟩ (Or.inl (by have z := hZ.num (k := 10) kq12 rfl; omega))) ⟨co_X4_settle, in_X4, ⟨by decide, by decide, by decide +kernel⟩, Nat.le_of_ble_eq_true rfl, Nat.le_of_ble_eq_true rfl⟩ ml_X9_118 im_X4_settle se_X4_settle (by rw [kq12]; rfl) rfl rfl rfl (Nat.le_of_ble_eq_true rfl) ⟨Nat.zero_le _, Nat.zero_le _⟩ (fun r14 σ15 hpo13 hok16 => ?_)
      obtain ⟨rfl, hIu17, hFu17, xu17, yu17, zu17⟩ := hpo13
      have hGu17 := hF.tr hFu17 (by decide)
      have t18 : σ15 a 2 = (q11 : Int) + 1 := (hFu17.at k_a (by decide)).trans eq11
      have t19 : σ15 q11 (v1 : Int).toNat = (q12 : Int) + 1 := (hFu17.at kq11 (by decide)).trans eq12
      refine sv_same (st2 := []) (lv2 := [(0, sv_r a), (1, sv_i v1), (2, sv_i y), (3, sv_i d)]) rfl rfl ?_
      refine sv_go C.1 C.2.1 [(.aload_n 0, 1)] (pc' := 29) (by decide +kernel) rfl (lv' := [(0, sv_r a), (1, sv_i v1), (2, sv_i y), (3, sv_i d)]) (st' := [sv_r a]) rfl ?_
      refine sv_gf C (index := 25) (ci := 8) (k := 2) (r := (RX9, TX9, 6)) (v := sv_r q11) (by decide +kernel) (by rw [k_a]; rfl) rfl (by decide) fl_X9_25 (congrArg sv_a t18) ?_
      refine sv_go C.1 C.2.1 [(.iload_n 1, 1)] (pc' := 33) (by decide +kernel) rfl (lv' := [(0, sv_r a), (1, sv_i v1), (2, sv_i y), (3, sv_i d)]) (st' := [sv_i v1, sv_r q11]) rfl ?_
      refine sv_aa C (N := "SaintsRoad$Place") (by decide) (n := 4) (by decide +kernel) (by rw [kq11]; rfl) (by decide) (by omega) (by omega) ?_
      rw [t19]
      refine sv_go C.1 C.2.1 [(.iload_n 3, 1)] (pc' := 35) (by decide +kernel) rfl (lv' := [(0, sv_r a), (1, sv_i v1), (2, sv_i y), (3, sv_i d)]) (st' := [sv_i d, sv_r q12]) rfl ?_
      refine sv_cv C (index := 121) (k := 1) (rest := []) (ci := 3) (r := (RX4, TX4, 11)) (by decide +kernel) (ct_X4_officeOf l g A ty σ15 hok16 hIu17 q12 kq12 (y) ⟨by omega, by omega⟩ xu17 (d) ⟨by omega, by omega⟩) ⟨co_X4_officeOf, in_X4, ⟨by decide, by decide, by decide +kernel⟩, Nat.le_of_ble_eq_true rfl, Nat.le_of_ble_eq_true rfl⟩ ml_X9_121 im_X4_officeOf se_X4_officeOf (by rw [kq12]; rfl) rfl rfl rfl (Nat.le_of_ble_eq_true rfl) ⟨Nat.zero_le _, Nat.zero_le _⟩ (fun r21 σ22 hpo20 hok23 => ?_)
      obtain ⟨rfl, rfl⟩ := hpo20
      have ho24 := fx_of_in y d
      refine sv_same (st2 := [sv_i (fx_of y d)]) (lv2 := [(0, sv_r a), (1, sv_i v1), (2, sv_i y), (3, sv_i d)]) rfl rfl ?_
      exact sv_iret C hr (by decide +kernel) hok23 (⟨congrArg (fun q => [sv_i q]) (by first | omega | (unfold fx_office; omega)), hGu17⟩)
    · refine sv_same (st2 := [sv_i 0]) (lv2 := [(0, sv_r a), (1, sv_i v1), (2, sv_i y), (3, sv_i d)]) rfl rfl ?_
      refine sv_if_f C.1 C.2.1 (cnd := .ne) (off := 6) (tgt := 18) (by decide +kernel) (by decide) ⟨by omega, by omega⟩ (show ¬ (0 ≠ 0) by omega) ?_
      refine sv_go C.1 C.2.1 [(.bipush (-2), 2)] (pc' := 17) (by decide +kernel) rfl (lv' := [(0, sv_r a), (1, sv_i v1), (2, sv_i y), (3, sv_i d)]) (st' := [sv_i ((-2))]) rfl ?_
      exact sv_iret C hr (by decide +kernel) hok9 (⟨congrArg (fun q => [sv_i q]) (by first | omega | (unfold fx_office; omega)), hF⟩)
  · refine sv_same (st2 := [sv_i 0]) (lv2 := [(0, sv_r a), (1, sv_i v1), (2, sv_i y), (3, sv_i d)]) rfl rfl ?_
    refine sv_if_t C.1 C.2.1 (cnd := .eq) (off := 11) (tgt := 15) (by decide +kernel) (by decide) ⟨by omega, by omega⟩ (show 0 = 0 by omega) ?_
    refine sv_go C.1 C.2.1 [(.bipush (-2), 2)] (pc' := 17) (by decide +kernel) rfl (lv' := [(0, sv_r a), (1, sv_i v1), (2, sv_i y), (3, sv_i d)]) (st' := [sv_i ((-2))]) rfl ?_
    exact sv_iret C hr (by decide +kernel) hok4 (⟨congrArg (fun q => [sv_i q]) (by first | omega | (unfold fx_office; omega)), hF⟩)

theorem ml_X9_131 : Cond.methodLink RX9 131 yX4_isFast ∈ lw_good := sv_mem 760 (by decide +kernel) rfl
theorem co_X4_isFast : Cond.code yX4_isFast cX4_isFast 3 (some .boolean) ∈ lw_good := sv_mem 763 (by decide +kernel) rfl
theorem im_X4_isFast : Cond.instanceMethod yX4_isFast ∈ lw_good := sv_mem 761 (by decide +kernel) rfl
theorem se_X4_isFast : Cond.selects RX4 yX4_isFast yX4_isFast ∈ lw_good := sv_mem 762 (by decide +kernel) rfl
set_option maxHeartbeats 4000000 in
set_option maxRecDepth 100000 in
theorem ct_X9_fast (l : Launch) (g : sv_G) (A : Nat → Prop) (ty : Nat → Nat) (σ : Nat → Nat → Int) (hok : sv_ok ty σ) (hTA : ∀ q, ty q ≠ 0 → A q) (hI : sv_inv sp_1 ty σ) (hZ : sv_inv sp_0 ty σ) (a : Nat) (k_a : ty a = 1) (v1 : Int) (hv1 : sv_in v1) (y : Int) (hy : sv_in y) (d : Int) (hd : sv_in d) : sv_M l yX9_fast cX9_fast 4 (some .int) { frames := 5, cells := 0, slots := 0, locals := 106 } g A ty σ [sv_r a, sv_i v1, sv_i y, sv_i d] (fun r σ' => r = [sv_i (fx_fast v1 y d)] ∧ sv_off [4, 25] ty σ σ') := by
  refine sv_enter (by decide) (Nat.le_of_ble_eq_true rfl) ?_
  intro p e s m args below meth c C hr
  have C : sv_C g A RX9 cX9_fast 4 p s m args meth c := C
  have hr : meth.sig.returnType = (some .int) := hr
  have hF : sv_off [4, 25] ty σ σ := sv_off.rf
  have hlp := dy_lp_in y
  refine sv_same (st2 := []) (lv2 := [(0, sv_r a), (1, sv_i v1), (2, sv_i y), (3, sv_i d)]) rfl rfl ?_
  refine sv_go C.1 C.2.1 [(.iload_n 1, 1)] (pc' := 1) (by decide +kernel) rfl (lv' := [(0, sv_r a), (1, sv_i v1), (2, sv_i y), (3, sv_i d)]) (st' := [sv_i v1]) rfl ?_
  refine sv_cs C (index := 59) (k := 1) (rest := []) (by decide +kernel) (ct_X9_isPlace l g A ty σ hok (v1) ⟨by omega, by omega⟩) ⟨co_X9_isPlace, in_X9, ⟨by decide, by decide, by decide +kernel⟩, Nat.le_of_ble_eq_true rfl, Nat.le_of_ble_eq_true rfl⟩ ml_X9_59 st_X9_isPlace rfl rfl (Nat.le_of_ble_eq_true rfl) ⟨Nat.zero_le _, Nat.zero_le _⟩ (fun r2 σ3 hpo1 hok4 => ?_)
  obtain ⟨rfl, ⟨h5, rfl⟩ | ⟨h5, rfl⟩⟩ := hpo1
  · refine sv_same (st2 := [sv_i 1]) (lv2 := [(0, sv_r a), (1, sv_i v1), (2, sv_i y), (3, sv_i d)]) rfl rfl ?_
    refine sv_if_f C.1 C.2.1 (cnd := .eq) (off := 11) (tgt := 15) (by decide +kernel) (by decide) ⟨by omega, by omega⟩ (show ¬ (1 = 0) by omega) ?_
    refine sv_go C.1 C.2.1 [(.iload_n 2, 1), (.iload_n 3, 1)] (pc' := 9) (by decide +kernel) rfl (lv' := [(0, sv_r a), (1, sv_i v1), (2, sv_i y), (3, sv_i d)]) (st' := [sv_i d, sv_i y]) rfl ?_
    refine sv_cs C (index := 105) (k := 2) (rest := []) (by decide +kernel) (ct_X2_isDay l g A ty σ hok4 (y) ⟨by omega, by omega⟩ (d) ⟨by omega, by omega⟩) ⟨co_X2_isDay, in_X2, ⟨by decide, by decide, by decide +kernel⟩, Nat.le_of_ble_eq_true rfl, Nat.le_of_ble_eq_true rfl⟩ ml_X9_105 st_X2_isDay rfl rfl (Nat.le_of_ble_eq_true rfl) ⟨Nat.zero_le _, Nat.zero_le _⟩ (fun r7 σ8 hpo6 hok9 => ?_)
    obtain ⟨rfl, ⟨h10, rfl⟩ | ⟨h10, rfl⟩⟩ := hpo6
    · refine sv_same (st2 := [sv_i 1]) (lv2 := [(0, sv_r a), (1, sv_i v1), (2, sv_i y), (3, sv_i d)]) rfl rfl ?_
      refine sv_if_t C.1 C.2.1 (cnd := .ne) (off := 6) (tgt := 18) (by decide +kernel) (by decide) ⟨by omega, by omega⟩ (show 1 ≠ 0 by omega) ?_
      refine sv_go C.1 C.2.1 [(.aload_n 0, 1)] (pc' := 19) (by decide +kernel) rfl (lv' := [(0, sv_r a), (1, sv_i v1), (2, sv_i y), (3, sv_i d)]) (st' := [sv_r a]) rfl ?_
      obtain ⟨q11, eq11, kq11⟩ := hI.ref (k := 2) k_a rfl
      refine sv_gf C (index := 25) (ci := 8) (k := 2) (r := (RX9, TX9, 6)) (v := sv_r q11) (by decide +kernel) (by rw [k_a]; rfl) rfl (by decide) fl_X9_25 (congrArg sv_a eq11) ?_
      refine sv_go C.1 C.2.1 [(.iload_n 1, 1)] (pc' := 23) (by decide +kernel) rfl (lv' := [(0, sv_r a), (1, sv_i v1), (2, sv_i y), (3, sv_i d)]) (st' := [sv_i v1, sv_r q11]) rfl ?_
      refine sv_aa C (N := "SaintsRoad$Place") (by decide) (n := 4) (by decide +kernel) (by rw [kq11]; rfl) (by decide) (by omega) (by omega) ?_
      obtain ⟨q12, eq12, kq12⟩ := hI.ref (k := (v1 : Int).toNat) kq11 (by first | rfl | (show (if _ then _ else _) = _; rw [if_pos (by omega)]))
      rw [eq12]
      refine sv_go C.1 C.2.1 [(.iload_n 2, 1)] (pc' := 25) (by decide +kernel) rfl (lv' := [(0, sv_r a), (1, sv_i v1), (2, sv_i y), (3, sv_i d)]) (st' := [sv_i y, sv_r q12]) rfl ?_
      refine sv_cv C (index := 118) (k := 1) (rest := []) (ci := 3) (r := (RX4, TX4, 11)) (by decide +kernel) (ct_X4_settle l g A ty σ hok9 hTA hI q12 kq12 (y) ⟨by omega, by omega⟩ (Or.inl (by have z := hZ.num (k := 10) kq12 rfl; omega))) ⟨co_X4_settle, in_X4, ⟨by decide, by decide, by decide +kernel⟩, Nat.le_of_ble_eq_true rfl, Nat.le_of_ble_eq_true rfl⟩ ml_X9_118 im_X4_settle se_X4_settle (by rw [kq12]; rfl) rfl rfl rfl (Nat.le_of_ble_eq_true rfl) ⟨Nat.zero_le _, Nat.zero_le _⟩ (fun r14 σ15 hpo13 hok16 => ?_)
      obtain ⟨rfl, hIu17, hFu17, xu17, yu17, zu17⟩ := hpo13
      have hGu17 := hF.tr hFu17 (by decide)
      have t18 : σ15 a 2 = (q11 : Int) + 1 := (hFu17.at k_a (by decide)).trans eq11
      have t19 : σ15 q11 (v1 : Int).toNat = (q12 : Int) + 1 := (hFu17.at kq11 (by decide)).trans eq12
      refine sv_same (st2 := []) (lv2 := [(0, sv_r a), (1, sv_i v1), (2, sv_i y), (3, sv_i d)]) rfl rfl ?_
      refine sv_go C.1 C.2.1 [(.aload_n 0, 1)] (pc' := 29) (by decide +kernel) rfl (lv' := [(0, sv_r a), (1, sv_i v1), (2, sv_i y), (3, sv_i d)]) (st' := [sv_r a]) rfl ?_
      refine sv_gf C (index := 25) (ci := 8) (k := 2) (r := (RX9, TX9, 6)) (v := sv_r q11) (by decide +kernel) (by rw [k_a]; rfl) rfl (by decide) fl_X9_25 (congrArg sv_a t18) ?_
      refine sv_go C.1 C.2.1 [(.iload_n 1, 1)] (pc' := 33) (by decide +kernel) rfl (lv' := [(0, sv_r a), (1, sv_i v1), (2, sv_i y), (3, sv_i d)]) (st' := [sv_i v1, sv_r q11]) rfl ?_
      refine sv_aa C (N := "SaintsRoad$Place") (by decide) (n := 4) (by decide +kernel) (by rw [kq11]; rfl) (by decide) (by omega) (by omega) ?_
      rw [t19]
      refine sv_go C.1 C.2.1 [(.iload_n 3, 1)] (pc' := 35) (by decide +kernel) rfl (lv' := [(0, sv_r a), (1, sv_i v1), (2, sv_i y), (3, sv_i d)]) (st' := [sv_i d, sv_r q12]) rfl ?_
      refine sv_cv C (index := 131) (k := 1) (rest := []) (ci := 3) (r := (RX4, TX4, 11)) (by decide +kernel) (ct_X4_isFast l g A ty σ15 hok16 hIu17 q12 kq12 (y) ⟨by omega, by omega⟩ xu17 (d) ⟨by omega, by omega⟩) ⟨co_X4_isFast, in_X4, ⟨by decide, by decide, by decide +kernel⟩, Nat.le_of_ble_eq_true rfl, Nat.le_of_ble_eq_true rfl⟩ ml_X9_131 im_X4_isFast se_X4_isFast (by rw [kq12]; rfl) rfl rfl rfl (Nat.le_of_ble_eq_true rfl) ⟨Nat.zero_le _, Nat.zero_le _⟩ (fun r21 σ22 hpo20 hok23 => ?_)
      obtain ⟨rfl, hpo20⟩ := hpo20
      obtain rfl := sv_boF hpo20
      refine sv_same (st2 := [sv_i 0]) (lv2 := [(0, sv_r a), (1, sv_i v1), (2, sv_i y), (3, sv_i d)]) rfl rfl ?_
      refine sv_if_t C.1 C.2.1 (cnd := .eq) (off := 7) (tgt := 45) (by decide +kernel) (by decide) ⟨by omega, by omega⟩ (show 0 = 0 by omega) ?_
      refine sv_go C.1 C.2.1 [(.iconst 0, 1)] (pc' := 46) (by decide +kernel) rfl (lv' := [(0, sv_r a), (1, sv_i v1), (2, sv_i y), (3, sv_i d)]) (st' := [sv_i 0]) rfl ?_
      exact sv_iret C hr (by decide +kernel) hok23 (⟨congrArg (fun q => [sv_i q]) (by first | omega | (unfold fx_fast; omega)), hGu17⟩)
    · refine sv_same (st2 := [sv_i 0]) (lv2 := [(0, sv_r a), (1, sv_i v1), (2, sv_i y), (3, sv_i d)]) rfl rfl ?_
      refine sv_if_f C.1 C.2.1 (cnd := .ne) (off := 6) (tgt := 18) (by decide +kernel) (by decide) ⟨by omega, by omega⟩ (show ¬ (0 ≠ 0) by omega) ?_
      refine sv_go C.1 C.2.1 [(.bipush (-2), 2)] (pc' := 17) (by decide +kernel) rfl (lv' := [(0, sv_r a), (1, sv_i v1), (2, sv_i y), (3, sv_i d)]) (st' := [sv_i ((-2))]) rfl ?_
      exact sv_iret C hr (by decide +kernel) hok9 (⟨congrArg (fun q => [sv_i q]) (by first | omega | (unfold fx_fast; omega)), hF⟩)
  · refine sv_same (st2 := [sv_i 0]) (lv2 := [(0, sv_r a), (1, sv_i v1), (2, sv_i y), (3, sv_i d)]) rfl rfl ?_
    refine sv_if_t C.1 C.2.1 (cnd := .eq) (off := 11) (tgt := 15) (by decide +kernel) (by decide) ⟨by omega, by omega⟩ (show 0 = 0 by omega) ?_
    refine sv_go C.1 C.2.1 [(.bipush (-2), 2)] (pc' := 17) (by decide +kernel) rfl (lv' := [(0, sv_r a), (1, sv_i v1), (2, sv_i y), (3, sv_i d)]) (st' := [sv_i ((-2))]) rfl ?_
    exact sv_iret C hr (by decide +kernel) hok4 (⟨congrArg (fun q => [sv_i q]) (by first | omega | (unfold fx_fast; omega)), hF⟩)

theorem ml_X9_134 : Cond.methodLink RX9 134 yX4_waxOf ∈ lw_good := sv_mem 780 (by decide +kernel) rfl
theorem co_X4_waxOf : Cond.code yX4_waxOf cX4_waxOf 5 (some .int) ∈ lw_good := sv_mem 783 (by decide +kernel) rfl
theorem im_X4_waxOf : Cond.instanceMethod yX4_waxOf ∈ lw_good := sv_mem 781 (by decide +kernel) rfl
theorem se_X4_waxOf : Cond.selects RX4 yX4_waxOf yX4_waxOf ∈ lw_good := sv_mem 782 (by decide +kernel) rfl
set_option maxHeartbeats 4000000 in
set_option maxRecDepth 100000 in
theorem ct_X9_wax (l : Launch) (g : sv_G) (A : Nat → Prop) (ty : Nat → Nat) (σ : Nat → Nat → Int) (hok : sv_ok ty σ) (hTA : ∀ q, ty q ≠ 0 → A q) (hI : sv_inv sp_1 ty σ) (hZ : sv_inv sp_0 ty σ) (a : Nat) (k_a : ty a = 1) (v1 : Int) (hv1 : sv_in v1) (y : Int) (hy : sv_in y) (f : Int) (hf : sv_in f) (t : Int) (ht : sv_in t) : sv_M l yX9_wax cX9_wax 8 (some .int) { frames := 5, cells := 0, slots := 0, locals := 109 } g A ty σ [sv_r a, sv_i v1, sv_i y, sv_i f, sv_i t] (fun r σ' => r = [sv_i (fx_wax v1 y f t)] ∧ sv_off [4, 25] ty σ σ') := by
  refine sv_enter (by decide) (Nat.le_of_ble_eq_true rfl) ?_
  intro p e s m args below meth c C hr
  have C : sv_C g A RX9 cX9_wax 8 p s m args meth c := C
  have hr : meth.sig.returnType = (some .int) := hr
  have hF : sv_off [4, 25] ty σ σ := sv_off.rf
  have hlp := dy_lp_in y
  refine sv_same (st2 := []) (lv2 := [(0, sv_r a), (1, sv_i v1), (2, sv_i y), (3, sv_i f), (4, sv_i t)]) rfl rfl ?_
  refine sv_go C.1 C.2.1 [(.iload_n 1, 1)] (pc' := 1) (by decide +kernel) rfl (lv' := [(0, sv_r a), (1, sv_i v1), (2, sv_i y), (3, sv_i f), (4, sv_i t)]) (st' := [sv_i v1]) rfl ?_
  refine sv_cs C (index := 59) (k := 1) (rest := []) (by decide +kernel) (ct_X9_isPlace l g A ty σ hok (v1) ⟨by omega, by omega⟩) ⟨co_X9_isPlace, in_X9, ⟨by decide, by decide, by decide +kernel⟩, Nat.le_of_ble_eq_true rfl, Nat.le_of_ble_eq_true rfl⟩ ml_X9_59 st_X9_isPlace rfl rfl (Nat.le_of_ble_eq_true rfl) ⟨Nat.zero_le _, Nat.zero_le _⟩ (fun r2 σ3 hpo1 hok4 => ?_)
  obtain ⟨rfl, ⟨h5, rfl⟩ | ⟨h5, rfl⟩⟩ := hpo1
  · refine sv_same (st2 := [sv_i 1]) (lv2 := [(0, sv_r a), (1, sv_i v1), (2, sv_i y), (3, sv_i f), (4, sv_i t)]) rfl rfl ?_
    refine sv_if_f C.1 C.2.1 (cnd := .eq) (off := 26) (tgt := 30) (by decide +kernel) (by decide) ⟨by omega, by omega⟩ (show ¬ (1 = 0) by omega) ?_
    refine sv_go C.1 C.2.1 [(.iload_n 2, 1), (.iload_n 3, 1)] (pc' := 9) (by decide +kernel) rfl (lv' := [(0, sv_r a), (1, sv_i v1), (2, sv_i y), (3, sv_i f), (4, sv_i t)]) (st' := [sv_i f, sv_i y]) rfl ?_
    refine sv_cs C (index := 105) (k := 2) (rest := []) (by decide +kernel) (ct_X2_isDay l g A ty σ hok4 (y) ⟨by omega, by omega⟩ (f) ⟨by omega, by omega⟩) ⟨co_X2_isDay, in_X2, ⟨by decide, by decide, by decide +kernel⟩, Nat.le_of_ble_eq_true rfl, Nat.le_of_ble_eq_true rfl⟩ ml_X9_105 st_X2_isDay rfl rfl (Nat.le_of_ble_eq_true rfl) ⟨Nat.zero_le _, Nat.zero_le _⟩ (fun r7 σ8 hpo6 hok9 => ?_)
    obtain ⟨rfl, ⟨h10, rfl⟩ | ⟨h10, rfl⟩⟩ := hpo6
    · refine sv_same (st2 := [sv_i 1]) (lv2 := [(0, sv_r a), (1, sv_i v1), (2, sv_i y), (3, sv_i f), (4, sv_i t)]) rfl rfl ?_
      refine sv_if_f C.1 C.2.1 (cnd := .eq) (off := 18) (tgt := 30) (by decide +kernel) (by decide) ⟨by omega, by omega⟩ (show ¬ (1 = 0) by omega) ?_
      refine sv_go C.1 C.2.1 [(.iload_n 2, 1), (.iload 4, 2)] (pc' := 18) (by decide +kernel) rfl (lv' := [(0, sv_r a), (1, sv_i v1), (2, sv_i y), (3, sv_i f), (4, sv_i t)]) (st' := [sv_i t, sv_i y]) rfl ?_
      refine sv_cs C (index := 105) (k := 2) (rest := []) (by decide +kernel) (ct_X2_isDay l g A ty σ hok9 (y) ⟨by omega, by omega⟩ (t) ⟨by omega, by omega⟩) ⟨co_X2_isDay, in_X2, ⟨by decide, by decide, by decide +kernel⟩, Nat.le_of_ble_eq_true rfl, Nat.le_of_ble_eq_true rfl⟩ ml_X9_105 st_X2_isDay rfl rfl (Nat.le_of_ble_eq_true rfl) ⟨Nat.zero_le _, Nat.zero_le _⟩ (fun r12 σ13 hpo11 hok14 => ?_)
      obtain ⟨rfl, ⟨h15, rfl⟩ | ⟨h15, rfl⟩⟩ := hpo11
      · refine sv_same (st2 := [sv_i 1]) (lv2 := [(0, sv_r a), (1, sv_i v1), (2, sv_i y), (3, sv_i f), (4, sv_i t)]) rfl rfl ?_
        refine sv_if_f C.1 C.2.1 (cnd := .eq) (off := 9) (tgt := 30) (by decide +kernel) (by decide) ⟨by omega, by omega⟩ (show ¬ (1 = 0) by omega) ?_
        refine sv_go C.1 C.2.1 [(.iload_n 3, 1), (.iload 4, 2)] (pc' := 27) (by decide +kernel) rfl (lv' := [(0, sv_r a), (1, sv_i v1), (2, sv_i y), (3, sv_i f), (4, sv_i t)]) (st' := [sv_i t, sv_i f]) rfl ?_
        refine sv_icmp C.1 C.2.1 (cnd := .le) (off := 6) (tgt := 33) (by decide +kernel) (by decide) ⟨by omega, by omega⟩ ⟨by omega, by omega⟩ (fun (h16 : f ≤ t) => ?_) (fun (h16 : ¬ (f ≤ t)) => ?_)
        · refine sv_go C.1 C.2.1 [(.aload_n 0, 1)] (pc' := 34) (by decide +kernel) rfl (lv' := [(0, sv_r a), (1, sv_i v1), (2, sv_i y), (3, sv_i f), (4, sv_i t)]) (st' := [sv_r a]) rfl ?_
          obtain ⟨q17, eq17, kq17⟩ := hI.ref (k := 2) k_a rfl
          refine sv_gf C (index := 25) (ci := 8) (k := 2) (r := (RX9, TX9, 6)) (v := sv_r q17) (by decide +kernel) (by rw [k_a]; rfl) rfl (by decide) fl_X9_25 (congrArg sv_a eq17) ?_
          refine sv_go C.1 C.2.1 [(.iload_n 1, 1)] (pc' := 38) (by decide +kernel) rfl (lv' := [(0, sv_r a), (1, sv_i v1), (2, sv_i y), (3, sv_i f), (4, sv_i t)]) (st' := [sv_i v1, sv_r q17]) rfl ?_
          refine sv_aa C (N := "SaintsRoad$Place") (by decide) (n := 4) (by decide +kernel) (by rw [kq17]; rfl) (by decide) (by omega) (by omega) ?_
          obtain ⟨q18, eq18, kq18⟩ := hI.ref (k := (v1 : Int).toNat) kq17 (by first | rfl | (show (if _ then _ else _) = _; rw [if_pos (by omega)]))
          rw [eq18]
          refine sv_go C.1 C.2.1 [(.astore 5, 2), (.aload 5, 2), (.iload_n 2, 1)] (pc' := 44) (by decide +kernel) rfl (lv' := [(0, sv_r a), (1, sv_i v1), (2, sv_i y), (3, sv_i f), (4, sv_i t), (5, sv_r q18)]) (st' := [sv_i y, sv_r q18]) rfl ?_
          refine sv_cv C (index := 118) (k := 1) (rest := []) (ci := 3) (r := (RX4, TX4, 11)) (by decide +kernel) (ct_X4_settle l g A ty σ hok14 hTA hI q18 kq18 (y) ⟨by omega, by omega⟩ (Or.inl (by have z := hZ.num (k := 10) kq18 rfl; omega))) ⟨co_X4_settle, in_X4, ⟨by decide, by decide, by decide +kernel⟩, Nat.le_of_ble_eq_true rfl, Nat.le_of_ble_eq_true rfl⟩ ml_X9_118 im_X4_settle se_X4_settle (by rw [kq18]; rfl) rfl rfl rfl (Nat.le_of_ble_eq_true rfl) ⟨Nat.zero_le _, Nat.zero_le _⟩ (fun r20 σ21 hpo19 hok22 => ?_)
          obtain ⟨rfl, hIu23, hFu23, xu23, yu23, zu23⟩ := hpo19
          have hGu23 := hF.tr hFu23 (by decide)
          have t24 : σ21 a 2 = (q17 : Int) + 1 := (hFu23.at k_a (by decide)).trans eq17
          have t25 : σ21 q17 (v1 : Int).toNat = (q18 : Int) + 1 := (hFu23.at kq17 (by decide)).trans eq18
          refine sv_same (st2 := []) (lv2 := [(0, sv_r a), (1, sv_i v1), (2, sv_i y), (3, sv_i f), (4, sv_i t), (5, sv_r q18)]) rfl rfl ?_
          refine sv_go C.1 C.2.1 [(.iconst 0, 1), (.istore 6, 2), (.iload_n 3, 1), (.istore 7, 2)] (pc' := 53) (by decide +kernel) rfl (lv' := [(0, sv_r a), (1, sv_i v1), (2, sv_i y), (3, sv_i f), (4, sv_i t), (5, sv_r q18), (6, sv_i 0), (7, sv_i f)]) (st' := []) rfl ?_
          have L26 : ∀ (n : Nat) (N : Int) (X : Int) , (N = 0) → (f ≤ X ∧ X ≤ t + 1) → (t + 1 - X) < (n : Int) → sv_E p l e { frames := 5, cells := 0, slots := 0, locals := 109 } s m args below meth c 8 g A ty (fun r σ' => r = [sv_i (fx_wax v1 y f t)] ∧ sv_off [4, 25] ty σ σ') σ21 53 [(0, sv_r a), (1, sv_i v1), (2, sv_i y), (3, sv_i f), (4, sv_i t), (5, sv_r q18), (6, sv_i N), (7, sv_i X)] [] := by
            intro n
            induction n with
            | zero => intro N X  hN hX hmu; exact absurd hmu (by omega)
            | succ n ih27 =>
              intro N X  hN hX hmu
              refine sv_go C.1 C.2.1 [(.iload 7, 2), (.iload 4, 2)] (pc' := 57) (by decide +kernel) rfl (lv' := [(0, sv_r a), (1, sv_i v1), (2, sv_i y), (3, sv_i f), (4, sv_i t), (5, sv_r q18), (6, sv_i N), (7, sv_i X)]) (st' := [sv_i t, sv_i X]) rfl ?_
              refine sv_icmp C.1 C.2.1 (cnd := .gt) (off := 21) (tgt := 78) (by decide +kernel) (by decide) ⟨by omega, by omega⟩ ⟨by omega, by omega⟩ (fun (h28 : t < X) => ?_) (fun (h28 : ¬ (t < X)) => ?_)
              · refine sv_go C.1 C.2.1 [(.iload 6, 2)] (pc' := 80) (by decide +kernel) rfl (lv' := [(0, sv_r a), (1, sv_i v1), (2, sv_i y), (3, sv_i f), (4, sv_i t), (5, sv_r q18), (6, sv_i N), (7, sv_i X)]) (st' := [sv_i N]) rfl ?_
                exact sv_iret C hr (by decide +kernel) hok22 (⟨congrArg (fun q => [sv_i q]) (by first | omega | (unfold fx_wax; omega)), hGu23⟩)
              · refine sv_go C.1 C.2.1 [(.iload 6, 2), (.aload 5, 2), (.iload 7, 2)] (pc' := 66) (by decide +kernel) rfl (lv' := [(0, sv_r a), (1, sv_i v1), (2, sv_i y), (3, sv_i f), (4, sv_i t), (5, sv_r q18), (6, sv_i N), (7, sv_i X)]) (st' := [sv_i X, sv_r q18, sv_i N]) rfl ?_
                refine sv_cv C (index := 134) (k := 1) (rest := [sv_i N]) (ci := 3) (r := (RX4, TX4, 11)) (by decide +kernel) (ct_X4_waxOf l g A ty σ21 hok22 hIu23 q18 kq18 (y) ⟨by omega, by omega⟩ xu23 (X) ⟨by omega, by omega⟩) ⟨co_X4_waxOf, in_X4, ⟨by decide, by decide, by decide +kernel⟩, Nat.le_of_ble_eq_true rfl, Nat.le_of_ble_eq_true rfl⟩ ml_X9_134 im_X4_waxOf se_X4_waxOf (by rw [kq18]; rfl) rfl rfl rfl (Nat.le_of_ble_eq_true rfl) ⟨Nat.zero_le _, Nat.zero_le _⟩ (fun r30 σ31 hpo29 hok32 => ?_)
                obtain ⟨rfl, rfl⟩ := hpo29
                refine sv_same (st2 := [sv_i 0, sv_i N]) (lv2 := [(0, sv_r a), (1, sv_i v1), (2, sv_i y), (3, sv_i f), (4, sv_i t), (5, sv_r q18), (6, sv_i N), (7, sv_i X)]) rfl rfl ?_
                refine sv_go C.1 C.2.1 [(.iadd, 1), (.istore 6, 2), (.iinc 7 1, 3)] (pc' := 75) (by decide +kernel) rfl (lv' := [(0, sv_r a), (1, sv_i v1), (2, sv_i y), (3, sv_i f), (4, sv_i t), (5, sv_r q18), (6, sv_i (N + 0)), (7, sv_i (X + 1))]) (st' := []) rfl ?_
                refine sv_goto C.1 C.2.1 (off := (-22)) (tgt := 53) (by decide +kernel) (by decide) ?_
                exact ih27 (N + 0) (X + 1)  (by omega) (by omega) (by omega)
          exact L26 (((t + 1 - f : Int)).toNat + 1) 0 f  (by omega) (by omega) (by omega)
        · refine sv_go C.1 C.2.1 [(.bipush (-2), 2)] (pc' := 32) (by decide +kernel) rfl (lv' := [(0, sv_r a), (1, sv_i v1), (2, sv_i y), (3, sv_i f), (4, sv_i t)]) (st' := [sv_i ((-2))]) rfl ?_
          exact sv_iret C hr (by decide +kernel) hok14 (⟨congrArg (fun q => [sv_i q]) (by first | omega | (unfold fx_wax; omega)), hF⟩)
      · refine sv_same (st2 := [sv_i 0]) (lv2 := [(0, sv_r a), (1, sv_i v1), (2, sv_i y), (3, sv_i f), (4, sv_i t)]) rfl rfl ?_
        refine sv_if_t C.1 C.2.1 (cnd := .eq) (off := 9) (tgt := 30) (by decide +kernel) (by decide) ⟨by omega, by omega⟩ (show 0 = 0 by omega) ?_
        refine sv_go C.1 C.2.1 [(.bipush (-2), 2)] (pc' := 32) (by decide +kernel) rfl (lv' := [(0, sv_r a), (1, sv_i v1), (2, sv_i y), (3, sv_i f), (4, sv_i t)]) (st' := [sv_i ((-2))]) rfl ?_
        exact sv_iret C hr (by decide +kernel) hok14 (⟨congrArg (fun q => [sv_i q]) (by first | omega | (unfold fx_wax; omega)), hF⟩)
    · refine sv_same (st2 := [sv_i 0]) (lv2 := [(0, sv_r a), (1, sv_i v1), (2, sv_i y), (3, sv_i f), (4, sv_i t)]) rfl rfl ?_
      refine sv_if_t C.1 C.2.1 (cnd := .eq) (off := 18) (tgt := 30) (by decide +kernel) (by decide) ⟨by omega, by omega⟩ (show 0 = 0 by omega) ?_
      refine sv_go C.1 C.2.1 [(.bipush (-2), 2)] (pc' := 32) (by decide +kernel) rfl (lv' := [(0, sv_r a), (1, sv_i v1), (2, sv_i y), (3, sv_i f), (4, sv_i t)]) (st' := [sv_i ((-2))]) rfl ?_
      exact sv_iret C hr (by decide +kernel) hok9 (⟨congrArg (fun q => [sv_i q]) (by first | omega | (unfold fx_wax; omega)), hF⟩)
  · refine sv_same (st2 := [sv_i 0]) (lv2 := [(0, sv_r a), (1, sv_i v1), (2, sv_i y), (3, sv_i f), (4, sv_i t)]) rfl rfl ?_
    refine sv_if_t C.1 C.2.1 (cnd := .eq) (off := 26) (tgt := 30) (by decide +kernel) (by decide) ⟨by omega, by omega⟩ (show 0 = 0 by omega) ?_
    refine sv_go C.1 C.2.1 [(.bipush (-2), 2)] (pc' := 32) (by decide +kernel) rfl (lv' := [(0, sv_r a), (1, sv_i v1), (2, sv_i y), (3, sv_i f), (4, sv_i t)]) (st' := [sv_i ((-2))]) rfl ?_
    exact sv_iret C hr (by decide +kernel) hok4 (⟨congrArg (fun q => [sv_i q]) (by first | omega | (unfold fx_wax; omega)), hF⟩)

theorem ml_X9_148 : Cond.methodLink RX9 148 yX2_length ∈ lw_good := sv_mem 815 (by decide +kernel) rfl
theorem ml_X9_150 : Cond.methodLink RX9 150 yX4_isAlike ∈ lw_good := sv_mem 816 (by decide +kernel) rfl
theorem co_X4_isAlike : Cond.code yX4_isAlike cX4_isAlike 7 (some .boolean) ∈ lw_good := sv_mem 819 (by decide +kernel) rfl
theorem im_X4_isAlike : Cond.instanceMethod yX4_isAlike ∈ lw_good := sv_mem 817 (by decide +kernel) rfl
theorem se_X4_isAlike : Cond.selects RX4 yX4_isAlike yX4_isAlike ∈ lw_good := sv_mem 818 (by decide +kernel) rfl
set_option maxHeartbeats 4000000 in
set_option maxRecDepth 100000 in
theorem ct_X9_unlike (l : Launch) (g : sv_G) (A : Nat → Prop) (ty : Nat → Nat) (σ : Nat → Nat → Int) (hok : sv_ok ty σ) (hTA : ∀ q, ty q ≠ 0 → A q) (hI : sv_inv sp_1 ty σ) (hZ : sv_inv sp_0 ty σ) (a : Nat) (k_a : ty a = 1) (v1 : Int) (hv1 : sv_in v1) (v2 : Int) (hv2 : sv_in v2) (y : Int) (hy : sv_in y) : sv_M l yX9_unlike cX9_unlike 7 (some .int) { frames := 5, cells := 0, slots := 0, locals := 111 } g A ty σ [sv_r a, sv_i v1, sv_i v2, sv_i y] (fun r σ' => r = [sv_i (fx_unlike v1 v2 y)] ∧ sv_off [4, 25] ty σ σ') := by
  refine sv_enter (by decide) (Nat.le_of_ble_eq_true rfl) ?_
  intro p e s m args below meth c C hr
  have C : sv_C g A RX9 cX9_unlike 7 p s m args meth c := C
  have hr : meth.sig.returnType = (some .int) := hr
  have hF : sv_off [4, 25] ty σ σ := sv_off.rf
  have hlp := dy_lp_in y
  refine sv_same (st2 := []) (lv2 := [(0, sv_r a), (1, sv_i v1), (2, sv_i v2), (3, sv_i y)]) rfl rfl ?_
  refine sv_go C.1 C.2.1 [(.iload_n 1, 1)] (pc' := 1) (by decide +kernel) rfl (lv' := [(0, sv_r a), (1, sv_i v1), (2, sv_i v2), (3, sv_i y)]) (st' := [sv_i v1]) rfl ?_
  refine sv_cs C (index := 59) (k := 1) (rest := []) (by decide +kernel) (ct_X9_isPlace l g A ty σ hok (v1) ⟨by omega, by omega⟩) ⟨co_X9_isPlace, in_X9, ⟨by decide, by decide, by decide +kernel⟩, Nat.le_of_ble_eq_true rfl, Nat.le_of_ble_eq_true rfl⟩ ml_X9_59 st_X9_isPlace rfl rfl (Nat.le_of_ble_eq_true rfl) ⟨Nat.zero_le _, Nat.zero_le _⟩ (fun r2 σ3 hpo1 hok4 => ?_)
  obtain ⟨rfl, ⟨h5, rfl⟩ | ⟨h5, rfl⟩⟩ := hpo1
  · refine sv_same (st2 := [sv_i 1]) (lv2 := [(0, sv_r a), (1, sv_i v1), (2, sv_i v2), (3, sv_i y)]) rfl rfl ?_
    refine sv_if_f C.1 C.2.1 (cnd := .eq) (off := 17) (tgt := 21) (by decide +kernel) (by decide) ⟨by omega, by omega⟩ (show ¬ (1 = 0) by omega) ?_
    refine sv_go C.1 C.2.1 [(.iload_n 2, 1)] (pc' := 8) (by decide +kernel) rfl (lv' := [(0, sv_r a), (1, sv_i v1), (2, sv_i v2), (3, sv_i y)]) (st' := [sv_i v2]) rfl ?_
    refine sv_cs C (index := 59) (k := 1) (rest := []) (by decide +kernel) (ct_X9_isPlace l g A ty σ hok4 (v2) ⟨by omega, by omega⟩) ⟨co_X9_isPlace, in_X9, ⟨by decide, by decide, by decide +kernel⟩, Nat.le_of_ble_eq_true rfl, Nat.le_of_ble_eq_true rfl⟩ ml_X9_59 st_X9_isPlace rfl rfl (Nat.le_of_ble_eq_true rfl) ⟨Nat.zero_le _, Nat.zero_le _⟩ (fun r7 σ8 hpo6 hok9 => ?_)
    obtain ⟨rfl, ⟨h10, rfl⟩ | ⟨h10, rfl⟩⟩ := hpo6
    · refine sv_same (st2 := [sv_i 1]) (lv2 := [(0, sv_r a), (1, sv_i v1), (2, sv_i v2), (3, sv_i y)]) rfl rfl ?_
      refine sv_if_f C.1 C.2.1 (cnd := .eq) (off := 10) (tgt := 21) (by decide +kernel) (by decide) ⟨by omega, by omega⟩ (show ¬ (1 = 0) by omega) ?_
      refine sv_go C.1 C.2.1 [(.iload_n 3, 1)] (pc' := 15) (by decide +kernel) rfl (lv' := [(0, sv_r a), (1, sv_i v1), (2, sv_i v2), (3, sv_i y)]) (st' := [sv_i y]) rfl ?_
      refine sv_cs C (index := 97) (k := 1) (rest := []) (by decide +kernel) (ct_X2_isYear l g A ty σ hok9 (y) ⟨by omega, by omega⟩) ⟨co_X2_isYear, in_X2, ⟨by decide, by decide, by decide +kernel⟩, Nat.le_of_ble_eq_true rfl, Nat.le_of_ble_eq_true rfl⟩ ml_X9_97 st_X2_isYear rfl rfl (Nat.le_of_ble_eq_true rfl) ⟨Nat.zero_le _, Nat.zero_le _⟩ (fun r12 σ13 hpo11 hok14 => ?_)
      obtain ⟨rfl, ⟨h15, rfl⟩ | ⟨h15, rfl⟩⟩ := hpo11
      · refine sv_same (st2 := [sv_i 1]) (lv2 := [(0, sv_r a), (1, sv_i v1), (2, sv_i v2), (3, sv_i y)]) rfl rfl ?_
        refine sv_if_t C.1 C.2.1 (cnd := .ne) (off := 6) (tgt := 24) (by decide +kernel) (by decide) ⟨by omega, by omega⟩ (show 1 ≠ 0 by omega) ?_
        refine sv_go C.1 C.2.1 [(.aload_n 0, 1)] (pc' := 25) (by decide +kernel) rfl (lv' := [(0, sv_r a), (1, sv_i v1), (2, sv_i v2), (3, sv_i y)]) (st' := [sv_r a]) rfl ?_
        obtain ⟨q16, eq16, kq16⟩ := hI.ref (k := 2) k_a rfl
        refine sv_gf C (index := 25) (ci := 8) (k := 2) (r := (RX9, TX9, 6)) (v := sv_r q16) (by decide +kernel) (by rw [k_a]; rfl) rfl (by decide) fl_X9_25 (congrArg sv_a eq16) ?_
        refine sv_go C.1 C.2.1 [(.iload_n 1, 1)] (pc' := 29) (by decide +kernel) rfl (lv' := [(0, sv_r a), (1, sv_i v1), (2, sv_i v2), (3, sv_i y)]) (st' := [sv_i v1, sv_r q16]) rfl ?_
        refine sv_aa C (N := "SaintsRoad$Place") (by decide) (n := 4) (by decide +kernel) (by rw [kq16]; rfl) (by decide) (by omega) (by omega) ?_
        obtain ⟨q17, eq17, kq17⟩ := hI.ref (k := (v1 : Int).toNat) kq16 (by first | rfl | (show (if _ then _ else _) = _; rw [if_pos (by omega)]))
        rw [eq17]
        refine sv_go C.1 C.2.1 [(.iload_n 3, 1)] (pc' := 31) (by decide +kernel) rfl (lv' := [(0, sv_r a), (1, sv_i v1), (2, sv_i v2), (3, sv_i y)]) (st' := [sv_i y, sv_r q17]) rfl ?_
        refine sv_cv C (index := 118) (k := 1) (rest := []) (ci := 3) (r := (RX4, TX4, 11)) (by decide +kernel) (ct_X4_settle l g A ty σ hok14 hTA hI q17 kq17 (y) ⟨by omega, by omega⟩ (Or.inl (by have z := hZ.num (k := 10) kq17 rfl; omega))) ⟨co_X4_settle, in_X4, ⟨by decide, by decide, by decide +kernel⟩, Nat.le_of_ble_eq_true rfl, Nat.le_of_ble_eq_true rfl⟩ ml_X9_118 im_X4_settle se_X4_settle (by rw [kq17]; rfl) rfl rfl rfl (Nat.le_of_ble_eq_true rfl) ⟨Nat.zero_le _, Nat.zero_le _⟩ (fun r19 σ20 hpo18 hok21 => ?_)
        obtain ⟨rfl, hIu22, hFu22, xu22, yu22, zu22⟩ := hpo18
        have hGu22 := hF.tr hFu22 (by decide)
        have t23 : σ20 a 2 = (q16 : Int) + 1 := (hFu22.at k_a (by decide)).trans eq16
        have t24 : σ20 q16 (v1 : Int).toNat = (q17 : Int) + 1 := (hFu22.at kq16 (by decide)).trans eq17
        refine sv_same (st2 := []) (lv2 := [(0, sv_r a), (1, sv_i v1), (2, sv_i v2), (3, sv_i y)]) rfl rfl ?_
        refine sv_go C.1 C.2.1 [(.aload_n 0, 1)] (pc' := 35) (by decide +kernel) rfl (lv' := [(0, sv_r a), (1, sv_i v1), (2, sv_i v2), (3, sv_i y)]) (st' := [sv_r a]) rfl ?_
        refine sv_gf C (index := 25) (ci := 8) (k := 2) (r := (RX9, TX9, 6)) (v := sv_r q16) (by decide +kernel) (by rw [k_a]; rfl) rfl (by decide) fl_X9_25 (congrArg sv_a t23) ?_
        refine sv_go C.1 C.2.1 [(.iload_n 2, 1)] (pc' := 39) (by decide +kernel) rfl (lv' := [(0, sv_r a), (1, sv_i v1), (2, sv_i v2), (3, sv_i y)]) (st' := [sv_i v2, sv_r q16]) rfl ?_
        refine sv_aa C (N := "SaintsRoad$Place") (by decide) (n := 4) (by decide +kernel) (by rw [kq16]; rfl) (by decide) (by omega) (by omega) ?_
        obtain ⟨q25, eq25, kq25⟩ := hIu22.ref (k := (v2 : Int).toNat) kq16 (by first | rfl | (show (if _ then _ else _) = _; rw [if_pos (by omega)]))
        rw [eq25]
        refine sv_go C.1 C.2.1 [(.iload_n 3, 1)] (pc' := 41) (by decide +kernel) rfl (lv' := [(0, sv_r a), (1, sv_i v1), (2, sv_i v2), (3, sv_i y)]) (st' := [sv_i y, sv_r q25]) rfl ?_
        refine sv_cv C (index := 118) (k := 1) (rest := []) (ci := 3) (r := (RX4, TX4, 11)) (by decide +kernel) (ct_X4_settle l g A ty σ20 hok21 hTA hIu22 q25 kq25 (y) ⟨by omega, by omega⟩ (if e9 : q25 = q17 then (by rw [e9]; exact Or.inr (by rw [xu22.1]; exact xu22)) else Or.inl (by rw [zu22 _ e9 kq25]; have z := hZ.num (k := 10) kq25 rfl; omega))) ⟨co_X4_settle, in_X4, ⟨by decide, by decide, by decide +kernel⟩, Nat.le_of_ble_eq_true rfl, Nat.le_of_ble_eq_true rfl⟩ ml_X9_118 im_X4_settle se_X4_settle (by rw [kq25]; rfl) rfl rfl rfl (Nat.le_of_ble_eq_true rfl) ⟨Nat.zero_le _, Nat.zero_le _⟩ (fun r27 σ28 hpo26 hok29 => ?_)
        obtain ⟨rfl, hIu30, hFu30, xu30, yu30, zu30⟩ := hpo26
        have hGu30 := hGu22.tr hFu30 (by decide)
        have t31 : σ28 a 2 = (q16 : Int) + 1 := (hFu30.at k_a (by decide)).trans t23
        have t32 : σ28 q16 (v1 : Int).toNat = (q17 : Int) + 1 := (hFu30.at kq16 (by decide)).trans t24
        have t33 : σ28 q16 (v2 : Int).toNat = (q25 : Int) + 1 := (hFu30.at kq16 (by decide)).trans eq25
        have pk34 := pl_keep xu22 kq17 hIu22 xu30 yu30 zu30
        refine sv_same (st2 := []) (lv2 := [(0, sv_r a), (1, sv_i v1), (2, sv_i v2), (3, sv_i y)]) rfl rfl ?_
        refine sv_go C.1 C.2.1 [(.iload_n 3, 1)] (pc' := 45) (by decide +kernel) rfl (lv' := [(0, sv_r a), (1, sv_i v1), (2, sv_i v2), (3, sv_i y)]) (st' := [sv_i y]) rfl ?_
        refine sv_cs C (index := 148) (k := 1) (rest := []) (by decide +kernel) (ct_X2_length l g A ty σ28 hok29 (y) ⟨by omega, by omega⟩) ⟨co_X2_length, in_X2, ⟨by decide, by decide, by decide +kernel⟩, Nat.le_of_ble_eq_true rfl, Nat.le_of_ble_eq_true rfl⟩ ml_X9_148 st_X2_length rfl rfl (Nat.le_of_ble_eq_true rfl) ⟨Nat.zero_le _, Nat.zero_le _⟩ (fun r36 σ37 hpo35 hok38 => ?_)
        obtain ⟨rfl, rfl⟩ := hpo35
        refine sv_same (st2 := [sv_i (365 + dy_lp y)]) (lv2 := [(0, sv_r a), (1, sv_i v1), (2, sv_i v2), (3, sv_i y)]) rfl rfl ?_
        refine sv_go C.1 C.2.1 [(.istore 4, 2), (.iconst 0, 1), (.istore 5, 2), (.iconst 0, 1), (.istore 6, 2)] (pc' := 56) (by decide +kernel) rfl (lv' := [(0, sv_r a), (1, sv_i v1), (2, sv_i v2), (3, sv_i y), (4, sv_i (365 + dy_lp y)), (5, sv_i 0), (6, sv_i 0)]) (st' := []) rfl ?_
        have L39 : ∀ (n : Nat) (X : Int) , (0 ≤ X ∧ X ≤ 365 + dy_lp y) → (365 + dy_lp y - X) < (n : Int) → sv_E p l e { frames := 5, cells := 0, slots := 0, locals := 111 } s m args below meth c 7 g A ty (fun r σ' => r = [sv_i (fx_unlike v1 v2 y)] ∧ sv_off [4, 25] ty σ σ') σ28 56 [(0, sv_r a), (1, sv_i v1), (2, sv_i v2), (3, sv_i y), (4, sv_i (365 + dy_lp y)), (5, sv_i 0), (6, sv_i X)] [] := by
          intro n
          induction n with
          | zero => intro X  hX hmu; exact absurd hmu (by omega)
          | succ n ih40 =>
            intro X  hX hmu
            refine sv_go C.1 C.2.1 [(.iload 6, 2), (.iload 4, 2)] (pc' := 60) (by decide +kernel) rfl (lv' := [(0, sv_r a), (1, sv_i v1), (2, sv_i v2), (3, sv_i y), (4, sv_i (365 + dy_lp y)), (5, sv_i 0), (6, sv_i X)]) (st' := [sv_i (365 + dy_lp y), sv_i X]) rfl ?_
            refine sv_icmp C.1 C.2.1 (cnd := .ge) (off := 32) (tgt := 92) (by decide +kernel) (by decide) ⟨by omega, by omega⟩ ⟨by omega, by omega⟩ (fun (h41 : (365 + dy_lp y) ≤ X) => ?_) (fun (h41 : ¬ ((365 + dy_lp y) ≤ X)) => ?_)
            · refine sv_go C.1 C.2.1 [(.iload 5, 2)] (pc' := 94) (by decide +kernel) rfl (lv' := [(0, sv_r a), (1, sv_i v1), (2, sv_i v2), (3, sv_i y), (4, sv_i (365 + dy_lp y)), (5, sv_i 0), (6, sv_i X)]) (st' := [sv_i 0]) rfl ?_
              exact sv_iret C hr (by decide +kernel) hok38 (⟨congrArg (fun q => [sv_i q]) (by first | omega | (unfold fx_unlike; omega)), hGu30⟩)
            · refine sv_go C.1 C.2.1 [(.aload_n 0, 1)] (pc' := 64) (by decide +kernel) rfl (lv' := [(0, sv_r a), (1, sv_i v1), (2, sv_i v2), (3, sv_i y), (4, sv_i (365 + dy_lp y)), (5, sv_i 0), (6, sv_i X)]) (st' := [sv_r a]) rfl ?_
              refine sv_gf C (index := 25) (ci := 8) (k := 2) (r := (RX9, TX9, 6)) (v := sv_r q16) (by decide +kernel) (by rw [k_a]; rfl) rfl (by decide) fl_X9_25 (congrArg sv_a t31) ?_
              refine sv_go C.1 C.2.1 [(.iload_n 1, 1)] (pc' := 68) (by decide +kernel) rfl (lv' := [(0, sv_r a), (1, sv_i v1), (2, sv_i v2), (3, sv_i y), (4, sv_i (365 + dy_lp y)), (5, sv_i 0), (6, sv_i X)]) (st' := [sv_i v1, sv_r q16]) rfl ?_
              refine sv_aa C (N := "SaintsRoad$Place") (by decide) (n := 4) (by decide +kernel) (by rw [kq16]; rfl) (by decide) (by omega) (by omega) ?_
              rw [t32]
              refine sv_go C.1 C.2.1 [(.aload_n 0, 1)] (pc' := 70) (by decide +kernel) rfl (lv' := [(0, sv_r a), (1, sv_i v1), (2, sv_i v2), (3, sv_i y), (4, sv_i (365 + dy_lp y)), (5, sv_i 0), (6, sv_i X)]) (st' := [sv_r a, sv_r q17]) rfl ?_
              refine sv_gf C (index := 25) (ci := 8) (k := 2) (r := (RX9, TX9, 6)) (v := sv_r q16) (by decide +kernel) (by rw [k_a]; rfl) rfl (by decide) fl_X9_25 (congrArg sv_a t31) ?_
              refine sv_go C.1 C.2.1 [(.iload_n 2, 1)] (pc' := 74) (by decide +kernel) rfl (lv' := [(0, sv_r a), (1, sv_i v1), (2, sv_i v2), (3, sv_i y), (4, sv_i (365 + dy_lp y)), (5, sv_i 0), (6, sv_i X)]) (st' := [sv_i v2, sv_r q16, sv_r q17]) rfl ?_
              refine sv_aa C (N := "SaintsRoad$Place") (by decide) (n := 4) (by decide +kernel) (by rw [kq16]; rfl) (by decide) (by omega) (by omega) ?_
              rw [t33]
              refine sv_go C.1 C.2.1 [(.iload 6, 2)] (pc' := 77) (by decide +kernel) rfl (lv' := [(0, sv_r a), (1, sv_i v1), (2, sv_i v2), (3, sv_i y), (4, sv_i (365 + dy_lp y)), (5, sv_i 0), (6, sv_i X)]) (st' := [sv_i X, sv_r q25, sv_r q17]) rfl ?_
              refine sv_cv C (index := 150) (k := 2) (rest := []) (ci := 3) (r := (RX4, TX4, 11)) (by decide +kernel) (ct_X4_isAlike l g A ty σ28 hok38 hIu30 q17 kq17 (y) ⟨by omega, by omega⟩ pk34 q25 kq25 xu30 (X) ⟨by omega, by omega⟩) ⟨co_X4_isAlike, in_X4, ⟨by decide, by decide, by decide +kernel⟩, Nat.le_of_ble_eq_true rfl, Nat.le_of_ble_eq_true rfl⟩ ml_X9_150 im_X4_isAlike se_X4_isAlike (by rw [kq17]; rfl) rfl rfl rfl (Nat.le_of_ble_eq_true rfl) ⟨Nat.zero_le _, Nat.zero_le _⟩ (fun r43 σ44 hpo42 hok45 => ?_)
              obtain ⟨rfl, rfl⟩ := hpo42
              refine sv_same (st2 := [sv_i 1]) (lv2 := [(0, sv_r a), (1, sv_i v1), (2, sv_i v2), (3, sv_i y), (4, sv_i (365 + dy_lp y)), (5, sv_i 0), (6, sv_i X)]) rfl rfl ?_
              refine sv_if_t C.1 C.2.1 (cnd := .ne) (off := 6) (tgt := 86) (by decide +kernel) (by decide) ⟨by omega, by omega⟩ (show 1 ≠ 0 by omega) ?_
              refine sv_go C.1 C.2.1 [(.iinc 6 1, 3)] (pc' := 89) (by decide +kernel) rfl (lv' := [(0, sv_r a), (1, sv_i v1), (2, sv_i v2), (3, sv_i y), (4, sv_i (365 + dy_lp y)), (5, sv_i 0), (6, sv_i (X + 1))]) (st' := []) rfl ?_
              refine sv_goto C.1 C.2.1 (off := (-33)) (tgt := 56) (by decide +kernel) (by decide) ?_
              exact ih40 (X + 1)  (by omega) (by omega)
        exact L39 (((365 + dy_lp y - 0 : Int)).toNat + 1) 0  (by omega) (by omega)
      · refine sv_same (st2 := [sv_i 0]) (lv2 := [(0, sv_r a), (1, sv_i v1), (2, sv_i v2), (3, sv_i y)]) rfl rfl ?_
        refine sv_if_f C.1 C.2.1 (cnd := .ne) (off := 6) (tgt := 24) (by decide +kernel) (by decide) ⟨by omega, by omega⟩ (show ¬ (0 ≠ 0) by omega) ?_
        refine sv_go C.1 C.2.1 [(.bipush (-2), 2)] (pc' := 23) (by decide +kernel) rfl (lv' := [(0, sv_r a), (1, sv_i v1), (2, sv_i v2), (3, sv_i y)]) (st' := [sv_i ((-2))]) rfl ?_
        exact sv_iret C hr (by decide +kernel) hok14 (⟨congrArg (fun q => [sv_i q]) (by first | omega | (unfold fx_unlike; omega)), hF⟩)
    · refine sv_same (st2 := [sv_i 0]) (lv2 := [(0, sv_r a), (1, sv_i v1), (2, sv_i v2), (3, sv_i y)]) rfl rfl ?_
      refine sv_if_t C.1 C.2.1 (cnd := .eq) (off := 10) (tgt := 21) (by decide +kernel) (by decide) ⟨by omega, by omega⟩ (show 0 = 0 by omega) ?_
      refine sv_go C.1 C.2.1 [(.bipush (-2), 2)] (pc' := 23) (by decide +kernel) rfl (lv' := [(0, sv_r a), (1, sv_i v1), (2, sv_i v2), (3, sv_i y)]) (st' := [sv_i ((-2))]) rfl ?_
      exact sv_iret C hr (by decide +kernel) hok9 (⟨congrArg (fun q => [sv_i q]) (by first | omega | (unfold fx_unlike; omega)), hF⟩)
  · refine sv_same (st2 := [sv_i 0]) (lv2 := [(0, sv_r a), (1, sv_i v1), (2, sv_i v2), (3, sv_i y)]) rfl rfl ?_
    refine sv_if_t C.1 C.2.1 (cnd := .eq) (off := 17) (tgt := 21) (by decide +kernel) (by decide) ⟨by omega, by omega⟩ (show 0 = 0 by omega) ?_
    refine sv_go C.1 C.2.1 [(.bipush (-2), 2)] (pc' := 23) (by decide +kernel) rfl (lv' := [(0, sv_r a), (1, sv_i v1), (2, sv_i v2), (3, sv_i y)]) (st' := [sv_i ((-2))]) rfl ?_
    exact sv_iret C hr (by decide +kernel) hok4 (⟨congrArg (fun q => [sv_i q]) (by first | omega | (unfold fx_unlike; omega)), hF⟩)

theorem ml_X9_137 : Cond.methodLink RX9 137 yX9_isRank ∈ lw_good := sv_mem 803 (by decide +kernel) rfl
theorem co_X9_isRank : Cond.code yX9_isRank cX9_isRank 1 (some .boolean) ∈ lw_good := sv_mem 795 (by decide +kernel) rfl
theorem st_X9_isRank : Cond.static yX9_isRank ∈ lw_good := sv_mem 794 (by decide +kernel) rfl
theorem ml_X9_140 : Cond.methodLink RX9 140 yJ9_min_7cf53 ∈ lw_good := sv_mem 804 (by decide +kernel) rfl
theorem ml_X9_145 : Cond.methodLink RX9 145 yX4_firstHeld ∈ lw_good := sv_mem 807 (by decide +kernel) rfl
theorem co_X4_firstHeld : Cond.code yX4_firstHeld cX4_firstHeld 6 (some .int) ∈ lw_good := sv_mem 810 (by decide +kernel) rfl
theorem im_X4_firstHeld : Cond.instanceMethod yX4_firstHeld ∈ lw_good := sv_mem 808 (by decide +kernel) rfl
theorem se_X4_firstHeld : Cond.selects RX4 yX4_firstHeld yX4_firstHeld ∈ lw_good := sv_mem 809 (by decide +kernel) rfl
set_option maxHeartbeats 4000000 in
set_option maxRecDepth 100000 in
theorem ct_X9_next (l : Launch) (g : sv_G) (A : Nat → Prop) (ty : Nat → Nat) (σ : Nat → Nat → Int) (hok : sv_ok ty σ) (hTA : ∀ q, ty q ≠ 0 → A q) (hI : sv_inv sp_1 ty σ) (hZ : sv_inv sp_0 ty σ) (a : Nat) (k_a : ty a = 1) (v1 : Int) (hv1 : sv_in v1) (y : Int) (hy : sv_in y) (d : Int) (hd : sv_in d) (w1 : Int) (hw1 : sv_in w1) : sv_M l yX9_next cX9_next 9 (some .int) { frames := 4, cells := 0, slots := 0, locals := 87 } g A ty σ [sv_r a, sv_i v1, sv_i y, sv_i d, sv_i w1] (fun r σ' => r = [sv_i (fx_next v1 y d w1)] ∧ sv_off [4, 25] ty σ σ') := by
  refine sv_enter (by decide) (Nat.le_of_ble_eq_true rfl) ?_
  intro p e s m args below meth c C hr
  have C : sv_C g A RX9 cX9_next 9 p s m args meth c := C
  have hr : meth.sig.returnType = (some .int) := hr
  have hF : sv_off [4, 25] ty σ σ := sv_off.rf
  have hlp := dy_lp_in y
  refine sv_same (st2 := []) (lv2 := [(0, sv_r a), (1, sv_i v1), (2, sv_i y), (3, sv_i d), (4, sv_i w1)]) rfl rfl ?_
  refine sv_go C.1 C.2.1 [(.iload_n 1, 1)] (pc' := 1) (by decide +kernel) rfl (lv' := [(0, sv_r a), (1, sv_i v1), (2, sv_i y), (3, sv_i d), (4, sv_i w1)]) (st' := [sv_i v1]) rfl ?_
  refine sv_cs C (index := 59) (k := 1) (rest := []) (by decide +kernel) (ct_X9_isPlace l g A ty σ hok (v1) ⟨by omega, by omega⟩) ⟨co_X9_isPlace, in_X9, ⟨by decide, by decide, by decide +kernel⟩, Nat.le_of_ble_eq_true rfl, Nat.le_of_ble_eq_true rfl⟩ ml_X9_59 st_X9_isPlace rfl rfl (Nat.le_of_ble_eq_true rfl) ⟨Nat.zero_le _, Nat.zero_le _⟩ (fun r2 σ3 hpo1 hok4 => ?_)
  obtain ⟨rfl, ⟨h5, rfl⟩ | ⟨h5, rfl⟩⟩ := hpo1
  · refine sv_same (st2 := [sv_i 1]) (lv2 := [(0, sv_r a), (1, sv_i v1), (2, sv_i y), (3, sv_i d), (4, sv_i w1)]) rfl rfl ?_
    refine sv_if_f C.1 C.2.1 (cnd := .eq) (off := 19) (tgt := 23) (by decide +kernel) (by decide) ⟨by omega, by omega⟩ (show ¬ (1 = 0) by omega) ?_
    refine sv_go C.1 C.2.1 [(.iload_n 2, 1), (.iload_n 3, 1)] (pc' := 9) (by decide +kernel) rfl (lv' := [(0, sv_r a), (1, sv_i v1), (2, sv_i y), (3, sv_i d), (4, sv_i w1)]) (st' := [sv_i d, sv_i y]) rfl ?_
    refine sv_cs C (index := 105) (k := 2) (rest := []) (by decide +kernel) (ct_X2_isDay l g A ty σ hok4 (y) ⟨by omega, by omega⟩ (d) ⟨by omega, by omega⟩) ⟨co_X2_isDay, in_X2, ⟨by decide, by decide, by decide +kernel⟩, Nat.le_of_ble_eq_true rfl, Nat.le_of_ble_eq_true rfl⟩ ml_X9_105 st_X2_isDay rfl rfl (Nat.le_of_ble_eq_true rfl) ⟨Nat.zero_le _, Nat.zero_le _⟩ (fun r7 σ8 hpo6 hok9 => ?_)
    obtain ⟨rfl, ⟨h10, rfl⟩ | ⟨h10, rfl⟩⟩ := hpo6
    · refine sv_same (st2 := [sv_i 1]) (lv2 := [(0, sv_r a), (1, sv_i v1), (2, sv_i y), (3, sv_i d), (4, sv_i w1)]) rfl rfl ?_
      refine sv_if_f C.1 C.2.1 (cnd := .eq) (off := 11) (tgt := 23) (by decide +kernel) (by decide) ⟨by omega, by omega⟩ (show ¬ (1 = 0) by omega) ?_
      refine sv_go C.1 C.2.1 [(.iload 4, 2)] (pc' := 17) (by decide +kernel) rfl (lv' := [(0, sv_r a), (1, sv_i v1), (2, sv_i y), (3, sv_i d), (4, sv_i w1)]) (st' := [sv_i w1]) rfl ?_
      refine sv_cs C (index := 137) (k := 1) (rest := []) (by decide +kernel) (ct_X9_isRank l g A ty σ hok9 (w1) ⟨by omega, by omega⟩) ⟨co_X9_isRank, in_X9, ⟨by decide, by decide, by decide +kernel⟩, Nat.le_of_ble_eq_true rfl, Nat.le_of_ble_eq_true rfl⟩ ml_X9_137 st_X9_isRank rfl rfl (Nat.le_of_ble_eq_true rfl) ⟨Nat.zero_le _, Nat.zero_le _⟩ (fun r12 σ13 hpo11 hok14 => ?_)
      obtain ⟨rfl, ⟨h15, rfl⟩ | ⟨h15, rfl⟩⟩ := hpo11
      · refine sv_same (st2 := [sv_i 1]) (lv2 := [(0, sv_r a), (1, sv_i v1), (2, sv_i y), (3, sv_i d), (4, sv_i w1)]) rfl rfl ?_
        refine sv_if_t C.1 C.2.1 (cnd := .ne) (off := 6) (tgt := 26) (by decide +kernel) (by decide) ⟨by omega, by omega⟩ (show 1 ≠ 0 by omega) ?_
        refine sv_go C.1 C.2.1 [(.aload_n 0, 1)] (pc' := 27) (by decide +kernel) rfl (lv' := [(0, sv_r a), (1, sv_i v1), (2, sv_i y), (3, sv_i d), (4, sv_i w1)]) (st' := [sv_r a]) rfl ?_
        obtain ⟨q16, eq16, kq16⟩ := hI.ref (k := 2) k_a rfl
        refine sv_gf C (index := 25) (ci := 8) (k := 2) (r := (RX9, TX9, 6)) (v := sv_r q16) (by decide +kernel) (by rw [k_a]; rfl) rfl (by decide) fl_X9_25 (congrArg sv_a eq16) ?_
        refine sv_go C.1 C.2.1 [(.iload_n 1, 1)] (pc' := 31) (by decide +kernel) rfl (lv' := [(0, sv_r a), (1, sv_i v1), (2, sv_i y), (3, sv_i d), (4, sv_i w1)]) (st' := [sv_i v1, sv_r q16]) rfl ?_
        refine sv_aa C (N := "SaintsRoad$Place") (by decide) (n := 4) (by decide +kernel) (by rw [kq16]; rfl) (by decide) (by omega) (by omega) ?_
        obtain ⟨q17, eq17, kq17⟩ := hI.ref (k := (v1 : Int).toNat) kq16 (by first | rfl | (show (if _ then _ else _) = _; rw [if_pos (by omega)]))
        rw [eq17]
        refine sv_go C.1 C.2.1 [(.astore 5, 2), (.sipush 2000, 3), (.iload_n 2, 1), (.bipush 30, 2), (.iadd, 1), (.iconst 1, 1), (.isub, 1)] (pc' := 43) (by decide +kernel) rfl (lv' := [(0, sv_r a), (1, sv_i v1), (2, sv_i y), (3, sv_i d), (4, sv_i w1), (5, sv_r q17)]) (st' := [sv_i ((y + 30) - 1), sv_i 2000]) rfl ?_
        refine sv_min C (index := 140) (by decide +kernel) ml_X9_140 ⟨by omega, by omega⟩ ⟨by omega, by omega⟩ (Nat.le_of_ble_eq_true rfl) (Nat.le_of_ble_eq_true rfl) ⟨Nat.zero_le _, Nat.zero_le _⟩ ?_
        obtain ⟨mm18, hmm18⟩ : ∃ q : Int, q = (if ((y + 30) - 1 : Int) < 2000 then (y + 30) - 1 else 2000) := ⟨_, rfl⟩
        refine sv_same (st2 := [sv_i mm18]) (lv2 := [(0, sv_r a), (1, sv_i v1), (2, sv_i y), (3, sv_i d), (4, sv_i w1), (5, sv_r q17)]) (by rw [hmm18]) rfl ?_
        refine sv_go C.1 C.2.1 [(.istore 6, 2), (.iload_n 2, 1), (.istore 7, 2)] (pc' := 51) (by decide +kernel) rfl (lv' := [(0, sv_r a), (1, sv_i v1), (2, sv_i y), (3, sv_i d), (4, sv_i w1), (5, sv_r q17), (6, sv_i mm18), (7, sv_i y)]) (st' := []) rfl ?_
        have L21 : ∀ (n : Nat) (X : Int) (σ19 : Nat → Nat → Int), (sv_ok ty σ19) → (sv_inv sp_1 ty σ19) → (sv_off [4, 25] ty σ σ19) → (σ19 a 2 = (q16 : Int) + 1) → (σ19 q16 (v1 : Int).toNat = (q17 : Int) + 1) → (y ≤ X ∧ X ≤ 2001) → (pl_0 ty σ19 q17) → (2001 - X) < (n : Int) → sv_E p l e { frames := 4, cells := 0, slots := 0, locals := 87 } s m args below meth c 9 g A ty (fun r σ' => r = [sv_i (fx_next v1 y d w1)] ∧ sv_off [4, 25] ty σ σ') σ19 51 [(0, sv_r a), (1, sv_i v1), (2, sv_i y), (3, sv_i d), (4, sv_i w1), (5, sv_r q17), (6, sv_i mm18), (7, sv_i X)] [] := by
          intro n
          induction n with
          | zero => intro X σ19 hokc20 hIc20 hFc20 kc20_0 kc20_1 hX h0p hmu; exact absurd hmu (by omega)
          | succ n ih22 =>
            intro X σ19 hokc20 hIc20 hFc20 kc20_0 kc20_1 hX h0p hmu
            refine sv_go C.1 C.2.1 [(.iload 7, 2), (.iload 6, 2)] (pc' := 55) (by decide +kernel) rfl (lv' := [(0, sv_r a), (1, sv_i v1), (2, sv_i y), (3, sv_i d), (4, sv_i w1), (5, sv_r q17), (6, sv_i mm18), (7, sv_i X)]) (st' := [sv_i mm18, sv_i X]) rfl ?_
            refine sv_icmp C.1 C.2.1 (cnd := .gt) (off := 51) (tgt := 106) (by decide +kernel) (by decide) ⟨by omega, by omega⟩ ⟨by omega, by omega⟩ (fun (h23 : mm18 < X) => ?_) (fun (h23 : ¬ (mm18 < X)) => ?_)
            · refine sv_go C.1 C.2.1 [(.iconst (-1), 1)] (pc' := 107) (by decide +kernel) rfl (lv' := [(0, sv_r a), (1, sv_i v1), (2, sv_i y), (3, sv_i d), (4, sv_i w1), (5, sv_r q17), (6, sv_i mm18), (7, sv_i X)]) (st' := [sv_i ((-1))]) rfl ?_
              exact sv_iret C hr (by decide +kernel) hokc20 (⟨congrArg (fun q => [sv_i q]) (by first | omega | (unfold fx_next; omega)), hFc20⟩)
            · refine sv_go C.1 C.2.1 [(.aload 5, 2), (.iload 7, 2)] (pc' := 62) (by decide +kernel) rfl (lv' := [(0, sv_r a), (1, sv_i v1), (2, sv_i y), (3, sv_i d), (4, sv_i w1), (5, sv_r q17), (6, sv_i mm18), (7, sv_i X)]) (st' := [sv_i X, sv_r q17]) rfl ?_
              refine sv_cv C (index := 118) (k := 1) (rest := []) (ci := 3) (r := (RX4, TX4, 11)) (by decide +kernel) (ct_X4_settle l g A ty σ19 hokc20 hTA hIc20 q17 kq17 (X) ⟨by omega, by omega⟩ h0p) ⟨co_X4_settle, in_X4, ⟨by decide, by decide, by decide +kernel⟩, Nat.le_of_ble_eq_true rfl, Nat.le_of_ble_eq_true rfl⟩ ml_X9_118 im_X4_settle se_X4_settle (by rw [kq17]; rfl) rfl rfl rfl (Nat.le_of_ble_eq_true rfl) ⟨Nat.zero_le _, Nat.zero_le _⟩ (fun r25 σ26 hpo24 hok27 => ?_)
              obtain ⟨rfl, hIu28, hFu28, xu28, yu28, zu28⟩ := hpo24
              have hGu28 := hFc20.tr hFu28 (by decide)
              have t29 : σ26 a 2 = (q16 : Int) + 1 := (hFu28.at k_a (by decide)).trans kc20_0
              have t30 : σ26 q16 (v1 : Int).toNat = (q17 : Int) + 1 := (hFu28.at kq16 (by decide)).trans kc20_1
              refine sv_same (st2 := []) (lv2 := [(0, sv_r a), (1, sv_i v1), (2, sv_i y), (3, sv_i d), (4, sv_i w1), (5, sv_r q17), (6, sv_i mm18), (7, sv_i X)]) rfl rfl ?_
              refine sv_go C.1 C.2.1 [(.aload 5, 2), (.iload 7, 2), (.iload_n 2, 1)] (pc' := 70) (by decide +kernel) rfl (lv' := [(0, sv_r a), (1, sv_i v1), (2, sv_i y), (3, sv_i d), (4, sv_i w1), (5, sv_r q17), (6, sv_i mm18), (7, sv_i X)]) (st' := [sv_i y, sv_i X, sv_r q17]) rfl ?_
              refine sv_icmp C.1 C.2.1 (cnd := .ne) (off := 7) (tgt := 77) (by decide +kernel) (by decide) ⟨by omega, by omega⟩ ⟨by omega, by omega⟩ (fun (h31 : X ≠ y) => ?_) (fun (h31 : ¬ (X ≠ y)) => ?_)
              · refine sv_go C.1 C.2.1 [(.iconst 0, 1), (.iload 4, 2)] (pc' := 80) (by decide +kernel) rfl (lv' := [(0, sv_r a), (1, sv_i v1), (2, sv_i y), (3, sv_i d), (4, sv_i w1), (5, sv_r q17), (6, sv_i mm18), (7, sv_i X)]) (st' := [sv_i w1, sv_i 0, sv_r q17]) rfl ?_
                refine sv_cv C (index := 145) (k := 2) (rest := []) (ci := 3) (r := (RX4, TX4, 11)) (by decide +kernel) (ct_X4_firstHeld l g A ty σ26 hok27 hIu28 q17 kq17 (X) ⟨by omega, by omega⟩ xu28 (0) ⟨by omega, by omega⟩ (w1) ⟨by omega, by omega⟩) ⟨co_X4_firstHeld, in_X4, ⟨by decide, by decide, by decide +kernel⟩, Nat.le_of_ble_eq_true rfl, Nat.le_of_ble_eq_true rfl⟩ ml_X9_145 im_X4_firstHeld se_X4_firstHeld (by rw [kq17]; rfl) rfl rfl rfl (Nat.le_of_ble_eq_true rfl) ⟨Nat.zero_le _, Nat.zero_le _⟩ (fun r33 σ34 hpo32 hok35 => ?_)
                obtain ⟨rfl, rfl⟩ := hpo32
                refine sv_same (st2 := [sv_i ((-1))]) (lv2 := [(0, sv_r a), (1, sv_i v1), (2, sv_i y), (3, sv_i d), (4, sv_i w1), (5, sv_r q17), (6, sv_i mm18), (7, sv_i X)]) rfl rfl ?_
                refine sv_go C.1 C.2.1 [(.istore 8, 2), (.iload 8, 2)] (pc' := 87) (by decide +kernel) rfl (lv' := [(0, sv_r a), (1, sv_i v1), (2, sv_i y), (3, sv_i d), (4, sv_i w1), (5, sv_r q17), (6, sv_i mm18), (7, sv_i X), (8, sv_i ((-1)))]) (st' := [sv_i ((-1))]) rfl ?_
                refine sv_if_t C.1 C.2.1 (cnd := .lt) (off := 13) (tgt := 100) (by decide +kernel) (by decide) ⟨by omega, by omega⟩ (show ((-1)) < 0 by omega) ?_
                refine sv_go C.1 C.2.1 [(.iinc 7 1, 3)] (pc' := 103) (by decide +kernel) rfl (lv' := [(0, sv_r a), (1, sv_i v1), (2, sv_i y), (3, sv_i d), (4, sv_i w1), (5, sv_r q17), (6, sv_i mm18), (7, sv_i (X + 1)), (8, sv_i ((-1)))]) (st' := []) rfl ?_
                refine sv_goto C.1 C.2.1 (off := (-52)) (tgt := 51) (by decide +kernel) (by decide) ?_
                refine sv_pick [0, 1, 2, 3, 4, 5, 6, 7] (lv2 := [(0, sv_r a), (1, sv_i v1), (2, sv_i y), (3, sv_i d), (4, sv_i w1), (5, sv_r q17), (6, sv_i mm18), (7, sv_i (X + 1))]) rfl ?_
                exact ih22 (X + 1) σ26 hok35 hIu28 hGu28 t29 t30 (by omega) (Or.inr (by rw [xu28.1]; exact xu28)) (by omega)
              · refine sv_go C.1 C.2.1 [(.iload_n 3, 1)] (pc' := 74) (by decide +kernel) rfl (lv' := [(0, sv_r a), (1, sv_i v1), (2, sv_i y), (3, sv_i d), (4, sv_i w1), (5, sv_r q17), (6, sv_i mm18), (7, sv_i X)]) (st' := [sv_i d, sv_r q17]) rfl ?_
                refine sv_goto C.1 C.2.1 (off := 4) (tgt := 78) (by decide +kernel) (by decide) ?_
                refine sv_go C.1 C.2.1 [(.iload 4, 2)] (pc' := 80) (by decide +kernel) rfl (lv' := [(0, sv_r a), (1, sv_i v1), (2, sv_i y), (3, sv_i d), (4, sv_i w1), (5, sv_r q17), (6, sv_i mm18), (7, sv_i X)]) (st' := [sv_i w1, sv_i d, sv_r q17]) rfl ?_
                refine sv_cv C (index := 145) (k := 2) (rest := []) (ci := 3) (r := (RX4, TX4, 11)) (by decide +kernel) (ct_X4_firstHeld l g A ty σ26 hok27 hIu28 q17 kq17 (X) ⟨by omega, by omega⟩ xu28 (d) ⟨by omega, by omega⟩ (w1) ⟨by omega, by omega⟩) ⟨co_X4_firstHeld, in_X4, ⟨by decide, by decide, by decide +kernel⟩, Nat.le_of_ble_eq_true rfl, Nat.le_of_ble_eq_true rfl⟩ ml_X9_145 im_X4_firstHeld se_X4_firstHeld (by rw [kq17]; rfl) rfl rfl rfl (Nat.le_of_ble_eq_true rfl) ⟨Nat.zero_le _, Nat.zero_le _⟩ (fun r37 σ38 hpo36 hok39 => ?_)
                obtain ⟨rfl, rfl⟩ := hpo36
                refine sv_same (st2 := [sv_i ((-1))]) (lv2 := [(0, sv_r a), (1, sv_i v1), (2, sv_i y), (3, sv_i d), (4, sv_i w1), (5, sv_r q17), (6, sv_i mm18), (7, sv_i X)]) rfl rfl ?_
                refine sv_go C.1 C.2.1 [(.istore 8, 2), (.iload 8, 2)] (pc' := 87) (by decide +kernel) rfl (lv' := [(0, sv_r a), (1, sv_i v1), (2, sv_i y), (3, sv_i d), (4, sv_i w1), (5, sv_r q17), (6, sv_i mm18), (7, sv_i X), (8, sv_i ((-1)))]) (st' := [sv_i ((-1))]) rfl ?_
                refine sv_if_t C.1 C.2.1 (cnd := .lt) (off := 13) (tgt := 100) (by decide +kernel) (by decide) ⟨by omega, by omega⟩ (show ((-1)) < 0 by omega) ?_
                refine sv_go C.1 C.2.1 [(.iinc 7 1, 3)] (pc' := 103) (by decide +kernel) rfl (lv' := [(0, sv_r a), (1, sv_i v1), (2, sv_i y), (3, sv_i d), (4, sv_i w1), (5, sv_r q17), (6, sv_i mm18), (7, sv_i (X + 1)), (8, sv_i ((-1)))]) (st' := []) rfl ?_
                refine sv_goto C.1 C.2.1 (off := (-52)) (tgt := 51) (by decide +kernel) (by decide) ?_
                refine sv_pick [0, 1, 2, 3, 4, 5, 6, 7] (lv2 := [(0, sv_r a), (1, sv_i v1), (2, sv_i y), (3, sv_i d), (4, sv_i w1), (5, sv_r q17), (6, sv_i mm18), (7, sv_i (X + 1))]) rfl ?_
                exact ih22 (X + 1) σ26 hok39 hIu28 hGu28 t29 t30 (by omega) (Or.inr (by rw [xu28.1]; exact xu28)) (by omega)
        exact L21 (((2001 - y : Int)).toNat + 1) y σ hok14 hI hF eq16 eq17 (by omega) (Or.inl (by have z := hZ.num (k := 10) kq17 rfl; omega)) (by omega)
      · refine sv_same (st2 := [sv_i 0]) (lv2 := [(0, sv_r a), (1, sv_i v1), (2, sv_i y), (3, sv_i d), (4, sv_i w1)]) rfl rfl ?_
        refine sv_if_f C.1 C.2.1 (cnd := .ne) (off := 6) (tgt := 26) (by decide +kernel) (by decide) ⟨by omega, by omega⟩ (show ¬ (0 ≠ 0) by omega) ?_
        refine sv_go C.1 C.2.1 [(.bipush (-2), 2)] (pc' := 25) (by decide +kernel) rfl (lv' := [(0, sv_r a), (1, sv_i v1), (2, sv_i y), (3, sv_i d), (4, sv_i w1)]) (st' := [sv_i ((-2))]) rfl ?_
        exact sv_iret C hr (by decide +kernel) hok14 (⟨congrArg (fun q => [sv_i q]) (by first | omega | (unfold fx_next; omega)), hF⟩)
    · refine sv_same (st2 := [sv_i 0]) (lv2 := [(0, sv_r a), (1, sv_i v1), (2, sv_i y), (3, sv_i d), (4, sv_i w1)]) rfl rfl ?_
      refine sv_if_t C.1 C.2.1 (cnd := .eq) (off := 11) (tgt := 23) (by decide +kernel) (by decide) ⟨by omega, by omega⟩ (show 0 = 0 by omega) ?_
      refine sv_go C.1 C.2.1 [(.bipush (-2), 2)] (pc' := 25) (by decide +kernel) rfl (lv' := [(0, sv_r a), (1, sv_i v1), (2, sv_i y), (3, sv_i d), (4, sv_i w1)]) (st' := [sv_i ((-2))]) rfl ?_
      exact sv_iret C hr (by decide +kernel) hok9 (⟨congrArg (fun q => [sv_i q]) (by first | omega | (unfold fx_next; omega)), hF⟩)
  · refine sv_same (st2 := [sv_i 0]) (lv2 := [(0, sv_r a), (1, sv_i v1), (2, sv_i y), (3, sv_i d), (4, sv_i w1)]) rfl rfl ?_
    refine sv_if_t C.1 C.2.1 (cnd := .eq) (off := 19) (tgt := 23) (by decide +kernel) (by decide) ⟨by omega, by omega⟩ (show 0 = 0 by omega) ?_
    refine sv_go C.1 C.2.1 [(.bipush (-2), 2)] (pc' := 25) (by decide +kernel) rfl (lv' := [(0, sv_r a), (1, sv_i v1), (2, sv_i y), (3, sv_i d), (4, sv_i w1)]) (st' := [sv_i ((-2))]) rfl ?_
    exact sv_iret C hr (by decide +kernel) hok4 (⟨congrArg (fun q => [sv_i q]) (by first | omega | (unfold fx_next; omega)), hF⟩)

set_option maxHeartbeats 4000000 in
set_option maxRecDepth 100000 in
theorem ct_X7_byteAt (l : Launch) (g : sv_G) (A : Nat → Prop) (ty : Nat → Nat) (σ : Nat → Nat → Int) (hok : sv_ok ty σ) (hI : sv_inv sp_1 ty σ) (a : Nat) (k_a : ty a = 2) (hL0 : σ a 1 = 0) (v : Int) (hv : sv_in v) : sv_M l yX7_byteAt cX7_byteAt 2 (some .int) { frames := 0, cells := 0, slots := 0, locals := 0 } g A ty σ [sv_r a, sv_i v] (fun r σ' => σ = σ' ∧ r = [sv_i (-1)]) := by
  refine sv_enter (by decide) (Nat.le_of_ble_eq_true rfl) ?_
  intro p e s m args below meth c C hr
  have C : sv_C g A RX7 cX7_byteAt 2 p s m args meth c := C
  have hr : meth.sig.returnType = (some .int) := hr
  refine sv_same (st2 := []) (lv2 := [(0, sv_r a), (1, sv_i v)]) rfl rfl ?_
  refine sv_go C.1 C.2.1 [(.iload_n 1, 1)] (pc' := 1) (by decide +kernel) rfl (lv' := [(0, sv_r a), (1, sv_i v)]) (st' := [sv_i v]) rfl ?_
  refine sv_if C.1 C.2.1 (cnd := .lt) (off := 24) (tgt := 25) (by decide +kernel) (by decide) ⟨by omega, by omega⟩ (fun (h1 : v < 0) => ?_) (fun (h1 : ¬ (v < 0)) => ?_)
  · refine sv_go C.1 C.2.1 [(.iconst (-1), 1)] (pc' := 26) (by decide +kernel) rfl (lv' := [(0, sv_r a), (1, sv_i v)]) (st' := [sv_i ((-1))]) rfl ?_
    exact sv_iret C hr (by decide +kernel) hok (⟨rfl, rfl⟩)
  · refine sv_go C.1 C.2.1 [(.iload_n 1, 1), (.aload_n 0, 1)] (pc' := 6) (by decide +kernel) rfl (lv' := [(0, sv_r a), (1, sv_i v)]) (st' := [sv_r a, sv_i v]) rfl ?_
    refine sv_gf C (index := 15) (ci := 6) (k := 1) (r := (RX7, TX7, 2)) (v := sv_i 0) (by decide +kernel) (by rw [k_a]; rfl) rfl (by decide) fl_X7_15 (congrArg sv_i hL0) ?_
    refine sv_icmp_t C.1 C.2.1 (cnd := .ge) (off := 16) (tgt := 25) (by decide +kernel) (by decide) ⟨by omega, by omega⟩ ⟨by omega, by omega⟩ (show 0 ≤ v by omega) ?_
    refine sv_go C.1 C.2.1 [(.iconst (-1), 1)] (pc' := 26) (by decide +kernel) rfl (lv' := [(0, sv_r a), (1, sv_i v)]) (st' := [sv_i ((-1))]) rfl ?_
    exact sv_iret C hr (by decide +kernel) hok (⟨rfl, rfl⟩)

theorem fl_X6_39 : Cond.fieldLink RX6 39 "SaintsRoad$Reader" "at" "I" ∈ lw_good := sv_mem 131 (by decide +kernel) rfl
theorem fl_X6_15 : Cond.fieldLink RX6 15 "SaintsRoad$Reader" "tape" "LSaintsRoad$Tape;" ∈ lw_good := sv_mem 127 (by decide +kernel) rfl
theorem fl_X6_58 : Cond.fieldLink RX6 58 "SaintsRoad$Tape" "length" "I" ∈ lw_good := sv_mem 110 (by decide +kernel) rfl
theorem fl_X6_55 : Cond.fieldLink RX6 55 "SaintsRoad$Reader" "start" "I" ∈ lw_good := sv_mem 133 (by decide +kernel) rfl
theorem ml_X6_63 : Cond.methodLink RX6 63 yX7_byteAt ∈ lw_good := sv_mem 456 (by decide +kernel) rfl
theorem co_X7_byteAt : Cond.code yX7_byteAt cX7_byteAt 2 (some .int) ∈ lw_good := sv_mem 459 (by decide +kernel) rfl
theorem im_X7_byteAt : Cond.instanceMethod yX7_byteAt ∈ lw_good := sv_mem 457 (by decide +kernel) rfl
theorem se_X7_byteAt : Cond.selects RX7 yX7_byteAt yX7_byteAt ∈ lw_good := sv_mem 458 (by decide +kernel) rfl
theorem fl_X6_48 : Cond.fieldLink RX6 48 "SaintsRoad$Reader" "token" "I" ∈ lw_good := sv_mem 132 (by decide +kernel) rfl
set_option maxHeartbeats 4000000 in
set_option maxRecDepth 100000 in
theorem ct_X6_readToken (l : Launch) (g : sv_G) (A : Nat → Prop) (ty : Nat → Nat) (σ : Nat → Nat → Int) (hok : sv_ok ty σ) (hTA : ∀ q, ty q ≠ 0 → A q) (hI : sv_inv sp_1 ty σ) (a : Nat) (k_a : ty a = 3) (t : Nat) (k_t : ty t = 2) (ht : σ a 2 = (t : Int) + 1) (hl : σ t 1 = 0) (hat : σ a 6 = 0) (hst : σ a 5 = 0) (hfk : σ a 0 = 0) : sv_M l yX6_readToken cX6_readToken 2 none { frames := 1, cells := 0, slots := 0, locals := 21 } g A ty σ [sv_r a] (fun r σ' => r = [] ∧ sv_inv sp_1 ty σ' ∧ sv_off [3] ty σ σ' ∧ σ' a 7 = 0 ∧ σ' a 5 = 0 ∧ σ' a 0 = 0) := by
  refine sv_enter (by decide) (Nat.le_of_ble_eq_true rfl) ?_
  intro p e s m args below meth c C hr
  have C : sv_C g A RX6 cX6_readToken 2 p s m args meth c := C
  have hr : meth.sig.returnType = none := hr
  have hF : sv_off [3] ty σ σ := sv_off.rf
  refine sv_same (st2 := []) (lv2 := [(0, sv_r a)]) rfl rfl ?_
  refine sv_go C.1 C.2.1 [(.aload_n 0, 1)] (pc' := 1) (by decide +kernel) rfl (lv' := [(0, sv_r a)]) (st' := [sv_r a]) rfl ?_
  refine sv_gf C (index := 39) (ci := 5) (k := 6) (r := (RX6, TX6, 13)) (v := sv_i 0) (by decide +kernel) (by rw [k_a]; rfl) rfl (by decide) fl_X6_39 (congrArg sv_i hat) ?_
  refine sv_go C.1 C.2.1 [(.aload_n 0, 1)] (pc' := 5) (by decide +kernel) rfl (lv' := [(0, sv_r a)]) (st' := [sv_r a, sv_i 0]) rfl ?_
  refine sv_gf C (index := 15) (ci := 5) (k := 2) (r := (RX6, TX6, 13)) (v := sv_r t) (by decide +kernel) (by rw [k_a]; rfl) rfl (by decide) fl_X6_15 (congrArg sv_a ht) ?_
  refine sv_gf C (index := 58) (ci := 6) (k := 1) (r := (RX7, TX7, 2)) (v := sv_i 0) (by decide +kernel) (by rw [k_t]; rfl) rfl (by decide) fl_X6_58 (congrArg sv_i hl) ?_
  refine sv_icmp_t C.1 C.2.1 (cnd := .ge) (off := 33) (tgt := 44) (by decide +kernel) (by decide) ⟨by omega, by omega⟩ ⟨by omega, by omega⟩ (show 0 ≤ 0 by omega) ?_
  refine sv_go C.1 C.2.1 [(.aload_n 0, 1), (.aload_n 0, 1)] (pc' := 46) (by decide +kernel) rfl (lv' := [(0, sv_r a)]) (st' := [sv_r a, sv_r a]) rfl ?_
  refine sv_gf C (index := 39) (ci := 5) (k := 6) (r := (RX6, TX6, 13)) (v := sv_i 0) (by decide +kernel) (by rw [k_a]; rfl) rfl (by decide) fl_X6_39 (congrArg sv_i hat) ?_
  refine sv_pf C (index := 55) (ci := 5) (k := 8) (r := (RX6, TX6, 13)) (z := 0) (by decide +kernel) (by rw [k_a]; rfl) rfl (by decide) rfl fl_X6_55 rfl (Or.inl rfl) ⟨by omega, by omega⟩ (hTA _ (by rw [k_a]; decide)) hok (fun hok1 => ?_)
  have hI3 := hI.up (a := a) (k := 8) (z := 0) (by rw [k_a]; exact trivial)
  have hF4 := hF.up (a := a) (k := 8) (z := 0) (by rw [k_a]; decide)
  generalize eσ2 : sv_up σ a 8 0 = σ2 at hok1 hI3 hF4 ⊢
  have t5 : σ2 a 2 = (t : Int) + 1 := by rw [← eσ2, sv_up_k (by decide)]; exact ht
  have t6 : σ2 t 1 = 0 := by rw [← eσ2, sv_up_a (sv_ne k_t k_a (by decide))]; exact hl
  have t7 : σ2 a 6 = 0 := by rw [← eσ2, sv_up_k (by decide)]; exact hat
  have t8 : σ2 a 5 = 0 := by rw [← eσ2, sv_up_k (by decide)]; exact hst
  have t9 : σ2 a 0 = 0 := by rw [← eσ2, sv_up_k (by decide)]; exact hfk
  have t10 : σ2 a 8 = 0 := by rw [← eσ2]; exact sv_up_s _ _ _ _
  refine sv_go C.1 C.2.1 [(.aload_n 0, 1)] (pc' := 53) (by decide +kernel) rfl (lv' := [(0, sv_r a)]) (st' := [sv_r a]) rfl ?_
  refine sv_gf C (index := 15) (ci := 5) (k := 2) (r := (RX6, TX6, 13)) (v := sv_r t) (by decide +kernel) (by rw [k_a]; rfl) rfl (by decide) fl_X6_15 (congrArg sv_a t5) ?_
  refine sv_go C.1 C.2.1 [(.aload_n 0, 1)] (pc' := 57) (by decide +kernel) rfl (lv' := [(0, sv_r a)]) (st' := [sv_r a, sv_r t]) rfl ?_
  refine sv_gf C (index := 39) (ci := 5) (k := 6) (r := (RX6, TX6, 13)) (v := sv_i 0) (by decide +kernel) (by rw [k_a]; rfl) rfl (by decide) fl_X6_39 (congrArg sv_i t7) ?_
  refine sv_cv C (index := 63) (k := 1) (rest := []) (ci := 6) (r := (RX7, TX7, 2)) (by decide +kernel) (ct_X7_byteAt l g A ty σ2 hok1 hI3 t k_t t6 (0) ⟨by omega, by omega⟩) ⟨co_X7_byteAt, in_X7, ⟨by decide, by decide, by decide +kernel⟩, Nat.le_of_ble_eq_true rfl, Nat.le_of_ble_eq_true rfl⟩ ml_X6_63 im_X7_byteAt se_X7_byteAt (by rw [k_t]; rfl) rfl rfl rfl (Nat.le_of_ble_eq_true rfl) ⟨Nat.zero_le _, Nat.zero_le _⟩ (fun r12 σ13 hpo11 hok14 => ?_)
  obtain ⟨rfl, rfl⟩ := hpo11
  refine sv_same (st2 := [sv_i ((-1))]) (lv2 := [(0, sv_r a)]) rfl rfl ?_
  refine sv_go C.1 C.2.1 [(.istore_n 1, 1), (.iload_n 1, 1), (.iconst (-1), 1)] (pc' := 66) (by decide +kernel) rfl (lv' := [(0, sv_r a), (1, sv_i ((-1)))]) (st' := [sv_i ((-1)), sv_i ((-1))]) rfl ?_
  refine sv_icmp_f C.1 C.2.1 (cnd := .ne) (off := 11) (tgt := 77) (by decide +kernel) (by decide) ⟨by omega, by omega⟩ ⟨by omega, by omega⟩ (show ¬ (((-1)) ≠ ((-1))) by omega) ?_
  refine sv_go C.1 C.2.1 [(.aload_n 0, 1), (.iconst 0, 1)] (pc' := 71) (by decide +kernel) rfl (lv' := [(0, sv_r a), (1, sv_i ((-1)))]) (st' := [sv_i 0, sv_r a]) rfl ?_
  refine sv_pf C (index := 48) (ci := 5) (k := 7) (r := (RX6, TX6, 13)) (z := 0) (by decide +kernel) (by rw [k_a]; rfl) rfl (by decide) rfl fl_X6_48 rfl (Or.inl rfl) ⟨by omega, by omega⟩ (hTA _ (by rw [k_a]; decide)) hok14 (fun hok15 => ?_)
  have hI17 := hI3.up (a := a) (k := 7) (z := 0) (by rw [k_a]; exact trivial)
  have hF18 := hF4.up (a := a) (k := 7) (z := 0) (by rw [k_a]; decide)
  generalize eσ16 : sv_up σ2 a 7 0 = σ16 at hok15 hI17 hF18 ⊢
  have t19 : σ16 a 2 = (t : Int) + 1 := by rw [← eσ16, sv_up_k (by decide)]; exact t5
  have t20 : σ16 t 1 = 0 := by rw [← eσ16, sv_up_a (sv_ne k_t k_a (by decide))]; exact t6
  have t21 : σ16 a 6 = 0 := by rw [← eσ16, sv_up_k (by decide)]; exact t7
  have t22 : σ16 a 5 = 0 := by rw [← eσ16, sv_up_k (by decide)]; exact t8
  have t23 : σ16 a 0 = 0 := by rw [← eσ16, sv_up_k (by decide)]; exact t9
  have t24 : σ16 a 8 = 0 := by rw [← eσ16, sv_up_k (by decide)]; exact t10
  have t25 : σ16 a 7 = 0 := by rw [← eσ16]; exact sv_up_s _ _ _ _
  refine sv_goto C.1 C.2.1 (off := 66) (tgt := 140) (by decide +kernel) (by decide) ?_
  exact sv_vret C hr (by decide +kernel) hok15 (⟨rfl, hI17, hF18, t25, t22, t23⟩)

theorem fl_X1_32 : Cond.fieldLink RX1 32 "SaintsRoad$Calendar" "size" "I" ∈ lw_good := sv_mem 248 (by decide +kernel) rfl
theorem fl_X1_35 : Cond.fieldLink RX1 35 "SaintsRoad$Calendar" "yieldRank" "I" ∈ lw_good := sv_mem 252 (by decide +kernel) rfl
theorem fl_X1_38 : Cond.fieldLink RX1 38 "SaintsRoad$Calendar" "yieldTimes" "I" ∈ lw_good := sv_mem 255 (by decide +kernel) rfl
theorem fl_X1_22 : Cond.fieldLink RX1 22 "SaintsRoad$Calendar" "lent" "I" ∈ lw_good := sv_mem 258 (by decide +kernel) rfl
theorem fl_X1_17 : Cond.fieldLink RX1 17 "SaintsRoad$Calendar" "waxByRank" "[I" ∈ lw_good := sv_mem 246 (by decide +kernel) rfl
theorem ml_X1_26 : Cond.methodLink RX1 26 yJ7_fill_53178 ∈ lw_good := sv_mem 239 (by decide +kernel) rfl
set_option maxHeartbeats 4000000 in
set_option maxRecDepth 100000 in
theorem ct_X1_clear (l : Launch) (g : sv_G) (A : Nat → Prop) (ty : Nat → Nat) (σ : Nat → Nat → Int) (hok : sv_ok ty σ) (hTA : ∀ q, ty q ≠ 0 → A q) (hI : sv_inv sp_1 ty σ) (a : Nat) (k_a : ty a = 7)  : sv_M l yX1_clear cX1_clear 1 none { frames := 1, cells := 0, slots := 0, locals := 23 } g A ty σ [sv_r a] (fun r σ' => r = [] ∧ sv_inv sp_1 ty σ' ∧ sv_off [7, 23] ty σ σ') := by
  refine sv_enter (by decide) (Nat.le_of_ble_eq_true rfl) ?_
  intro p e s m args below meth c C hr
  have C : sv_C g A RX1 cX1_clear 1 p s m args meth c := C
  have hr : meth.sig.returnType = none := hr
  have hF : sv_off [7, 23] ty σ σ := sv_off.rf
  refine sv_same (st2 := []) (lv2 := [(0, sv_r a)]) rfl rfl ?_
  refine sv_go C.1 C.2.1 [(.aload_n 0, 1), (.iconst 0, 1)] (pc' := 2) (by decide +kernel) rfl (lv' := [(0, sv_r a)]) (st' := [sv_i 0, sv_r a]) rfl ?_
  refine sv_pf C (index := 32) (ci := 1) (k := 2) (r := (RX1, TX1, 6)) (z := 0) (by decide +kernel) (by rw [k_a]; rfl) rfl (by decide) rfl fl_X1_32 rfl (Or.inl rfl) ⟨by omega, by omega⟩ (hTA _ (by rw [k_a]; decide)) hok (fun hok1 => ?_)
  have hI3 := hI.up (a := a) (k := 2) (z := 0) (by rw [k_a]; exact ⟨by omega, by omega⟩)
  have hF4 := hF.up (a := a) (k := 2) (z := 0) (by rw [k_a]; decide)
  generalize eσ2 : sv_up σ a 2 0 = σ2 at hok1 hI3 hF4 ⊢
  have t5 : σ2 a 2 = 0 := by rw [← eσ2]; exact sv_up_s _ _ _ _
  refine sv_go C.1 C.2.1 [(.aload_n 0, 1), (.iconst 0, 1)] (pc' := 7) (by decide +kernel) rfl (lv' := [(0, sv_r a)]) (st' := [sv_i 0, sv_r a]) rfl ?_
  refine sv_pf C (index := 35) (ci := 1) (k := 3) (r := (RX1, TX1, 6)) (z := 0) (by decide +kernel) (by rw [k_a]; rfl) rfl (by decide) rfl fl_X1_35 rfl (Or.inl rfl) ⟨by omega, by omega⟩ (hTA _ (by rw [k_a]; decide)) hok1 (fun hok6 => ?_)
  have hI8 := hI3.up (a := a) (k := 3) (z := 0) (by rw [k_a]; exact trivial)
  have hF9 := hF4.up (a := a) (k := 3) (z := 0) (by rw [k_a]; decide)
  generalize eσ7 : sv_up σ2 a 3 0 = σ7 at hok6 hI8 hF9 ⊢
  have t10 : σ7 a 2 = 0 := by rw [← eσ7, sv_up_k (by decide)]; exact t5
  have t11 : σ7 a 3 = 0 := by rw [← eσ7]; exact sv_up_s _ _ _ _
  refine sv_go C.1 C.2.1 [(.aload_n 0, 1), (.iconst 0, 1)] (pc' := 12) (by decide +kernel) rfl (lv' := [(0, sv_r a)]) (st' := [sv_i 0, sv_r a]) rfl ?_
  refine sv_pf C (index := 38) (ci := 1) (k := 4) (r := (RX1, TX1, 6)) (z := 0) (by decide +kernel) (by rw [k_a]; rfl) rfl (by decide) rfl fl_X1_38 rfl (Or.inl rfl) ⟨by omega, by omega⟩ (hTA _ (by rw [k_a]; decide)) hok6 (fun hok12 => ?_)
  have hI14 := hI8.up (a := a) (k := 4) (z := 0) (by rw [k_a]; exact trivial)
  have hF15 := hF9.up (a := a) (k := 4) (z := 0) (by rw [k_a]; decide)
  generalize eσ13 : sv_up σ7 a 4 0 = σ13 at hok12 hI14 hF15 ⊢
  have t16 : σ13 a 2 = 0 := by rw [← eσ13, sv_up_k (by decide)]; exact t10
  have t17 : σ13 a 3 = 0 := by rw [← eσ13, sv_up_k (by decide)]; exact t11
  have t18 : σ13 a 4 = 0 := by rw [← eσ13]; exact sv_up_s _ _ _ _
  refine sv_go C.1 C.2.1 [(.aload_n 0, 1), (.iconst (-1), 1)] (pc' := 17) (by decide +kernel) rfl (lv' := [(0, sv_r a)]) (st' := [sv_i ((-1)), sv_r a]) rfl ?_
  refine sv_pf C (index := 22) (ci := 1) (k := 5) (r := (RX1, TX1, 6)) (z := (-1)) (by decide +kernel) (by rw [k_a]; rfl) rfl (by decide) rfl fl_X1_22 rfl (Or.inl rfl) ⟨by omega, by omega⟩ (hTA _ (by rw [k_a]; decide)) hok12 (fun hok19 => ?_)
  have hI21 := hI14.up (a := a) (k := 5) (z := (-1)) (by rw [k_a]; exact ⟨by omega, by omega⟩)
  have hF22 := hF15.up (a := a) (k := 5) (z := (-1)) (by rw [k_a]; decide)
  generalize eσ20 : sv_up σ13 a 5 ((-1)) = σ20 at hok19 hI21 hF22 ⊢
  have t23 : σ20 a 2 = 0 := by rw [← eσ20, sv_up_k (by decide)]; exact t16
  have t24 : σ20 a 3 = 0 := by rw [← eσ20, sv_up_k (by decide)]; exact t17
  have t25 : σ20 a 4 = 0 := by rw [← eσ20, sv_up_k (by decide)]; exact t18
  have t26 : σ20 a 5 = (-1) := by rw [← eσ20]; exact sv_up_s _ _ _ _
  refine sv_go C.1 C.2.1 [(.aload_n 0, 1)] (pc' := 21) (by decide +kernel) rfl (lv' := [(0, sv_r a)]) (st' := [sv_r a]) rfl ?_
  obtain ⟨q27, eq27, kq27⟩ := hI21.ref (k := 1) k_a rfl
  refine sv_gf C (index := 17) (ci := 1) (k := 1) (r := (RX1, TX1, 6)) (v := sv_r q27) (by decide +kernel) (by rw [k_a]; rfl) rfl (by decide) fl_X1_17 (congrArg sv_a eq27) ?_
  refine sv_go C.1 C.2.1 [(.iconst (-1), 1)] (pc' := 25) (by decide +kernel) rfl (lv' := [(0, sv_r a)]) (st' := [sv_i ((-1)), sv_r q27]) rfl ?_
  refine sv_cs C (index := 26) (k := 2) (rest := []) (by decide +kernel) (ct_fill l g A ty σ20 hok19 q27 9 (by rw [kq27]; rfl) (by decide) (hTA _ (by rw [kq27]; decide)) ((-1)) ⟨by omega, by omega⟩) ⟨co_J7_fill_53178, in_J7, ⟨by decide, by decide, by decide +kernel⟩, Nat.le_of_ble_eq_true rfl, Nat.le_of_ble_eq_true rfl⟩ ml_X1_26 st_J7_fill_53178 rfl rfl (Nat.le_of_ble_eq_true rfl) ⟨Nat.zero_le _, Nat.zero_le _⟩ (fun r29 σ30 hpo28 hok31 => ?_)
  obtain ⟨rfl, hOu32, hEu32, hRu32⟩ := hpo28
  have hIu32 := sv_fill_inv hI21 hOu32 kq27 (fun _ => rfl)
  have hFu32 := sv_fill_off hF22 hOu32 kq27 (by decide)
  have t33 : σ30 a 2 = 0 := (hOu32 _ (sv_ne k_a kq27 (by decide)) _).trans t23
  have t34 : σ30 a 3 = 0 := (hOu32 _ (sv_ne k_a kq27 (by decide)) _).trans t24
  have t35 : σ30 a 4 = 0 := (hOu32 _ (sv_ne k_a kq27 (by decide)) _).trans t25
  have t36 : σ30 a 5 = (-1) := (hOu32 _ (sv_ne k_a kq27 (by decide)) _).trans t26
  have t37 : σ30 a 1 = (q27 : Int) + 1 := (hOu32 _ (sv_ne k_a kq27 (by decide)) _).trans eq27
  refine sv_same (st2 := []) (lv2 := [(0, sv_r a)]) rfl rfl ?_
  exact sv_vret C hr (by decide +kernel) hok31 (⟨rfl, hIu32, hFu32⟩)

theorem fl_X6_19 : Cond.fieldLink RX6 19 "SaintsRoad$Reader" "calendar" "LSaintsRoad$Calendar;" ∈ lw_good := sv_mem 128 (by decide +kernel) rfl
theorem ml_X6_23 : Cond.methodLink RX6 23 yX1_clear ∈ lw_good := sv_mem 448 (by decide +kernel) rfl
theorem co_X1_clear : Cond.code yX1_clear cX1_clear 1 none ∈ lw_good := sv_mem 451 (by decide +kernel) rfl
theorem in_X1 : Cond.initialized RX1 ∈ lw_good := sv_mem 76 (by decide +kernel) rfl
theorem im_X1_clear : Cond.instanceMethod yX1_clear ∈ lw_good := sv_mem 449 (by decide +kernel) rfl
theorem se_X1_clear : Cond.selects RX1 yX1_clear yX1_clear ∈ lw_good := sv_mem 450 (by decide +kernel) rfl
theorem fl_X6_28 : Cond.fieldLink RX6 28 "SaintsRoad$Calendar" "feasts" "[LSaintsRoad$Feast;" ∈ lw_good := sv_mem 243 (by decide +kernel) rfl
theorem fl_X6_32 : Cond.fieldLink RX6 32 "SaintsRoad$Reader" "feast" "LSaintsRoad$Feast;" ∈ lw_good := sv_mem 129 (by decide +kernel) rfl
theorem fl_X6_36 : Cond.fieldLink RX6 36 "SaintsRoad$Reader" "state" "I" ∈ lw_good := sv_mem 130 (by decide +kernel) rfl
theorem fl_X6_42 : Cond.fieldLink RX6 42 "SaintsRoad$Reader" "faultKind" "I" ∈ lw_good := sv_mem 123 (by decide +kernel) rfl
theorem fl_X6_9 : Cond.fieldLink RX6 9 "SaintsRoad$Reader" "faultPlace" "I" ∈ lw_good := sv_mem 125 (by decide +kernel) rfl
theorem ml_X6_45 : Cond.methodLink RX6 45 yX6_readToken ∈ lw_good := sv_mem 452 (by decide +kernel) rfl
theorem co_X6_readToken : Cond.code yX6_readToken cX6_readToken 2 none ∈ lw_good := sv_mem 455 (by decide +kernel) rfl
theorem in_X6 : Cond.initialized RX6 ∈ lw_good := sv_mem 74 (by decide +kernel) rfl
theorem im_X6_readToken : Cond.instanceMethod yX6_readToken ∈ lw_good := sv_mem 454 (by decide +kernel) rfl
theorem se_X6_readToken : Cond.selects RX6 yX6_readToken yX6_readToken ∈ lw_good := sv_mem 0 (by decide +kernel) rfl
set_option maxHeartbeats 4000000 in
set_option maxRecDepth 100000 in
theorem ct_X6_readText (l : Launch) (g : sv_G) (A : Nat → Prop) (ty : Nat → Nat) (σ : Nat → Nat → Int) (hok : sv_ok ty σ) (hTA : ∀ q, ty q ≠ 0 → A q) (hI : sv_inv sp_1 ty σ) (a : Nat) (k_a : ty a = 3) (t : Nat) (k_t : ty t = 2) (b : Nat) (k_b : ty b = 7) (hl : σ t 1 = 0) : sv_M l yX6_readText cX6_readText 5 (some .boolean) { frames := 2, cells := 0, slots := 0, locals := 43 } g A ty σ [sv_r a, sv_r t, sv_r b] (fun r σ' => r = [sv_i 1] ∧ sv_inv sp_1 ty σ' ∧ sv_off [3, 7, 23] ty σ σ') := by
  refine sv_enter (by decide) (Nat.le_of_ble_eq_true rfl) ?_
  intro p e s m args below meth c C hr
  have C : sv_C g A RX6 cX6_readText 5 p s m args meth c := C
  have hr : meth.sig.returnType = (some .boolean) := hr
  have hF : sv_off [3, 7, 23] ty σ σ := sv_off.rf
  refine sv_same (st2 := []) (lv2 := [(0, sv_r a), (1, sv_r t), (2, sv_r b)]) rfl rfl ?_
  refine sv_go C.1 C.2.1 [(.aload_n 0, 1), (.aload_n 1, 1)] (pc' := 2) (by decide +kernel) rfl (lv' := [(0, sv_r a), (1, sv_r t), (2, sv_r b)]) (st' := [sv_r t, sv_r a]) rfl ?_
  refine sv_pf C (index := 15) (ci := 5) (k := 2) (r := (RX6, TX6, 13)) (z := (t : Int) + 1) (by decide +kernel) (by rw [k_a]; rfl) rfl (by decide) rfl fl_X6_15 rfl (Or.inr (Or.inr (Or.inr (Or.inr (Or.inl ⟨_, rfl⟩))))) (show (0 : Int) ≤ _ by omega) (hTA _ (by rw [k_a]; decide)) hok (fun hok1 => ?_)
  have hI3 := hI.up (a := a) (k := 2) (z := (t : Int) + 1) (by rw [k_a]; exact Or.inr ⟨_, rfl, k_t⟩)
  have hF4 := hF.up (a := a) (k := 2) (z := (t : Int) + 1) (by rw [k_a]; decide)
  generalize eσ2 : sv_up σ a 2 ((t : Int) + 1) = σ2 at hok1 hI3 hF4 ⊢
  have t5 : σ2 t 1 = 0 := by rw [← eσ2, sv_up_a (sv_ne k_t k_a (by decide))]; exact hl
  have t6 : σ2 a 2 = (t : Int) + 1 := by rw [← eσ2]; exact sv_up_s _ _ _ _
  refine sv_go C.1 C.2.1 [(.aload_n 0, 1), (.aload_n 2, 1)] (pc' := 7) (by decide +kernel) rfl (lv' := [(0, sv_r a), (1, sv_r t), (2, sv_r b)]) (st' := [sv_r b, sv_r a]) rfl ?_
  refine sv_pf C (index := 19) (ci := 5) (k := 3) (r := (RX6, TX6, 13)) (z := (b : Int) + 1) (by decide +kernel) (by rw [k_a]; rfl) rfl (by decide) rfl fl_X6_19 rfl (Or.inr (Or.inr (Or.inr (Or.inr (Or.inl ⟨_, rfl⟩))))) (show (0 : Int) ≤ _ by omega) (hTA _ (by rw [k_a]; decide)) hok1 (fun hok7 => ?_)
  have hI9 := hI3.up (a := a) (k := 3) (z := (b : Int) + 1) (by rw [k_a]; exact Or.inr ⟨_, rfl, k_b⟩)
  have hF10 := hF4.up (a := a) (k := 3) (z := (b : Int) + 1) (by rw [k_a]; decide)
  generalize eσ8 : sv_up σ2 a 3 ((b : Int) + 1) = σ8 at hok7 hI9 hF10 ⊢
  have t11 : σ8 t 1 = 0 := by rw [← eσ8, sv_up_a (sv_ne k_t k_a (by decide))]; exact t5
  have t12 : σ8 a 2 = (t : Int) + 1 := by rw [← eσ8, sv_up_k (by decide)]; exact t6
  have t13 : σ8 a 3 = (b : Int) + 1 := by rw [← eσ8]; exact sv_up_s _ _ _ _
  refine sv_go C.1 C.2.1 [(.aload_n 0, 1)] (pc' := 11) (by decide +kernel) rfl (lv' := [(0, sv_r a), (1, sv_r t), (2, sv_r b)]) (st' := [sv_r a]) rfl ?_
  refine sv_gf C (index := 19) (ci := 5) (k := 3) (r := (RX6, TX6, 13)) (v := sv_r b) (by decide +kernel) (by rw [k_a]; rfl) rfl (by decide) fl_X6_19 (congrArg sv_a t13) ?_
  refine sv_cv C (index := 23) (k := 0) (rest := []) (ci := 1) (r := (RX1, TX1, 6)) (by decide +kernel) (ct_X1_clear l g A ty σ8 hok7 hTA hI9 b k_b ) ⟨co_X1_clear, in_X1, ⟨by decide, by decide, by decide +kernel⟩, Nat.le_of_ble_eq_true rfl, Nat.le_of_ble_eq_true rfl⟩ ml_X6_23 im_X1_clear se_X1_clear (by rw [k_b]; rfl) rfl rfl rfl (Nat.le_of_ble_eq_true rfl) ⟨Nat.zero_le _, Nat.zero_le _⟩ (fun r15 σ16 hpo14 hok17 => ?_)
  obtain ⟨rfl, hIu18, hFu18⟩ := hpo14
  have hGu18 := hF10.tr hFu18 (by decide)
  have t19 : σ16 t 1 = 0 := (hFu18.at k_t (by decide)).trans t11
  have t20 : σ16 a 2 = (t : Int) + 1 := (hFu18.at k_a (by decide)).trans t12
  have t21 : σ16 a 3 = (b : Int) + 1 := (hFu18.at k_a (by decide)).trans t13
  refine sv_same (st2 := []) (lv2 := [(0, sv_r a), (1, sv_r t), (2, sv_r b)]) rfl rfl ?_
  refine sv_go C.1 C.2.1 [(.aload_n 0, 1), (.aload_n 0, 1)] (pc' := 19) (by decide +kernel) rfl (lv' := [(0, sv_r a), (1, sv_r t), (2, sv_r b)]) (st' := [sv_r a, sv_r a]) rfl ?_
  refine sv_gf C (index := 19) (ci := 5) (k := 3) (r := (RX6, TX6, 13)) (v := sv_r b) (by decide +kernel) (by rw [k_a]; rfl) rfl (by decide) fl_X6_19 (congrArg sv_a t21) ?_
  obtain ⟨q22, eq22, kq22⟩ := hIu18.ref (k := 0) k_b rfl
  refine sv_gf C (index := 28) (ci := 1) (k := 0) (r := (RX1, TX1, 6)) (v := sv_r q22) (by decide +kernel) (by rw [k_b]; rfl) rfl (by decide) fl_X6_28 (congrArg sv_a eq22) ?_
  refine sv_go C.1 C.2.1 [(.iconst 0, 1)] (pc' := 26) (by decide +kernel) rfl (lv' := [(0, sv_r a), (1, sv_r t), (2, sv_r b)]) (st' := [sv_i 0, sv_r q22, sv_r a]) rfl ?_
  refine sv_aa C (N := "SaintsRoad$Feast") (by decide) (n := 60) (by decide +kernel) (by rw [kq22]; rfl) (by decide) (by omega) (by omega) ?_
  obtain ⟨q23, eq23, kq23⟩ := hIu18.ref (k := (0 : Int).toNat) kq22 (by first | rfl | (show (if _ then _ else _) = _; rw [if_pos (by omega)]))
  rw [eq23]
  refine sv_pf C (index := 32) (ci := 5) (k := 4) (r := (RX6, TX6, 13)) (z := (q23 : Int) + 1) (by decide +kernel) (by rw [k_a]; rfl) rfl (by decide) rfl fl_X6_32 rfl (Or.inr (Or.inr (Or.inr (Or.inr (Or.inl ⟨_, rfl⟩))))) (show (0 : Int) ≤ _ by omega) (hTA _ (by rw [k_a]; decide)) hok17 (fun hok24 => ?_)
  have hI26 := hIu18.up (a := a) (k := 4) (z := (q23 : Int) + 1) (by rw [k_a]; exact Or.inr ⟨_, rfl, kq23⟩)
  have hF27 := hGu18.up (a := a) (k := 4) (z := (q23 : Int) + 1) (by rw [k_a]; decide)
  generalize eσ25 : sv_up σ16 a 4 ((q23 : Int) + 1) = σ25 at hok24 hI26 hF27 ⊢
  have t28 : σ25 t 1 = 0 := by rw [← eσ25, sv_up_a (sv_ne k_t k_a (by decide))]; exact t19
  have t29 : σ25 a 2 = (t : Int) + 1 := by rw [← eσ25, sv_up_k (by decide)]; exact t20
  have t30 : σ25 a 3 = (b : Int) + 1 := by rw [← eσ25, sv_up_k (by decide)]; exact t21
  have t31 : σ25 b 0 = (q22 : Int) + 1 := by rw [← eσ25, sv_up_a (sv_ne k_b k_a (by decide))]; exact eq22
  have t32 : σ25 q22 (0 : Int).toNat = (q23 : Int) + 1 := by rw [← eσ25, sv_up_a (sv_ne kq22 k_a (by decide))]; exact eq23
  have t33 : σ25 a 4 = (q23 : Int) + 1 := by rw [← eσ25]; exact sv_up_s _ _ _ _
  refine sv_go C.1 C.2.1 [(.aload_n 0, 1), (.iconst 0, 1)] (pc' := 32) (by decide +kernel) rfl (lv' := [(0, sv_r a), (1, sv_r t), (2, sv_r b)]) (st' := [sv_i 0, sv_r a]) rfl ?_
  refine sv_pf C (index := 36) (ci := 5) (k := 5) (r := (RX6, TX6, 13)) (z := 0) (by decide +kernel) (by rw [k_a]; rfl) rfl (by decide) rfl fl_X6_36 rfl (Or.inl rfl) ⟨by omega, by omega⟩ (hTA _ (by rw [k_a]; decide)) hok24 (fun hok34 => ?_)
  have hI36 := hI26.up (a := a) (k := 5) (z := 0) (by rw [k_a]; exact trivial)
  have hF37 := hF27.up (a := a) (k := 5) (z := 0) (by rw [k_a]; decide)
  generalize eσ35 : sv_up σ25 a 5 0 = σ35 at hok34 hI36 hF37 ⊢
  have t38 : σ35 t 1 = 0 := by rw [← eσ35, sv_up_a (sv_ne k_t k_a (by decide))]; exact t28
  have t39 : σ35 a 2 = (t : Int) + 1 := by rw [← eσ35, sv_up_k (by decide)]; exact t29
  have t40 : σ35 a 3 = (b : Int) + 1 := by rw [← eσ35, sv_up_k (by decide)]; exact t30
  have t41 : σ35 b 0 = (q22 : Int) + 1 := by rw [← eσ35, sv_up_a (sv_ne k_b k_a (by decide))]; exact t31
  have t42 : σ35 q22 (0 : Int).toNat = (q23 : Int) + 1 := by rw [← eσ35, sv_up_a (sv_ne kq22 k_a (by decide))]; exact t32
  have t43 : σ35 a 4 = (q23 : Int) + 1 := by rw [← eσ35, sv_up_k (by decide)]; exact t33
  have t44 : σ35 a 5 = 0 := by rw [← eσ35]; exact sv_up_s _ _ _ _
  refine sv_go C.1 C.2.1 [(.aload_n 0, 1), (.iconst 0, 1)] (pc' := 37) (by decide +kernel) rfl (lv' := [(0, sv_r a), (1, sv_r t), (2, sv_r b)]) (st' := [sv_i 0, sv_r a]) rfl ?_
  refine sv_pf C (index := 39) (ci := 5) (k := 6) (r := (RX6, TX6, 13)) (z := 0) (by decide +kernel) (by rw [k_a]; rfl) rfl (by decide) rfl fl_X6_39 rfl (Or.inl rfl) ⟨by omega, by omega⟩ (hTA _ (by rw [k_a]; decide)) hok34 (fun hok45 => ?_)
  have hI47 := hI36.up (a := a) (k := 6) (z := 0) (by rw [k_a]; exact trivial)
  have hF48 := hF37.up (a := a) (k := 6) (z := 0) (by rw [k_a]; decide)
  generalize eσ46 : sv_up σ35 a 6 0 = σ46 at hok45 hI47 hF48 ⊢
  have t49 : σ46 t 1 = 0 := by rw [← eσ46, sv_up_a (sv_ne k_t k_a (by decide))]; exact t38
  have t50 : σ46 a 2 = (t : Int) + 1 := by rw [← eσ46, sv_up_k (by decide)]; exact t39
  have t51 : σ46 a 3 = (b : Int) + 1 := by rw [← eσ46, sv_up_k (by decide)]; exact t40
  have t52 : σ46 b 0 = (q22 : Int) + 1 := by rw [← eσ46, sv_up_a (sv_ne k_b k_a (by decide))]; exact t41
  have t53 : σ46 q22 (0 : Int).toNat = (q23 : Int) + 1 := by rw [← eσ46, sv_up_a (sv_ne kq22 k_a (by decide))]; exact t42
  have t54 : σ46 a 4 = (q23 : Int) + 1 := by rw [← eσ46, sv_up_k (by decide)]; exact t43
  have t55 : σ46 a 5 = 0 := by rw [← eσ46, sv_up_k (by decide)]; exact t44
  have t56 : σ46 a 6 = 0 := by rw [← eσ46]; exact sv_up_s _ _ _ _
  refine sv_go C.1 C.2.1 [(.aload_n 0, 1), (.iconst 0, 1)] (pc' := 42) (by decide +kernel) rfl (lv' := [(0, sv_r a), (1, sv_r t), (2, sv_r b)]) (st' := [sv_i 0, sv_r a]) rfl ?_
  refine sv_pf C (index := 42) (ci := 5) (k := 0) (r := (RX6, TX6, 13)) (z := 0) (by decide +kernel) (by rw [k_a]; rfl) rfl (by decide) rfl fl_X6_42 rfl (Or.inl rfl) ⟨by omega, by omega⟩ (hTA _ (by rw [k_a]; decide)) hok45 (fun hok57 => ?_)
  have hI59 := hI47.up (a := a) (k := 0) (z := 0) (by rw [k_a]; exact trivial)
  have hF60 := hF48.up (a := a) (k := 0) (z := 0) (by rw [k_a]; decide)
  generalize eσ58 : sv_up σ46 a 0 0 = σ58 at hok57 hI59 hF60 ⊢
  have t61 : σ58 t 1 = 0 := by rw [← eσ58, sv_up_a (sv_ne k_t k_a (by decide))]; exact t49
  have t62 : σ58 a 2 = (t : Int) + 1 := by rw [← eσ58, sv_up_k (by decide)]; exact t50
  have t63 : σ58 a 3 = (b : Int) + 1 := by rw [← eσ58, sv_up_k (by decide)]; exact t51
  have t64 : σ58 b 0 = (q22 : Int) + 1 := by rw [← eσ58, sv_up_a (sv_ne k_b k_a (by decide))]; exact t52
  have t65 : σ58 q22 (0 : Int).toNat = (q23 : Int) + 1 := by rw [← eσ58, sv_up_a (sv_ne kq22 k_a (by decide))]; exact t53
  have t66 : σ58 a 4 = (q23 : Int) + 1 := by rw [← eσ58, sv_up_k (by decide)]; exact t54
  have t67 : σ58 a 5 = 0 := by rw [← eσ58, sv_up_k (by decide)]; exact t55
  have t68 : σ58 a 6 = 0 := by rw [← eσ58, sv_up_k (by decide)]; exact t56
  have t69 : σ58 a 0 = 0 := by rw [← eσ58]; exact sv_up_s _ _ _ _
  refine sv_go C.1 C.2.1 [(.aload_n 0, 1), (.iconst (-1), 1)] (pc' := 47) (by decide +kernel) rfl (lv' := [(0, sv_r a), (1, sv_r t), (2, sv_r b)]) (st' := [sv_i ((-1)), sv_r a]) rfl ?_
  refine sv_pf C (index := 9) (ci := 5) (k := 1) (r := (RX6, TX6, 13)) (z := (-1)) (by decide +kernel) (by rw [k_a]; rfl) rfl (by decide) rfl fl_X6_9 rfl (Or.inl rfl) ⟨by omega, by omega⟩ (hTA _ (by rw [k_a]; decide)) hok57 (fun hok70 => ?_)
  have hI72 := hI59.up (a := a) (k := 1) (z := (-1)) (by rw [k_a]; exact trivial)
  have hF73 := hF60.up (a := a) (k := 1) (z := (-1)) (by rw [k_a]; decide)
  generalize eσ71 : sv_up σ58 a 1 ((-1)) = σ71 at hok70 hI72 hF73 ⊢
  have t74 : σ71 t 1 = 0 := by rw [← eσ71, sv_up_a (sv_ne k_t k_a (by decide))]; exact t61
  have t75 : σ71 a 2 = (t : Int) + 1 := by rw [← eσ71, sv_up_k (by decide)]; exact t62
  have t76 : σ71 a 3 = (b : Int) + 1 := by rw [← eσ71, sv_up_k (by decide)]; exact t63
  have t77 : σ71 b 0 = (q22 : Int) + 1 := by rw [← eσ71, sv_up_a (sv_ne k_b k_a (by decide))]; exact t64
  have t78 : σ71 q22 (0 : Int).toNat = (q23 : Int) + 1 := by rw [← eσ71, sv_up_a (sv_ne kq22 k_a (by decide))]; exact t65
  have t79 : σ71 a 4 = (q23 : Int) + 1 := by rw [← eσ71, sv_up_k (by decide)]; exact t66
  have t80 : σ71 a 5 = 0 := by rw [← eσ71, sv_up_k (by decide)]; exact t67
  have t81 : σ71 a 6 = 0 := by rw [← eσ71, sv_up_k (by decide)]; exact t68
  have t82 : σ71 a 0 = 0 := by rw [← eσ71, sv_up_k (by decide)]; exact t69
  have t83 : σ71 a 1 = (-1) := by rw [← eσ71]; exact sv_up_s _ _ _ _
  refine sv_go C.1 C.2.1 [(.iconst 1, 1), (.istore_n 3, 1), (.iconst 0, 1), (.istore 4, 2), (.iload_n 3, 1)] (pc' := 56) (by decide +kernel) rfl (lv' := [(0, sv_r a), (1, sv_r t), (2, sv_r b), (3, sv_i 1), (4, sv_i 0)]) (st' := [sv_i 1]) rfl ?_
  refine sv_if_f C.1 C.2.1 (cnd := .eq) (off := 66) (tgt := 122) (by decide +kernel) (by decide) ⟨by omega, by omega⟩ (show ¬ (1 = 0) by omega) ?_
  refine sv_go C.1 C.2.1 [(.iload 4, 2), (.sipush 4000, 3)] (pc' := 64) (by decide +kernel) rfl (lv' := [(0, sv_r a), (1, sv_r t), (2, sv_r b), (3, sv_i 1), (4, sv_i 0)]) (st' := [sv_i 4000, sv_i 0]) rfl ?_
  refine sv_icmp_f C.1 C.2.1 (cnd := .gt) (off := 58) (tgt := 122) (by decide +kernel) (by decide) ⟨by omega, by omega⟩ ⟨by omega, by omega⟩ (show ¬ (4000 < 0) by omega) ?_
  refine sv_go C.1 C.2.1 [(.aload_n 0, 1)] (pc' := 68) (by decide +kernel) rfl (lv' := [(0, sv_r a), (1, sv_r t), (2, sv_r b), (3, sv_i 1), (4, sv_i 0)]) (st' := [sv_r a]) rfl ?_
  refine sv_cv C (index := 45) (k := 0) (rest := []) (ci := 5) (r := (RX6, TX6, 13)) (by decide +kernel) (ct_X6_readToken l g A ty σ71 hok70 hTA hI72 a k_a t k_t t75 t74 t81 t80 t82) ⟨co_X6_readToken, in_X6, ⟨by decide, by decide, by decide +kernel⟩, Nat.le_of_ble_eq_true rfl, Nat.le_of_ble_eq_true rfl⟩ ml_X6_45 im_X6_readToken se_X6_readToken (by rw [k_a]; rfl) rfl rfl rfl (Nat.le_of_ble_eq_true rfl) ⟨Nat.zero_le _, Nat.zero_le _⟩ (fun r85 σ86 hpo84 hok87 => ?_)
  obtain ⟨rfl, hIu88, hFu88, xu88, yu88, zu88⟩ := hpo84
  have hGu88 := hF73.tr hFu88 (by decide)
  have t89 : σ86 t 1 = 0 := (hFu88.at k_t (by decide)).trans t74
  have t90 : σ86 b 0 = (q22 : Int) + 1 := (hFu88.at k_b (by decide)).trans t77
  have t91 : σ86 q22 (0 : Int).toNat = (q23 : Int) + 1 := (hFu88.at kq22 (by decide)).trans t78
  refine sv_same (st2 := []) (lv2 := [(0, sv_r a), (1, sv_r t), (2, sv_r b), (3, sv_i 1), (4, sv_i 0)]) rfl rfl ?_
  refine sv_go C.1 C.2.1 [(.aload_n 0, 1)] (pc' := 72) (by decide +kernel) rfl (lv' := [(0, sv_r a), (1, sv_r t), (2, sv_r b), (3, sv_i 1), (4, sv_i 0)]) (st' := [sv_r a]) rfl ?_
  refine sv_gf C (index := 48) (ci := 5) (k := 7) (r := (RX6, TX6, 13)) (v := sv_i 0) (by decide +kernel) (by rw [k_a]; rfl) rfl (by decide) fl_X6_48 (congrArg sv_i xu88) ?_
  refine sv_if_f C.1 C.2.1 (cnd := .ne) (off := 10) (tgt := 85) (by decide +kernel) (by decide) ⟨by omega, by omega⟩ (show ¬ (0 ≠ 0) by omega) ?_
  refine sv_go C.1 C.2.1 [(.aload_n 0, 1)] (pc' := 79) (by decide +kernel) rfl (lv' := [(0, sv_r a), (1, sv_r t), (2, sv_r b), (3, sv_i 1), (4, sv_i 0)]) (st' := [sv_r a]) rfl ?_
  refine sv_gf C (index := 36) (ci := 5) (k := 5) (r := (RX6, TX6, 13)) (v := sv_i 0) (by decide +kernel) (by rw [k_a]; rfl) rfl (by decide) fl_X6_36 (congrArg sv_i yu88) ?_
  refine sv_if_t C.1 C.2.1 (cnd := .eq) (off := 7) (tgt := 89) (by decide +kernel) (by decide) ⟨by omega, by omega⟩ (show 0 = 0 by omega) ?_
  refine sv_go C.1 C.2.1 [(.iconst 0, 1), (.istore_n 3, 1), (.iload_n 3, 1)] (pc' := 92) (by decide +kernel) rfl (lv' := [(0, sv_r a), (1, sv_r t), (2, sv_r b), (3, sv_i 0), (4, sv_i 0)]) (st' := [sv_i 0]) rfl ?_
  refine sv_if_t C.1 C.2.1 (cnd := .eq) (off := 24) (tgt := 116) (by decide +kernel) (by decide) ⟨by omega, by omega⟩ (show 0 = 0 by omega) ?_
  refine sv_go C.1 C.2.1 [(.iinc 4 1, 3)] (pc' := 119) (by decide +kernel) rfl (lv' := [(0, sv_r a), (1, sv_r t), (2, sv_r b), (3, sv_i 0), (4, sv_i (0 + 1))]) (st' := []) rfl ?_
  refine sv_goto C.1 C.2.1 (off := (-64)) (tgt := 55) (by decide +kernel) (by decide) ?_
  refine sv_go C.1 C.2.1 [(.iload_n 3, 1)] (pc' := 56) (by decide +kernel) rfl (lv' := [(0, sv_r a), (1, sv_r t), (2, sv_r b), (3, sv_i 0), (4, sv_i (0 + 1))]) (st' := [sv_i 0]) rfl ?_
  refine sv_if_t C.1 C.2.1 (cnd := .eq) (off := 66) (tgt := 122) (by decide +kernel) (by decide) ⟨by omega, by omega⟩ (show 0 = 0 by omega) ?_
  refine sv_go C.1 C.2.1 [(.aload_n 0, 1)] (pc' := 123) (by decide +kernel) rfl (lv' := [(0, sv_r a), (1, sv_r t), (2, sv_r b), (3, sv_i 0), (4, sv_i (0 + 1))]) (st' := [sv_r a]) rfl ?_
  refine sv_gf C (index := 42) (ci := 5) (k := 0) (r := (RX6, TX6, 13)) (v := sv_i 0) (by decide +kernel) (by rw [k_a]; rfl) rfl (by decide) fl_X6_42 (congrArg sv_i zu88) ?_
  refine sv_if_t C.1 C.2.1 (cnd := .eq) (off := 11) (tgt := 137) (by decide +kernel) (by decide) ⟨by omega, by omega⟩ (show 0 = 0 by omega) ?_
  refine sv_go C.1 C.2.1 [(.aload_n 0, 1)] (pc' := 138) (by decide +kernel) rfl (lv' := [(0, sv_r a), (1, sv_r t), (2, sv_r b), (3, sv_i 0), (4, sv_i (0 + 1))]) (st' := [sv_r a]) rfl ?_
  refine sv_gf C (index := 42) (ci := 5) (k := 0) (r := (RX6, TX6, 13)) (v := sv_i 0) (by decide +kernel) (by rw [k_a]; rfl) rfl (by decide) fl_X6_42 (congrArg sv_i zu88) ?_
  refine sv_if_f C.1 C.2.1 (cnd := .ne) (off := 7) (tgt := 148) (by decide +kernel) (by decide) ⟨by omega, by omega⟩ (show ¬ (0 ≠ 0) by omega) ?_
  refine sv_go C.1 C.2.1 [(.iconst 1, 1)] (pc' := 145) (by decide +kernel) rfl (lv' := [(0, sv_r a), (1, sv_r t), (2, sv_r b), (3, sv_i 0), (4, sv_i (0 + 1))]) (st' := [sv_i 1]) rfl ?_
  refine sv_goto C.1 C.2.1 (off := 4) (tgt := 149) (by decide +kernel) (by decide) ?_
  exact sv_zret C hr (by first | exact Or.inl rfl | exact Or.inr rfl | omega) (by decide +kernel) hok87 (⟨rfl, hIu88, hGu88⟩)

set_option maxHeartbeats 4000000 in
set_option maxRecDepth 100000 in
theorem ct_X4_exchange (l : Launch) (g : sv_G) (A : Nat → Prop) (ty : Nat → Nat) (σ : Nat → Nat → Int) (hok : sv_ok ty σ) (hTA : ∀ q, ty q ≠ 0 → A q) (hI : sv_inv sp_1 ty σ) (a : Nat) (k_a : ty a = 4) (b : Nat) (k_b : ty b = 7) : sv_M l yX4_exchange cX4_exchange 3 (some (.object "SaintsRoad$Calendar")) { frames := 0, cells := 0, slots := 0, locals := 0 } g A ty σ [sv_r a, sv_r b] (fun r σ' => (∃ q : Nat, r = [sv_r q] ∧ ty q = 7) ∧ sv_inv sp_1 ty σ' ∧ sv_off [4] ty σ σ') := by
  refine sv_enter (by decide) (Nat.le_of_ble_eq_true rfl) ?_
  intro p e s m args below meth c C hr
  have C : sv_C g A RX4 cX4_exchange 3 p s m args meth c := C
  have hr : meth.sig.returnType = (some (.object "SaintsRoad$Calendar")) := hr
  have hF : sv_off [4] ty σ σ := sv_off.rf
  refine sv_same (st2 := []) (lv2 := [(0, sv_r a), (1, sv_r b)]) rfl rfl ?_
  refine sv_go C.1 C.2.1 [(.aload_n 0, 1)] (pc' := 1) (by decide +kernel) rfl (lv' := [(0, sv_r a), (1, sv_r b)]) (st' := [sv_r a]) rfl ?_
  obtain ⟨q1, eq1, kq1⟩ := hI.ref (k := 2) k_a rfl
  refine sv_gf C (index := 21) (ci := 3) (k := 2) (r := (RX4, TX4, 11)) (v := sv_r q1) (by decide +kernel) (by rw [k_a]; rfl) rfl (by decide) fl_X4_21 (congrArg sv_a eq1) ?_
  refine sv_go C.1 C.2.1 [(.astore_n 2, 1), (.aload_n 0, 1), (.aload_n 1, 1)] (pc' := 7) (by decide +kernel) rfl (lv' := [(0, sv_r a), (1, sv_r b), (2, sv_r q1)]) (st' := [sv_r b, sv_r a]) rfl ?_
  refine sv_pf C (index := 21) (ci := 3) (k := 2) (r := (RX4, TX4, 11)) (z := (b : Int) + 1) (by decide +kernel) (by rw [k_a]; rfl) rfl (by decide) rfl fl_X4_21 rfl (Or.inr (Or.inr (Or.inr (Or.inr (Or.inl ⟨_, rfl⟩))))) (show (0 : Int) ≤ _ by omega) (hTA _ (by rw [k_a]; decide)) hok (fun hok2 => ?_)
  have hI4 := hI.up (a := a) (k := 2) (z := (b : Int) + 1) (by rw [k_a]; exact Or.inr ⟨_, rfl, k_b⟩)
  have hF5 := hF.up (a := a) (k := 2) (z := (b : Int) + 1) (by rw [k_a]; decide)
  generalize eσ3 : sv_up σ a 2 ((b : Int) + 1) = σ3 at hok2 hI4 hF5 ⊢
  have t6 : σ3 a 2 = (b : Int) + 1 := by rw [← eσ3]; exact sv_up_s _ _ _ _
  refine sv_go C.1 C.2.1 [(.aload_n 0, 1), (.iconst 0, 1)] (pc' := 12) (by decide +kernel) rfl (lv' := [(0, sv_r a), (1, sv_r b), (2, sv_r q1)]) (st' := [sv_i 0, sv_r a]) rfl ?_
  refine sv_pf C (index := 37) (ci := 3) (k := 10) (r := (RX4, TX4, 11)) (z := 0) (by decide +kernel) (by rw [k_a]; rfl) rfl (by decide) rfl fl_X4_37 rfl (Or.inl rfl) ⟨by omega, by omega⟩ (hTA _ (by rw [k_a]; decide)) hok2 (fun hok7 => ?_)
  have hI9 := hI4.up (a := a) (k := 10) (z := 0) (by rw [k_a]; exact trivial)
  have hF10 := hF5.up (a := a) (k := 10) (z := 0) (by rw [k_a]; decide)
  generalize eσ8 : sv_up σ3 a 10 0 = σ8 at hok7 hI9 hF10 ⊢
  have t11 : σ8 a 2 = (b : Int) + 1 := by rw [← eσ8, sv_up_k (by decide)]; exact t6
  have t12 : σ8 a 10 = 0 := by rw [← eσ8]; exact sv_up_s _ _ _ _
  refine sv_go C.1 C.2.1 [(.aload_n 2, 1)] (pc' := 16) (by decide +kernel) rfl (lv' := [(0, sv_r a), (1, sv_r b), (2, sv_r q1)]) (st' := [sv_r q1]) rfl ?_
  exact sv_aret C hr (Or.inl ⟨_, rfl⟩) (by decide +kernel) hok7 (⟨⟨_, rfl, kq1⟩, hI9, hF10⟩)

theorem fl_X9_47 : Cond.fieldLink RX9 47 "SaintsRoad" "spare" "LSaintsRoad$Calendar;" ∈ lw_good := sv_mem 411 (by decide +kernel) rfl
theorem ml_X9_63 : Cond.methodLink RX9 63 yX6_readText ∈ lw_good := sv_mem 444 (by decide +kernel) rfl
theorem co_X6_readText : Cond.code yX6_readText cX6_readText 5 (some .boolean) ∈ lw_good := sv_mem 447 (by decide +kernel) rfl
theorem im_X6_readText : Cond.instanceMethod yX6_readText ∈ lw_good := sv_mem 445 (by decide +kernel) rfl
theorem se_X6_readText : Cond.selects RX6 yX6_readText yX6_readText ∈ lw_good := sv_mem 446 (by decide +kernel) rfl
theorem ml_X9_67 : Cond.methodLink RX9 67 yX4_exchange ∈ lw_good := sv_mem 618 (by decide +kernel) rfl
theorem co_X4_exchange : Cond.code yX4_exchange cX4_exchange 3 (some (.object "SaintsRoad$Calendar")) ∈ lw_good := sv_mem 621 (by decide +kernel) rfl
theorem im_X4_exchange : Cond.instanceMethod yX4_exchange ∈ lw_good := sv_mem 619 (by decide +kernel) rfl
theorem se_X4_exchange : Cond.selects RX4 yX4_exchange yX4_exchange ∈ lw_good := sv_mem 620 (by decide +kernel) rfl
set_option maxHeartbeats 4000000 in
set_option maxRecDepth 100000 in
theorem ct_X9_calendar (l : Launch) (g : sv_G) (A : Nat → Prop) (ty : Nat → Nat) (σ : Nat → Nat → Int) (hok : sv_ok ty σ) (hTA : ∀ q, ty q ≠ 0 → A q) (hI : sv_inv sp_1 ty σ) (hZ : sv_inv sp_0 ty σ) (a : Nat) (k_a : ty a = 1) (v1 : Int) (hv1 : sv_in v1) : sv_M l yX9_calendar cX9_calendar 3 (some .int) { frames := 3, cells := 0, slots := 0, locals := 67 } g A ty σ [sv_r a, sv_i v1] (fun r σ' => r = [sv_i (fx_cal v1)] ∧ sv_off [1, 2, 3, 4, 7, 23] ty σ σ') := by
  refine sv_enter (by decide) (Nat.le_of_ble_eq_true rfl) ?_
  intro p e s m args below meth c C hr
  have C : sv_C g A RX9 cX9_calendar 3 p s m args meth c := C
  have hr : meth.sig.returnType = (some .int) := hr
  have hF : sv_off [1, 2, 3, 4, 7, 23] ty σ σ := sv_off.rf
  refine sv_same (st2 := []) (lv2 := [(0, sv_r a), (1, sv_i v1)]) rfl rfl ?_
  refine sv_go C.1 C.2.1 [(.iload_n 1, 1)] (pc' := 1) (by decide +kernel) rfl (lv' := [(0, sv_r a), (1, sv_i v1)]) (st' := [sv_i v1]) rfl ?_
  refine sv_cs C (index := 59) (k := 1) (rest := []) (by decide +kernel) (ct_X9_isPlace l g A ty σ hok (v1) ⟨by omega, by omega⟩) ⟨co_X9_isPlace, in_X9, ⟨by decide, by decide, by decide +kernel⟩, Nat.le_of_ble_eq_true rfl, Nat.le_of_ble_eq_true rfl⟩ ml_X9_59 st_X9_isPlace rfl rfl (Nat.le_of_ble_eq_true rfl) ⟨Nat.zero_le _, Nat.zero_le _⟩ (fun r2 σ3 hpo1 hok4 => ?_)
  obtain ⟨rfl, ⟨h5, rfl⟩ | ⟨h5, rfl⟩⟩ := hpo1
  · refine sv_same (st2 := [sv_i 1]) (lv2 := [(0, sv_r a), (1, sv_i v1)]) rfl rfl ?_
    refine sv_if_t C.1 C.2.1 (cnd := .ne) (off := 6) (tgt := 10) (by decide +kernel) (by decide) ⟨by omega, by omega⟩ (show 1 ≠ 0 by omega) ?_
    refine sv_go C.1 C.2.1 [(.aload_n 0, 1)] (pc' := 11) (by decide +kernel) rfl (lv' := [(0, sv_r a), (1, sv_i v1)]) (st' := [sv_r a]) rfl ?_
    obtain ⟨q6, eq6, kq6⟩ := hI.ref (k := 1) k_a rfl
    refine sv_gf C (index := 19) (ci := 8) (k := 1) (r := (RX9, TX9, 6)) (v := sv_r q6) (by decide +kernel) (by rw [k_a]; rfl) rfl (by decide) fl_X9_19 (congrArg sv_a eq6) ?_
    refine sv_go C.1 C.2.1 [(.aload_n 0, 1)] (pc' := 15) (by decide +kernel) rfl (lv' := [(0, sv_r a), (1, sv_i v1)]) (st' := [sv_r a, sv_r q6]) rfl ?_
    obtain ⟨q7, eq7, kq7⟩ := hI.ref (k := 0) k_a rfl
    refine sv_gf C (index := 10) (ci := 8) (k := 0) (r := (RX9, TX9, 6)) (v := sv_r q7) (by decide +kernel) (by rw [k_a]; rfl) rfl (by decide) fl_X9_10 (congrArg sv_a eq7) ?_
    refine sv_go C.1 C.2.1 [(.aload_n 0, 1)] (pc' := 19) (by decide +kernel) rfl (lv' := [(0, sv_r a), (1, sv_i v1)]) (st' := [sv_r a, sv_r q7, sv_r q6]) rfl ?_
    obtain ⟨q8, eq8, kq8⟩ := hI.ref (k := 5) k_a rfl
    refine sv_gf C (index := 47) (ci := 8) (k := 5) (r := (RX9, TX9, 6)) (v := sv_r q8) (by decide +kernel) (by rw [k_a]; rfl) rfl (by decide) fl_X9_47 (congrArg sv_a eq8) ?_
    refine sv_cv C (index := 63) (k := 2) (rest := []) (ci := 5) (r := (RX6, TX6, 13)) (by decide +kernel) (ct_X6_readText l g A ty σ hok4 hTA hI q6 kq6 q7 kq7 q8 kq8 (by have z := hZ.num (k := 1) kq7 rfl; omega)) ⟨co_X6_readText, in_X6, ⟨by decide, by decide, by decide +kernel⟩, Nat.le_of_ble_eq_true rfl, Nat.le_of_ble_eq_true rfl⟩ ml_X9_63 im_X6_readText se_X6_readText (by rw [kq6]; rfl) rfl rfl rfl (Nat.le_of_ble_eq_true rfl) ⟨Nat.zero_le _, Nat.zero_le _⟩ (fun r10 σ11 hpo9 hok12 => ?_)
    obtain ⟨rfl, hIu13, hFu13⟩ := hpo9
    have hGu13 := hF.tr hFu13 (by decide)
    have t14 : σ11 a 1 = (q6 : Int) + 1 := (hFu13.at k_a (by decide)).trans eq6
    have t15 : σ11 a 0 = (q7 : Int) + 1 := (hFu13.at k_a (by decide)).trans eq7
    have t16 : σ11 a 5 = (q8 : Int) + 1 := (hFu13.at k_a (by decide)).trans eq8
    refine sv_same (st2 := [sv_i 1]) (lv2 := [(0, sv_r a), (1, sv_i v1)]) rfl rfl ?_
    refine sv_go C.1 C.2.1 [(.istore_n 2, 1), (.aload_n 0, 1)] (pc' := 27) (by decide +kernel) rfl (lv' := [(0, sv_r a), (1, sv_i v1), (2, sv_i 1)]) (st' := [sv_r a]) rfl ?_
    refine sv_gf C (index := 10) (ci := 8) (k := 0) (r := (RX9, TX9, 6)) (v := sv_r q7) (by decide +kernel) (by rw [k_a]; rfl) rfl (by decide) fl_X9_10 (congrArg sv_a t15) ?_
    refine sv_go C.1 C.2.1 [(.iconst 0, 1)] (pc' := 31) (by decide +kernel) rfl (lv' := [(0, sv_r a), (1, sv_i v1), (2, sv_i 1)]) (st' := [sv_i 0, sv_r q7]) rfl ?_
    refine sv_pf C (index := 51) (ci := 6) (k := 1) (r := (RX7, TX7, 2)) (z := 0) (by decide +kernel) (by rw [kq7]; rfl) rfl (by decide) rfl fl_X9_51 rfl (Or.inl rfl) ⟨by omega, by omega⟩ (hTA _ (by rw [kq7]; decide)) hok12 (fun hok17 => ?_)
    have hI19 := hIu13.up (a := q7) (k := 1) (z := 0) (by rw [kq7]; exact trivial)
    have hF20 := hGu13.up (a := q7) (k := 1) (z := 0) (by rw [kq7]; decide)
    generalize eσ18 : sv_up σ11 q7 1 0 = σ18 at hok17 hI19 hF20 ⊢
    have t21 : σ18 a 1 = (q6 : Int) + 1 := by rw [← eσ18, sv_up_a (sv_ne k_a kq7 (by decide))]; exact t14
    have t22 : σ18 a 0 = (q7 : Int) + 1 := by rw [← eσ18, sv_up_a (sv_ne k_a kq7 (by decide))]; exact t15
    have t23 : σ18 a 5 = (q8 : Int) + 1 := by rw [← eσ18, sv_up_a (sv_ne k_a kq7 (by decide))]; exact t16
    have t24 : σ18 q7 1 = 0 := by rw [← eσ18]; exact sv_up_s _ _ _ _
    refine sv_go C.1 C.2.1 [(.iload_n 2, 1)] (pc' := 35) (by decide +kernel) rfl (lv' := [(0, sv_r a), (1, sv_i v1), (2, sv_i 1)]) (st' := [sv_i 1]) rfl ?_
    refine sv_if_t C.1 C.2.1 (cnd := .ne) (off := 5) (tgt := 40) (by decide +kernel) (by decide) ⟨by omega, by omega⟩ (show 1 ≠ 0 by omega) ?_
    refine sv_go C.1 C.2.1 [(.aload_n 0, 1), (.aload_n 0, 1)] (pc' := 42) (by decide +kernel) rfl (lv' := [(0, sv_r a), (1, sv_i v1), (2, sv_i 1)]) (st' := [sv_r a, sv_r a]) rfl ?_
    obtain ⟨q25, eq25, kq25⟩ := hI19.ref (k := 2) k_a rfl
    refine sv_gf C (index := 25) (ci := 8) (k := 2) (r := (RX9, TX9, 6)) (v := sv_r q25) (by decide +kernel) (by rw [k_a]; rfl) rfl (by decide) fl_X9_25 (congrArg sv_a eq25) ?_
    refine sv_go C.1 C.2.1 [(.iload_n 1, 1)] (pc' := 46) (by decide +kernel) rfl (lv' := [(0, sv_r a), (1, sv_i v1), (2, sv_i 1)]) (st' := [sv_i v1, sv_r q25, sv_r a]) rfl ?_
    refine sv_aa C (N := "SaintsRoad$Place") (by decide) (n := 4) (by decide +kernel) (by rw [kq25]; rfl) (by decide) (by omega) (by omega) ?_
    obtain ⟨q26, eq26, kq26⟩ := hI19.ref (k := (v1 : Int).toNat) kq25 (by first | rfl | (show (if _ then _ else _) = _; rw [if_pos (by omega)]))
    rw [eq26]
    refine sv_go C.1 C.2.1 [(.aload_n 0, 1)] (pc' := 48) (by decide +kernel) rfl (lv' := [(0, sv_r a), (1, sv_i v1), (2, sv_i 1)]) (st' := [sv_r a, sv_r q26, sv_r a]) rfl ?_
    refine sv_gf C (index := 47) (ci := 8) (k := 5) (r := (RX9, TX9, 6)) (v := sv_r q8) (by decide +kernel) (by rw [k_a]; rfl) rfl (by decide) fl_X9_47 (congrArg sv_a t23) ?_
    refine sv_cv C (index := 67) (k := 1) (rest := [sv_r a]) (ci := 3) (r := (RX4, TX4, 11)) (by decide +kernel) (ct_X4_exchange l g A ty σ18 hok17 hTA hI19 q26 kq26 q8 kq8) ⟨co_X4_exchange, in_X4, ⟨by decide, by decide, by decide +kernel⟩, Nat.le_of_ble_eq_true rfl, Nat.le_of_ble_eq_true rfl⟩ ml_X9_67 im_X4_exchange se_X4_exchange (by rw [kq26]; rfl) rfl rfl rfl (Nat.le_of_ble_eq_true rfl) ⟨Nat.zero_le _, Nat.zero_le _⟩ (fun r28 σ29 hpo27 hok30 => ?_)
    obtain ⟨xu31, hIu31, hFu31⟩ := hpo27
    obtain ⟨qx38, rfl, kqx38⟩ := xu31
    have hGu31 := hF20.tr hFu31 (by decide)
    have t32 : σ29 a 1 = (q6 : Int) + 1 := (hFu31.at k_a (by decide)).trans t21
    have t33 : σ29 a 0 = (q7 : Int) + 1 := (hFu31.at k_a (by decide)).trans t22
    have t34 : σ29 a 5 = (q8 : Int) + 1 := (hFu31.at k_a (by decide)).trans t23
    have t35 : σ29 q7 1 = 0 := (hFu31.at kq7 (by decide)).trans t24
    have t36 : σ29 a 2 = (q25 : Int) + 1 := (hFu31.at k_a (by decide)).trans eq25
    have t37 : σ29 q25 (v1 : Int).toNat = (q26 : Int) + 1 := (hFu31.at kq25 (by decide)).trans eq26
    refine sv_same (st2 := [sv_r qx38, sv_r a]) (lv2 := [(0, sv_r a), (1, sv_i v1), (2, sv_i 1)]) rfl rfl ?_
    refine sv_pf C (index := 47) (ci := 8) (k := 5) (r := (RX9, TX9, 6)) (z := (qx38 : Int) + 1) (by decide +kernel) (by rw [k_a]; rfl) rfl (by decide) rfl fl_X9_47 rfl (Or.inr (Or.inr (Or.inr (Or.inr (Or.inl ⟨_, rfl⟩))))) (show (0 : Int) ≤ _ by omega) (hTA _ (by rw [k_a]; decide)) hok30 (fun hok39 => ?_)
    have hI41 := hIu31.up (a := a) (k := 5) (z := (qx38 : Int) + 1) (by rw [k_a]; exact Or.inr ⟨_, rfl, kqx38⟩)
    have hF42 := hGu31.up (a := a) (k := 5) (z := (qx38 : Int) + 1) (by rw [k_a]; decide)
    generalize eσ40 : sv_up σ29 a 5 ((qx38 : Int) + 1) = σ40 at hok39 hI41 hF42 ⊢
    have t43 : σ40 a 1 = (q6 : Int) + 1 := by rw [← eσ40, sv_up_k (by decide)]; exact t32
    have t44 : σ40 a 0 = (q7 : Int) + 1 := by rw [← eσ40, sv_up_k (by decide)]; exact t33
    have t45 : σ40 q7 1 = 0 := by rw [← eσ40, sv_up_a (sv_ne kq7 k_a (by decide))]; exact t35
    have t46 : σ40 a 2 = (q25 : Int) + 1 := by rw [← eσ40, sv_up_k (by decide)]; exact t36
    have t47 : σ40 q25 (v1 : Int).toNat = (q26 : Int) + 1 := by rw [← eσ40, sv_up_a (sv_ne kq25 k_a (by decide))]; exact t37
    have t48 : σ40 a 5 = (qx38 : Int) + 1 := by rw [← eσ40]; exact sv_up_s _ _ _ _
    refine sv_go C.1 C.2.1 [(.aload_n 0, 1)] (pc' := 58) (by decide +kernel) rfl (lv' := [(0, sv_r a), (1, sv_i v1), (2, sv_i 1)]) (st' := [sv_r a]) rfl ?_
    refine sv_gf C (index := 25) (ci := 8) (k := 2) (r := (RX9, TX9, 6)) (v := sv_r q25) (by decide +kernel) (by rw [k_a]; rfl) rfl (by decide) fl_X9_25 (congrArg sv_a t46) ?_
    refine sv_go C.1 C.2.1 [(.iload_n 1, 1)] (pc' := 62) (by decide +kernel) rfl (lv' := [(0, sv_r a), (1, sv_i v1), (2, sv_i 1)]) (st' := [sv_i v1, sv_r q25]) rfl ?_
    refine sv_aa C (N := "SaintsRoad$Place") (by decide) (n := 4) (by decide +kernel) (by rw [kq25]; rfl) (by decide) (by omega) (by omega) ?_
    rw [t47]
    obtain ⟨q49, eq49, kq49⟩ := hI41.ref (k := 2) kq26 rfl
    refine sv_gf C (index := 71) (ci := 3) (k := 2) (r := (RX4, TX4, 11)) (v := sv_r q49) (by decide +kernel) (by rw [kq26]; rfl) rfl (by decide) fl_X9_71 (congrArg sv_a eq49) ?_
    have t50 : σ40 q49 2 = 0 := by have q := hI41.num (k := 2) kq49 rfl; omega
    refine sv_gf C (index := 74) (ci := 1) (k := 2) (r := (RX1, TX1, 6)) (v := sv_i 0) (by decide +kernel) (by rw [kq49]; rfl) rfl (by decide) fl_X9_74 (congrArg sv_i t50) ?_
    exact sv_iret C hr (by decide +kernel) hok39 (⟨congrArg (fun q => [sv_i q]) (by first | omega | (unfold fx_cal; omega)), hF42⟩)
  · refine sv_same (st2 := [sv_i 0]) (lv2 := [(0, sv_r a), (1, sv_i v1)]) rfl rfl ?_
    refine sv_if_f C.1 C.2.1 (cnd := .ne) (off := 6) (tgt := 10) (by decide +kernel) (by decide) ⟨by omega, by omega⟩ (show ¬ (0 ≠ 0) by omega) ?_
    refine sv_go C.1 C.2.1 [(.bipush (-2), 2)] (pc' := 9) (by decide +kernel) rfl (lv' := [(0, sv_r a), (1, sv_i v1)]) (st' := [sv_i ((-2))]) rfl ?_
    exact sv_iret C hr (by decide +kernel) hok4 (⟨congrArg (fun q => [sv_i q]) (by first | omega | (unfold fx_cal; omega)), hF⟩)

theorem fl_X0_37 : Cond.fieldLink RX0 37 "SaintsRoad$Brotherhoods" "set" "I" ∈ lw_good := sv_mem 329 (by decide +kernel) rfl
theorem fl_X0_43 : Cond.fieldLink RX0 43 "SaintsRoad$Brotherhoods" "latestCarrier" "I" ∈ lw_good := sv_mem 330 (by decide +kernel) rfl
theorem fl_X0_9 : Cond.fieldLink RX0 9 "SaintsRoad$Brotherhoods" "carriedBy" "[I" ∈ lw_good := sv_mem 317 (by decide +kernel) rfl
theorem ml_X0_46 : Cond.methodLink RX0 46 yJ7_fill_53178 ∈ lw_good := sv_mem 839 (by decide +kernel) rfl
theorem fl_X0_18 : Cond.fieldLink RX0 18 "SaintsRoad$Brotherhoods" "latestTurn" "[I" ∈ lw_good := sv_mem 324 (by decide +kernel) rfl
set_option maxHeartbeats 4000000 in
set_option maxRecDepth 100000 in
theorem ct_X0_startTurns (l : Launch) (g : sv_G) (A : Nat → Prop) (ty : Nat → Nat) (σ : Nat → Nat → Int) (hok : sv_ok ty σ) (hTA : ∀ q, ty q ≠ 0 → A q) (hI : sv_inv sp_1 ty σ) (a : Nat) (k_a : ty a = 5) (v1 : Int) (hv1 : 1 ≤ v1 ∧ v1 ≤ 1023) : sv_M l yX0_startTurns cX0_startTurns 2 none { frames := 1, cells := 0, slots := 0, locals := 23 } g A ty σ [sv_r a, sv_i v1] (fun r σ' => r = [] ∧ sv_inv sp_1 ty σ' ∧ sv_off [5, 30, 32] ty σ σ' ∧ σ' a 2 = 0) := by
  refine sv_enter (by decide) (Nat.le_of_ble_eq_true rfl) ?_
  intro p e s m args below meth c C hr
  have C : sv_C g A RX0 cX0_startTurns 2 p s m args meth c := C
  have hr : meth.sig.returnType = none := hr
  have hF : sv_off [5, 30, 32] ty σ σ := sv_off.rf
  refine sv_same (st2 := []) (lv2 := [(0, sv_r a), (1, sv_i v1)]) rfl rfl ?_
  refine sv_go C.1 C.2.1 [(.aload_n 0, 1), (.iload_n 1, 1)] (pc' := 2) (by decide +kernel) rfl (lv' := [(0, sv_r a), (1, sv_i v1)]) (st' := [sv_i v1, sv_r a]) rfl ?_
  refine sv_pf C (index := 37) (ci := 0) (k := 9) (r := (RX0, TX0, 12)) (z := v1) (by decide +kernel) (by rw [k_a]; rfl) rfl (by decide) rfl fl_X0_37 rfl (Or.inl rfl) ⟨by omega, by omega⟩ (hTA _ (by rw [k_a]; decide)) hok (fun hok1 => ?_)
  have hI3 := hI.up (a := a) (k := 9) (z := v1) (by rw [k_a]; exact trivial)
  have hF4 := hF.up (a := a) (k := 9) (z := v1) (by rw [k_a]; decide)
  generalize eσ2 : sv_up σ a 9 v1 = σ2 at hok1 hI3 hF4 ⊢
  have t5 : σ2 a 9 = v1 := by rw [← eσ2]; exact sv_up_s _ _ _ _
  refine sv_go C.1 C.2.1 [(.aload_n 0, 1), (.iconst 0, 1)] (pc' := 7) (by decide +kernel) rfl (lv' := [(0, sv_r a), (1, sv_i v1)]) (st' := [sv_i 0, sv_r a]) rfl ?_
  refine sv_pf C (index := 40) (ci := 0) (k := 2) (r := (RX0, TX0, 12)) (z := 0) (by decide +kernel) (by rw [k_a]; rfl) rfl (by decide) rfl fl_X0_40 rfl (Or.inl rfl) ⟨by omega, by omega⟩ (hTA _ (by rw [k_a]; decide)) hok1 (fun hok6 => ?_)
  have hI8 := hI3.up (a := a) (k := 2) (z := 0) (by rw [k_a]; exact trivial)
  have hF9 := hF4.up (a := a) (k := 2) (z := 0) (by rw [k_a]; decide)
  generalize eσ7 : sv_up σ2 a 2 0 = σ7 at hok6 hI8 hF9 ⊢
  have t10 : σ7 a 9 = v1 := by rw [← eσ7, sv_up_k (by decide)]; exact t5
  have t11 : σ7 a 2 = 0 := by rw [← eσ7]; exact sv_up_s _ _ _ _
  refine sv_go C.1 C.2.1 [(.aload_n 0, 1), (.iconst (-1), 1)] (pc' := 12) (by decide +kernel) rfl (lv' := [(0, sv_r a), (1, sv_i v1)]) (st' := [sv_i ((-1)), sv_r a]) rfl ?_
  refine sv_pf C (index := 43) (ci := 0) (k := 10) (r := (RX0, TX0, 12)) (z := (-1)) (by decide +kernel) (by rw [k_a]; rfl) rfl (by decide) rfl fl_X0_43 rfl (Or.inl rfl) ⟨by omega, by omega⟩ (hTA _ (by rw [k_a]; decide)) hok6 (fun hok12 => ?_)
  have hI14 := hI8.up (a := a) (k := 10) (z := (-1)) (by rw [k_a]; exact trivial)
  have hF15 := hF9.up (a := a) (k := 10) (z := (-1)) (by rw [k_a]; decide)
  generalize eσ13 : sv_up σ7 a 10 ((-1)) = σ13 at hok12 hI14 hF15 ⊢
  have t16 : σ13 a 9 = v1 := by rw [← eσ13, sv_up_k (by decide)]; exact t10
  have t17 : σ13 a 2 = 0 := by rw [← eσ13, sv_up_k (by decide)]; exact t11
  have t18 : σ13 a 10 = (-1) := by rw [← eσ13]; exact sv_up_s _ _ _ _
  refine sv_go C.1 C.2.1 [(.aload_n 0, 1)] (pc' := 16) (by decide +kernel) rfl (lv' := [(0, sv_r a), (1, sv_i v1)]) (st' := [sv_r a]) rfl ?_
  obtain ⟨q19, eq19, kq19⟩ := hI14.ref (k := 0) k_a rfl
  refine sv_gf C (index := 9) (ci := 0) (k := 0) (r := (RX0, TX0, 12)) (v := sv_r q19) (by decide +kernel) (by rw [k_a]; rfl) rfl (by decide) fl_X0_9 (congrArg sv_a eq19) ?_
  refine sv_go C.1 C.2.1 [(.iconst 0, 1)] (pc' := 20) (by decide +kernel) rfl (lv' := [(0, sv_r a), (1, sv_i v1)]) (st' := [sv_i 0, sv_r q19]) rfl ?_
  refine sv_cs C (index := 46) (k := 2) (rest := []) (by decide +kernel) (ct_fill l g A ty σ13 hok12 q19 10 (by rw [kq19]; rfl) (by decide) (hTA _ (by rw [kq19]; decide)) (0) ⟨by omega, by omega⟩) ⟨co_J7_fill_53178, in_J7, ⟨by decide, by decide, by decide +kernel⟩, Nat.le_of_ble_eq_true rfl, Nat.le_of_ble_eq_true rfl⟩ ml_X0_46 st_J7_fill_53178 rfl rfl (Nat.le_of_ble_eq_true rfl) ⟨Nat.zero_le _, Nat.zero_le _⟩ (fun r21 σ22 hpo20 hok23 => ?_)
  obtain ⟨rfl, hOu24, hEu24, hRu24⟩ := hpo20
  have hIu24 := sv_fill_inv hI14 hOu24 kq19 (fun _ => rfl)
  have hFu24 := sv_fill_off hF15 hOu24 kq19 (by decide)
  have t25 : σ22 a 9 = v1 := (hOu24 _ (sv_ne k_a kq19 (by decide)) _).trans t16
  have t26 : σ22 a 2 = 0 := (hOu24 _ (sv_ne k_a kq19 (by decide)) _).trans t17
  have t27 : σ22 a 10 = (-1) := (hOu24 _ (sv_ne k_a kq19 (by decide)) _).trans t18
  have t28 : σ22 a 0 = (q19 : Int) + 1 := (hOu24 _ (sv_ne k_a kq19 (by decide)) _).trans eq19
  refine sv_same (st2 := []) (lv2 := [(0, sv_r a), (1, sv_i v1)]) rfl rfl ?_
  refine sv_go C.1 C.2.1 [(.aload_n 0, 1)] (pc' := 24) (by decide +kernel) rfl (lv' := [(0, sv_r a), (1, sv_i v1)]) (st' := [sv_r a]) rfl ?_
  obtain ⟨q29, eq29, kq29⟩ := hIu24.ref (k := 4) k_a rfl
  refine sv_gf C (index := 18) (ci := 0) (k := 4) (r := (RX0, TX0, 12)) (v := sv_r q29) (by decide +kernel) (by rw [k_a]; rfl) rfl (by decide) fl_X0_18 (congrArg sv_a eq29) ?_
  refine sv_go C.1 C.2.1 [(.iconst (-1), 1)] (pc' := 28) (by decide +kernel) rfl (lv' := [(0, sv_r a), (1, sv_i v1)]) (st' := [sv_i ((-1)), sv_r q29]) rfl ?_
  refine sv_cs C (index := 46) (k := 2) (rest := []) (by decide +kernel) (ct_fill l g A ty σ22 hok23 q29 10 (by rw [kq29]; rfl) (by decide) (hTA _ (by rw [kq29]; decide)) ((-1)) ⟨by omega, by omega⟩) ⟨co_J7_fill_53178, in_J7, ⟨by decide, by decide, by decide +kernel⟩, Nat.le_of_ble_eq_true rfl, Nat.le_of_ble_eq_true rfl⟩ ml_X0_46 st_J7_fill_53178 rfl rfl (Nat.le_of_ble_eq_true rfl) ⟨Nat.zero_le _, Nat.zero_le _⟩ (fun r31 σ32 hpo30 hok33 => ?_)
  obtain ⟨rfl, hOu34, hEu34, hRu34⟩ := hpo30
  have hIu34 := sv_fill_inv hIu24 hOu34 kq29 (fun _ => rfl)
  have hFu34 := sv_fill_off hFu24 hOu34 kq29 (by decide)
  have t35 : σ32 a 9 = v1 := (hOu34 _ (sv_ne k_a kq29 (by decide)) _).trans t25
  have t36 : σ32 a 2 = 0 := (hOu34 _ (sv_ne k_a kq29 (by decide)) _).trans t26
  have t37 : σ32 a 10 = (-1) := (hOu34 _ (sv_ne k_a kq29 (by decide)) _).trans t27
  have t38 : σ32 a 0 = (q19 : Int) + 1 := (hOu34 _ (sv_ne k_a kq29 (by decide)) _).trans t28
  have t39 : σ32 a 4 = (q29 : Int) + 1 := (hOu34 _ (sv_ne k_a kq29 (by decide)) _).trans eq29
  refine sv_same (st2 := []) (lv2 := [(0, sv_r a), (1, sv_i v1)]) rfl rfl ?_
  exact sv_vret C hr (by decide +kernel) hok33 (⟨rfl, hIu34, hFu34, t36⟩)

theorem ml_X9_237 : Cond.methodLink RX9 237 yX4_feastHeldOn ∈ lw_good := sv_mem 844 (by decide +kernel) rfl
set_option maxHeartbeats 4000000 in
set_option maxRecDepth 100000 in
theorem ct_X9_carryAll (l : Launch) (g : sv_G) (A : Nat → Prop) (ty : Nat → Nat) (σ : Nat → Nat → Int) (hok : sv_ok ty σ) (hI : sv_inv sp_1 ty σ) (a : Nat) (b : Nat) (k_b : ty b = 4) (y : Int) (hy : 1 ≤ y ∧ y ≤ 2000) (hP : pl_st σ b y) (v : Int) (hv : sv_in v) : sv_M l yX9_carryAll cX9_carryAll 7 none { frames := 2, cells := 0, slots := 0, locals := 40 } g A ty σ [sv_r a, sv_r b, sv_i y, sv_i v] (fun r σ' => σ = σ' ∧ r = []) := by
  refine sv_enter (by decide) (Nat.le_of_ble_eq_true rfl) ?_
  intro p e s m args below meth c C hr
  have C : sv_C g A RX9 cX9_carryAll 7 p s m args meth c := C
  have hr : meth.sig.returnType = none := hr
  have hlp := dy_lp_in y
  refine sv_same (st2 := []) (lv2 := [(0, sv_r a), (1, sv_r b), (2, sv_i y), (3, sv_i v)]) rfl rfl ?_
  refine sv_go C.1 C.2.1 [(.iload_n 2, 1)] (pc' := 1) (by decide +kernel) rfl (lv' := [(0, sv_r a), (1, sv_r b), (2, sv_i y), (3, sv_i v)]) (st' := [sv_i y]) rfl ?_
  refine sv_cs C (index := 148) (k := 1) (rest := []) (by decide +kernel) (ct_X2_length l g A ty σ hok (y) ⟨by omega, by omega⟩) ⟨co_X2_length, in_X2, ⟨by decide, by decide, by decide +kernel⟩, Nat.le_of_ble_eq_true rfl, Nat.le_of_ble_eq_true rfl⟩ ml_X9_148 st_X2_length rfl rfl (Nat.le_of_ble_eq_true rfl) ⟨Nat.zero_le _, Nat.zero_le _⟩ (fun r2 σ3 hpo1 hok4 => ?_)
  obtain ⟨rfl, rfl⟩ := hpo1
  refine sv_same (st2 := [sv_i (365 + dy_lp y)]) (lv2 := [(0, sv_r a), (1, sv_r b), (2, sv_i y), (3, sv_i v)]) rfl rfl ?_
  refine sv_go C.1 C.2.1 [(.istore 4, 2), (.iconst 0, 1), (.istore 5, 2)] (pc' := 9) (by decide +kernel) rfl (lv' := [(0, sv_r a), (1, sv_r b), (2, sv_i y), (3, sv_i v), (4, sv_i (365 + dy_lp y)), (5, sv_i 0)]) (st' := []) rfl ?_
  have L5 : ∀ (n : Nat) (X : Int) , (0 ≤ X ∧ X ≤ 365 + dy_lp y) → (365 + dy_lp y - X) < (n : Int) → sv_E p l e { frames := 2, cells := 0, slots := 0, locals := 40 } s m args below meth c 7 g A ty (fun r σ' => σ = σ' ∧ r = []) σ 9 [(0, sv_r a), (1, sv_r b), (2, sv_i y), (3, sv_i v), (4, sv_i (365 + dy_lp y)), (5, sv_i X)] [] := by
    intro n
    induction n with
    | zero => intro X  hX hmu; exact absurd hmu (by omega)
    | succ n ih6 =>
      intro X  hX hmu
      refine sv_go C.1 C.2.1 [(.iload 5, 2), (.iload 4, 2)] (pc' := 13) (by decide +kernel) rfl (lv' := [(0, sv_r a), (1, sv_r b), (2, sv_i y), (3, sv_i v), (4, sv_i (365 + dy_lp y)), (5, sv_i X)]) (st' := [sv_i (365 + dy_lp y), sv_i X]) rfl ?_
      refine sv_icmp C.1 C.2.1 (cnd := .ge) (off := 48) (tgt := 61) (by decide +kernel) (by decide) ⟨by omega, by omega⟩ ⟨by omega, by omega⟩ (fun (h7 : (365 + dy_lp y) ≤ X) => ?_) (fun (h7 : ¬ ((365 + dy_lp y) ≤ X)) => ?_)
      · exact sv_vret C hr (by decide +kernel) hok4 (⟨rfl, rfl⟩)
      · refine sv_go C.1 C.2.1 [(.aload_n 1, 1), (.iload 5, 2)] (pc' := 19) (by decide +kernel) rfl (lv' := [(0, sv_r a), (1, sv_r b), (2, sv_i y), (3, sv_i v), (4, sv_i (365 + dy_lp y)), (5, sv_i X)]) (st' := [sv_i X, sv_r b]) rfl ?_
        refine sv_cv C (index := 237) (k := 1) (rest := []) (ci := 3) (r := (RX4, TX4, 11)) (by decide +kernel) (ct_X4_feastHeldOn l g A ty σ hok4 hI b k_b (y) ⟨by omega, by omega⟩ hP (X) ⟨by omega, by omega⟩) ⟨co_X4_feastHeldOn, in_X4, ⟨by decide, by decide, by decide +kernel⟩, Nat.le_of_ble_eq_true rfl, Nat.le_of_ble_eq_true rfl⟩ ml_X9_237 im_X4_feastHeldOn se_X4_feastHeldOn (by rw [k_b]; rfl) rfl rfl rfl (Nat.le_of_ble_eq_true rfl) ⟨Nat.zero_le _, Nat.zero_le _⟩ (fun r9 σ10 hpo8 hok11 => ?_)
        obtain ⟨rfl, rfl⟩ := hpo8
        refine sv_same (st2 := [sv_a 0]) (lv2 := [(0, sv_r a), (1, sv_r b), (2, sv_i y), (3, sv_i v), (4, sv_i (365 + dy_lp y)), (5, sv_i X)]) rfl rfl ?_
        refine sv_go C.1 C.2.1 [(.astore 6, 2), (.aload 6, 2)] (pc' := 26) (by decide +kernel) rfl (lv' := [(0, sv_r a), (1, sv_r b), (2, sv_i y), (3, sv_i v), (4, sv_i (365 + dy_lp y)), (5, sv_i X), (6, sv_a 0)]) (st' := [sv_a 0]) rfl ?_
        refine sv_ifnull C.1 C.2.1 (off := 29) (tgt := 55) (by decide +kernel) (by decide) (by omega) (fun _ => ?_) (fun (h12 : 0 < 0) => absurd h12 (by omega))
        refine sv_go C.1 C.2.1 [(.iinc 5 1, 3)] (pc' := 58) (by decide +kernel) rfl (lv' := [(0, sv_r a), (1, sv_r b), (2, sv_i y), (3, sv_i v), (4, sv_i (365 + dy_lp y)), (5, sv_i (X + 1)), (6, sv_a 0)]) (st' := []) rfl ?_
        refine sv_goto C.1 C.2.1 (off := (-49)) (tgt := 9) (by decide +kernel) (by decide) ?_
        refine sv_pick [0, 1, 2, 3, 4, 5] (lv2 := [(0, sv_r a), (1, sv_r b), (2, sv_i y), (3, sv_i v), (4, sv_i (365 + dy_lp y)), (5, sv_i (X + 1))]) rfl ?_
        exact ih6 (X + 1)  (by omega) (by omega)
  exact L5 (((365 + dy_lp y - 0 : Int)).toNat + 1) 0  (by omega) (by omega)

theorem ml_X9_161 : Cond.methodLink RX9 161 yX0_startTurns ∈ lw_good := sv_mem 835 (by decide +kernel) rfl
theorem co_X0_startTurns : Cond.code yX0_startTurns cX0_startTurns 2 none ∈ lw_good := sv_mem 838 (by decide +kernel) rfl
theorem im_X0_startTurns : Cond.instanceMethod yX0_startTurns ∈ lw_good := sv_mem 836 (by decide +kernel) rfl
theorem se_X0_startTurns : Cond.selects RX0 yX0_startTurns yX0_startTurns ∈ lw_good := sv_mem 837 (by decide +kernel) rfl
theorem fl_X9_168 : Cond.fieldLink RX9 168 "SaintsRoad$Brotherhoods" "turns" "I" ∈ lw_good := sv_mem 322 (by decide +kernel) rfl
theorem ml_X9_164 : Cond.methodLink RX9 164 yX9_carryAll ∈ lw_good := sv_mem 840 (by decide +kernel) rfl
theorem co_X9_carryAll : Cond.code yX9_carryAll cX9_carryAll 7 none ∈ lw_good := sv_mem 843 (by decide +kernel) rfl
theorem im_X9_carryAll : Cond.instanceMethod yX9_carryAll ∈ lw_good := sv_mem 842 (by decide +kernel) rfl
theorem se_X9_carryAll : Cond.selects RX9 yX9_carryAll yX9_carryAll ∈ lw_good := sv_mem 31 (by decide +kernel) rfl
set_option maxHeartbeats 4000000 in
set_option maxRecDepth 100000 in
theorem ct_X9_rota (l : Launch) (g : sv_G) (A : Nat → Prop) (ty : Nat → Nat) (σ : Nat → Nat → Int) (hok : sv_ok ty σ) (hTA : ∀ q, ty q ≠ 0 → A q) (hI : sv_inv sp_1 ty σ) (hZ : sv_inv sp_0 ty σ) (a : Nat) (k_a : ty a = 1) (v1 : Int) (hv1 : sv_in v1) (f : Int) (hf : sv_in f) (t : Int) (ht : sv_in t) (v4 : Int) (hv4 : sv_in v4) (v5 : Int) (hv5 : sv_in v5) : sv_M l yX9_rota cX9_rota 7 (some .int) { frames := 4, cells := 0, slots := 0, locals := 87 } g A ty σ [sv_r a, sv_i v1, sv_i f, sv_i t, sv_i v4, sv_i v5] (fun r σ' => r = [sv_i (fx_rota v1 f t v4 v5)] ∧ sv_off [4, 25, 5, 30, 32] ty σ σ') := by
  refine sv_enter (by decide) (Nat.le_of_ble_eq_true rfl) ?_
  intro p e s m args below meth c C hr
  have C : sv_C g A RX9 cX9_rota 7 p s m args meth c := C
  have hr : meth.sig.returnType = (some .int) := hr
  have hF : sv_off [4, 25, 5, 30, 32] ty σ σ := sv_off.rf
  refine sv_same (st2 := []) (lv2 := [(0, sv_r a), (1, sv_i v1), (2, sv_i f), (3, sv_i t), (4, sv_i v4), (5, sv_i v5)]) rfl rfl ?_
  refine sv_go C.1 C.2.1 [(.iload_n 1, 1)] (pc' := 1) (by decide +kernel) rfl (lv' := [(0, sv_r a), (1, sv_i v1), (2, sv_i f), (3, sv_i t), (4, sv_i v4), (5, sv_i v5)]) (st' := [sv_i v1]) rfl ?_
  refine sv_cs C (index := 59) (k := 1) (rest := []) (by decide +kernel) (ct_X9_isPlace l g A ty σ hok (v1) ⟨by omega, by omega⟩) ⟨co_X9_isPlace, in_X9, ⟨by decide, by decide, by decide +kernel⟩, Nat.le_of_ble_eq_true rfl, Nat.le_of_ble_eq_true rfl⟩ ml_X9_59 st_X9_isPlace rfl rfl (Nat.le_of_ble_eq_true rfl) ⟨Nat.zero_le _, Nat.zero_le _⟩ (fun r2 σ3 hpo1 hok4 => ?_)
  obtain ⟨rfl, ⟨h5, rfl⟩ | ⟨h5, rfl⟩⟩ := hpo1
  · refine sv_same (st2 := [sv_i 1]) (lv2 := [(0, sv_r a), (1, sv_i v1), (2, sv_i f), (3, sv_i t), (4, sv_i v4), (5, sv_i v5)]) rfl rfl ?_
    refine sv_if_f C.1 C.2.1 (cnd := .eq) (off := 25) (tgt := 29) (by decide +kernel) (by decide) ⟨by omega, by omega⟩ (show ¬ (1 = 0) by omega) ?_
    refine sv_go C.1 C.2.1 [(.iload 4, 2)] (pc' := 9) (by decide +kernel) rfl (lv' := [(0, sv_r a), (1, sv_i v1), (2, sv_i f), (3, sv_i t), (4, sv_i v4), (5, sv_i v5)]) (st' := [sv_i v4]) rfl ?_
    refine sv_cs C (index := 137) (k := 1) (rest := []) (by decide +kernel) (ct_X9_isRank l g A ty σ hok4 (v4) ⟨by omega, by omega⟩) ⟨co_X9_isRank, in_X9, ⟨by decide, by decide, by decide +kernel⟩, Nat.le_of_ble_eq_true rfl, Nat.le_of_ble_eq_true rfl⟩ ml_X9_137 st_X9_isRank rfl rfl (Nat.le_of_ble_eq_true rfl) ⟨Nat.zero_le _, Nat.zero_le _⟩ (fun r7 σ8 hpo6 hok9 => ?_)
    obtain ⟨rfl, ⟨h10, rfl⟩ | ⟨h10, rfl⟩⟩ := hpo6
    · refine sv_same (st2 := [sv_i 1]) (lv2 := [(0, sv_r a), (1, sv_i v1), (2, sv_i f), (3, sv_i t), (4, sv_i v4), (5, sv_i v5)]) rfl rfl ?_
      refine sv_if_f C.1 C.2.1 (cnd := .eq) (off := 17) (tgt := 29) (by decide +kernel) (by decide) ⟨by omega, by omega⟩ (show ¬ (1 = 0) by omega) ?_
      refine sv_go C.1 C.2.1 [(.iload 5, 2), (.iconst 1, 1)] (pc' := 18) (by decide +kernel) rfl (lv' := [(0, sv_r a), (1, sv_i v1), (2, sv_i f), (3, sv_i t), (4, sv_i v4), (5, sv_i v5)]) (st' := [sv_i 1, sv_i v5]) rfl ?_
      refine sv_icmp C.1 C.2.1 (cnd := .lt) (off := 11) (tgt := 29) (by decide +kernel) (by decide) ⟨by omega, by omega⟩ ⟨by omega, by omega⟩ (fun (h11 : v5 < 1) => ?_) (fun (h11 : ¬ (v5 < 1)) => ?_)
      · refine sv_go C.1 C.2.1 [(.bipush (-2), 2)] (pc' := 31) (by decide +kernel) rfl (lv' := [(0, sv_r a), (1, sv_i v1), (2, sv_i f), (3, sv_i t), (4, sv_i v4), (5, sv_i v5)]) (st' := [sv_i ((-2))]) rfl ?_
        exact sv_iret C hr (by decide +kernel) hok9 (⟨congrArg (fun q => [sv_i q]) (by first | omega | (unfold fx_rota; omega)), hF⟩)
      · refine sv_go C.1 C.2.1 [(.iload 5, 2), (.sipush 1023, 3)] (pc' := 26) (by decide +kernel) rfl (lv' := [(0, sv_r a), (1, sv_i v1), (2, sv_i f), (3, sv_i t), (4, sv_i v4), (5, sv_i v5)]) (st' := [sv_i 1023, sv_i v5]) rfl ?_
        refine sv_icmp C.1 C.2.1 (cnd := .le) (off := 6) (tgt := 32) (by decide +kernel) (by decide) ⟨by omega, by omega⟩ ⟨by omega, by omega⟩ (fun (h12 : v5 ≤ 1023) => ?_) (fun (h12 : ¬ (v5 ≤ 1023)) => ?_)
        · refine sv_go C.1 C.2.1 [(.iload_n 2, 1)] (pc' := 33) (by decide +kernel) rfl (lv' := [(0, sv_r a), (1, sv_i v1), (2, sv_i f), (3, sv_i t), (4, sv_i v4), (5, sv_i v5)]) (st' := [sv_i f]) rfl ?_
          refine sv_cs C (index := 97) (k := 1) (rest := []) (by decide +kernel) (ct_X2_isYear l g A ty σ hok9 (f) ⟨by omega, by omega⟩) ⟨co_X2_isYear, in_X2, ⟨by decide, by decide, by decide +kernel⟩, Nat.le_of_ble_eq_true rfl, Nat.le_of_ble_eq_true rfl⟩ ml_X9_97 st_X2_isYear rfl rfl (Nat.le_of_ble_eq_true rfl) ⟨Nat.zero_le _, Nat.zero_le _⟩ (fun r14 σ15 hpo13 hok16 => ?_)
          obtain ⟨rfl, ⟨h17, rfl⟩ | ⟨h17, rfl⟩⟩ := hpo13
          · refine sv_same (st2 := [sv_i 1]) (lv2 := [(0, sv_r a), (1, sv_i v1), (2, sv_i f), (3, sv_i t), (4, sv_i v4), (5, sv_i v5)]) rfl rfl ?_
            refine sv_if_f C.1 C.2.1 (cnd := .eq) (off := 23) (tgt := 59) (by decide +kernel) (by decide) ⟨by omega, by omega⟩ (show ¬ (1 = 0) by omega) ?_
            refine sv_go C.1 C.2.1 [(.iload_n 3, 1)] (pc' := 40) (by decide +kernel) rfl (lv' := [(0, sv_r a), (1, sv_i v1), (2, sv_i f), (3, sv_i t), (4, sv_i v4), (5, sv_i v5)]) (st' := [sv_i t]) rfl ?_
            refine sv_cs C (index := 97) (k := 1) (rest := []) (by decide +kernel) (ct_X2_isYear l g A ty σ hok16 (t) ⟨by omega, by omega⟩) ⟨co_X2_isYear, in_X2, ⟨by decide, by decide, by decide +kernel⟩, Nat.le_of_ble_eq_true rfl, Nat.le_of_ble_eq_true rfl⟩ ml_X9_97 st_X2_isYear rfl rfl (Nat.le_of_ble_eq_true rfl) ⟨Nat.zero_le _, Nat.zero_le _⟩ (fun r19 σ20 hpo18 hok21 => ?_)
            obtain ⟨rfl, ⟨h22, rfl⟩ | ⟨h22, rfl⟩⟩ := hpo18
            · refine sv_same (st2 := [sv_i 1]) (lv2 := [(0, sv_r a), (1, sv_i v1), (2, sv_i f), (3, sv_i t), (4, sv_i v4), (5, sv_i v5)]) rfl rfl ?_
              refine sv_if_f C.1 C.2.1 (cnd := .eq) (off := 16) (tgt := 59) (by decide +kernel) (by decide) ⟨by omega, by omega⟩ (show ¬ (1 = 0) by omega) ?_
              refine sv_go C.1 C.2.1 [(.iload_n 2, 1), (.iload_n 3, 1)] (pc' := 48) (by decide +kernel) rfl (lv' := [(0, sv_r a), (1, sv_i v1), (2, sv_i f), (3, sv_i t), (4, sv_i v4), (5, sv_i v5)]) (st' := [sv_i t, sv_i f]) rfl ?_
              refine sv_icmp C.1 C.2.1 (cnd := .gt) (off := 11) (tgt := 59) (by decide +kernel) (by decide) ⟨by omega, by omega⟩ ⟨by omega, by omega⟩ (fun (h23 : t < f) => ?_) (fun (h23 : ¬ (t < f)) => ?_)
              · refine sv_go C.1 C.2.1 [(.bipush (-2), 2)] (pc' := 61) (by decide +kernel) rfl (lv' := [(0, sv_r a), (1, sv_i v1), (2, sv_i f), (3, sv_i t), (4, sv_i v4), (5, sv_i v5)]) (st' := [sv_i ((-2))]) rfl ?_
                exact sv_iret C hr (by decide +kernel) hok21 (⟨congrArg (fun q => [sv_i q]) (by first | omega | (unfold fx_rota; omega)), hF⟩)
              · refine sv_go C.1 C.2.1 [(.iload_n 3, 1), (.iload_n 2, 1), (.isub, 1), (.bipush 20, 2)] (pc' := 56) (by decide +kernel) rfl (lv' := [(0, sv_r a), (1, sv_i v1), (2, sv_i f), (3, sv_i t), (4, sv_i v4), (5, sv_i v5)]) (st' := [sv_i 20, sv_i (t - f)]) rfl ?_
                refine sv_icmp C.1 C.2.1 (cnd := .lt) (off := 6) (tgt := 62) (by decide +kernel) (by decide) ⟨by omega, by omega⟩ ⟨by omega, by omega⟩ (fun (h24 : (t - f) < 20) => ?_) (fun (h24 : ¬ ((t - f) < 20)) => ?_)
                · refine sv_go C.1 C.2.1 [(.aload_n 0, 1)] (pc' := 63) (by decide +kernel) rfl (lv' := [(0, sv_r a), (1, sv_i v1), (2, sv_i f), (3, sv_i t), (4, sv_i v4), (5, sv_i v5)]) (st' := [sv_r a]) rfl ?_
                  obtain ⟨q25, eq25, kq25⟩ := hI.ref (k := 3) k_a rfl
                  refine sv_gf C (index := 33) (ci := 8) (k := 3) (r := (RX9, TX9, 6)) (v := sv_r q25) (by decide +kernel) (by rw [k_a]; rfl) rfl (by decide) fl_X9_33 (congrArg sv_a eq25) ?_
                  refine sv_go C.1 C.2.1 [(.iload 5, 2)] (pc' := 68) (by decide +kernel) rfl (lv' := [(0, sv_r a), (1, sv_i v1), (2, sv_i f), (3, sv_i t), (4, sv_i v4), (5, sv_i v5)]) (st' := [sv_i v5, sv_r q25]) rfl ?_
                  refine sv_cv C (index := 161) (k := 1) (rest := []) (ci := 0) (r := (RX0, TX0, 12)) (by decide +kernel) (ct_X0_startTurns l g A ty σ hok21 hTA hI q25 kq25 (v5) ⟨by omega, by omega⟩) ⟨co_X0_startTurns, in_X0, ⟨by decide, by decide, by decide +kernel⟩, Nat.le_of_ble_eq_true rfl, Nat.le_of_ble_eq_true rfl⟩ ml_X9_161 im_X0_startTurns se_X0_startTurns (by rw [kq25]; rfl) rfl rfl rfl (Nat.le_of_ble_eq_true rfl) ⟨Nat.zero_le _, Nat.zero_le _⟩ (fun r27 σ28 hpo26 hok29 => ?_)
                  obtain ⟨rfl, hIu30, hFu30, xu30⟩ := hpo26
                  have hGu30 := hF.tr hFu30 (by decide)
                  have t31 : σ28 a 3 = (q25 : Int) + 1 := (hFu30.at k_a (by decide)).trans eq25
                  refine sv_same (st2 := []) (lv2 := [(0, sv_r a), (1, sv_i v1), (2, sv_i f), (3, sv_i t), (4, sv_i v4), (5, sv_i v5)]) rfl rfl ?_
                  refine sv_go C.1 C.2.1 [(.iload_n 2, 1), (.istore 6, 2)] (pc' := 74) (by decide +kernel) rfl (lv' := [(0, sv_r a), (1, sv_i v1), (2, sv_i f), (3, sv_i t), (4, sv_i v4), (5, sv_i v5), (6, sv_i f)]) (st' := []) rfl ?_
                  obtain ⟨qa, eqa, kqa⟩ := hIu30.ref (k := 2) k_a rfl
                  obtain ⟨qp, eqp, kqp⟩ := hIu30.ref (k := (v1 : Int).toNat) kqa (by show (if _ then _ else _) = _; rw [if_pos (by omega)])
                  have L34 : ∀ (n : Nat) (X : Int) (σ32 : Nat → Nat → Int), (sv_ok ty σ32) → (sv_inv sp_1 ty σ32) → (sv_off [4, 25, 5, 30, 32] ty σ σ32) → (σ32 a 3 = (q25 : Int) + 1) → (σ32 q25 2 = 0) → (σ32 a 2 = (qa : Int) + 1) → (σ32 qa (v1 : Int).toNat = (qp : Int) + 1) → (f ≤ X ∧ X ≤ t + 1) → (pl_0 ty σ32 qp) → (t + 1 - X) < (n : Int) → sv_E p l e { frames := 4, cells := 0, slots := 0, locals := 87 } s m args below meth c 7 g A ty (fun r σ' => r = [sv_i (fx_rota v1 f t v4 v5)] ∧ sv_off [4, 25, 5, 30, 32] ty σ σ') σ32 74 [(0, sv_r a), (1, sv_i v1), (2, sv_i f), (3, sv_i t), (4, sv_i v4), (5, sv_i v5), (6, sv_i X)] [] := by
                    intro n
                    induction n with
                    | zero => intro X σ32 hokc33 hIc33 hFc33 kc33_0 kc33_1 kc33_2 kc33_3 hX h0p hmu; exact absurd hmu (by omega)
                    | succ n ih35 =>
                      intro X σ32 hokc33 hIc33 hFc33 kc33_0 kc33_1 kc33_2 kc33_3 hX h0p hmu
                      refine sv_go C.1 C.2.1 [(.iload 6, 2), (.iload_n 3, 1)] (pc' := 77) (by decide +kernel) rfl (lv' := [(0, sv_r a), (1, sv_i v1), (2, sv_i f), (3, sv_i t), (4, sv_i v4), (5, sv_i v5), (6, sv_i X)]) (st' := [sv_i t, sv_i X]) rfl ?_
                      refine sv_icmp C.1 C.2.1 (cnd := .gt) (off := 34) (tgt := 111) (by decide +kernel) (by decide) ⟨by omega, by omega⟩ ⟨by omega, by omega⟩ (fun (h36 : t < X) => ?_) (fun (h36 : ¬ (t < X)) => ?_)
                      · refine sv_go C.1 C.2.1 [(.aload_n 0, 1)] (pc' := 112) (by decide +kernel) rfl (lv' := [(0, sv_r a), (1, sv_i v1), (2, sv_i f), (3, sv_i t), (4, sv_i v4), (5, sv_i v5), (6, sv_i X)]) (st' := [sv_r a]) rfl ?_
                        refine sv_gf C (index := 33) (ci := 8) (k := 3) (r := (RX9, TX9, 6)) (v := sv_r q25) (by decide +kernel) (by rw [k_a]; rfl) rfl (by decide) fl_X9_33 (congrArg sv_a kc33_0) ?_
                        refine sv_gf C (index := 168) (ci := 0) (k := 2) (r := (RX0, TX0, 12)) (v := sv_i 0) (by decide +kernel) (by rw [kq25]; rfl) rfl (by decide) fl_X9_168 (congrArg sv_i kc33_1) ?_
                        exact sv_iret C hr (by decide +kernel) hokc33 (⟨congrArg (fun q => [sv_i q]) (by first | omega | (unfold fx_rota; omega)), hFc33⟩)
                      · refine sv_go C.1 C.2.1 [(.aload_n 0, 1)] (pc' := 81) (by decide +kernel) rfl (lv' := [(0, sv_r a), (1, sv_i v1), (2, sv_i f), (3, sv_i t), (4, sv_i v4), (5, sv_i v5), (6, sv_i X)]) (st' := [sv_r a]) rfl ?_
                        refine sv_gf C (index := 25) (ci := 8) (k := 2) (r := (RX9, TX9, 6)) (v := sv_r qa) (by decide +kernel) (by rw [k_a]; rfl) rfl (by decide) fl_X9_25 (congrArg sv_a kc33_2) ?_
                        refine sv_go C.1 C.2.1 [(.iload_n 1, 1)] (pc' := 85) (by decide +kernel) rfl (lv' := [(0, sv_r a), (1, sv_i v1), (2, sv_i f), (3, sv_i t), (4, sv_i v4), (5, sv_i v5), (6, sv_i X)]) (st' := [sv_i v1, sv_r qa]) rfl ?_
                        refine sv_aa C (N := "SaintsRoad$Place") (by decide) (n := 4) (by decide +kernel) (by rw [kqa]; rfl) (by decide) (by omega) (by omega) ?_
                        rw [kc33_3]
                        refine sv_go C.1 C.2.1 [(.iload 6, 2)] (pc' := 88) (by decide +kernel) rfl (lv' := [(0, sv_r a), (1, sv_i v1), (2, sv_i f), (3, sv_i t), (4, sv_i v4), (5, sv_i v5), (6, sv_i X)]) (st' := [sv_i X, sv_r qp]) rfl ?_
                        refine sv_cv C (index := 118) (k := 1) (rest := []) (ci := 3) (r := (RX4, TX4, 11)) (by decide +kernel) (ct_X4_settle l g A ty σ32 hokc33 hTA hIc33 qp kqp (X) ⟨by omega, by omega⟩ h0p) ⟨co_X4_settle, in_X4, ⟨by decide, by decide, by decide +kernel⟩, Nat.le_of_ble_eq_true rfl, Nat.le_of_ble_eq_true rfl⟩ ml_X9_118 im_X4_settle se_X4_settle (by rw [kqp]; rfl) rfl rfl rfl (Nat.le_of_ble_eq_true rfl) ⟨Nat.zero_le _, Nat.zero_le _⟩ (fun r38 σ39 hpo37 hok40 => ?_)
                        obtain ⟨rfl, hIu41, hFu41, xu41, yu41, zu41⟩ := hpo37
                        have hGu41 := hFc33.tr hFu41 (by decide)
                        have t42 : σ39 a 3 = (q25 : Int) + 1 := (hFu41.at k_a (by decide)).trans kc33_0
                        have t43 : σ39 q25 2 = 0 := (hFu41.at kq25 (by decide)).trans kc33_1
                        have t44 : σ39 a 2 = (qa : Int) + 1 := (hFu41.at k_a (by decide)).trans kc33_2
                        have t45 : σ39 qa (v1 : Int).toNat = (qp : Int) + 1 := (hFu41.at kqa (by decide)).trans kc33_3
                        refine sv_same (st2 := []) (lv2 := [(0, sv_r a), (1, sv_i v1), (2, sv_i f), (3, sv_i t), (4, sv_i v4), (5, sv_i v5), (6, sv_i X)]) rfl rfl ?_
                        refine sv_go C.1 C.2.1 [(.aload_n 0, 1), (.aload_n 0, 1)] (pc' := 93) (by decide +kernel) rfl (lv' := [(0, sv_r a), (1, sv_i v1), (2, sv_i f), (3, sv_i t), (4, sv_i v4), (5, sv_i v5), (6, sv_i X)]) (st' := [sv_r a, sv_r a]) rfl ?_
                        refine sv_gf C (index := 25) (ci := 8) (k := 2) (r := (RX9, TX9, 6)) (v := sv_r qa) (by decide +kernel) (by rw [k_a]; rfl) rfl (by decide) fl_X9_25 (congrArg sv_a t44) ?_
                        refine sv_go C.1 C.2.1 [(.iload_n 1, 1)] (pc' := 97) (by decide +kernel) rfl (lv' := [(0, sv_r a), (1, sv_i v1), (2, sv_i f), (3, sv_i t), (4, sv_i v4), (5, sv_i v5), (6, sv_i X)]) (st' := [sv_i v1, sv_r qa, sv_r a]) rfl ?_
                        refine sv_aa C (N := "SaintsRoad$Place") (by decide) (n := 4) (by decide +kernel) (by rw [kqa]; rfl) (by decide) (by omega) (by omega) ?_
                        rw [t45]
                        refine sv_go C.1 C.2.1 [(.iload 6, 2), (.iload 4, 2)] (pc' := 102) (by decide +kernel) rfl (lv' := [(0, sv_r a), (1, sv_i v1), (2, sv_i f), (3, sv_i t), (4, sv_i v4), (5, sv_i v5), (6, sv_i X)]) (st' := [sv_i v4, sv_i X, sv_r qp, sv_r a]) rfl ?_
                        refine sv_cv C (index := 164) (k := 3) (rest := []) (ci := 8) (r := (RX9, TX9, 6)) (by decide +kernel) (ct_X9_carryAll l g A ty σ39 hok40 hIu41 a qp kqp (X) ⟨by omega, by omega⟩ xu41 (v4) ⟨by omega, by omega⟩) ⟨co_X9_carryAll, in_X9, ⟨by decide, by decide, by decide +kernel⟩, Nat.le_of_ble_eq_true rfl, Nat.le_of_ble_eq_true rfl⟩ ml_X9_164 im_X9_carryAll se_X9_carryAll (by rw [k_a]; rfl) rfl rfl rfl (Nat.le_of_ble_eq_true rfl) ⟨Nat.zero_le _, Nat.zero_le _⟩ (fun r47 σ48 hpo46 hok49 => ?_)
                        obtain ⟨rfl, rfl⟩ := hpo46
                        refine sv_same (st2 := []) (lv2 := [(0, sv_r a), (1, sv_i v1), (2, sv_i f), (3, sv_i t), (4, sv_i v4), (5, sv_i v5), (6, sv_i X)]) rfl rfl ?_
                        refine sv_go C.1 C.2.1 [(.iinc 6 1, 3)] (pc' := 108) (by decide +kernel) rfl (lv' := [(0, sv_r a), (1, sv_i v1), (2, sv_i f), (3, sv_i t), (4, sv_i v4), (5, sv_i v5), (6, sv_i (X + 1))]) (st' := []) rfl ?_
                        refine sv_goto C.1 C.2.1 (off := (-34)) (tgt := 74) (by decide +kernel) (by decide) ?_
                        exact ih35 (X + 1) σ39 hok49 hIu41 hGu41 t42 t43 t44 t45 (by omega) (Or.inr (by rw [xu41.1]; exact xu41)) (by omega)
                  exact L34 (((t + 1 - f : Int)).toNat + 1) f σ28 hok29 hIu30 hGu30 t31 xu30 eqa eqp (by omega) (Or.inl (by have z := hZ.num (k := 10) kqp rfl; rw [hFu30.at kqp (by decide)]; omega)) (by omega)
                · refine sv_go C.1 C.2.1 [(.bipush (-2), 2)] (pc' := 61) (by decide +kernel) rfl (lv' := [(0, sv_r a), (1, sv_i v1), (2, sv_i f), (3, sv_i t), (4, sv_i v4), (5, sv_i v5)]) (st' := [sv_i ((-2))]) rfl ?_
                  exact sv_iret C hr (by decide +kernel) hok21 (⟨congrArg (fun q => [sv_i q]) (by first | omega | (unfold fx_rota; omega)), hF⟩)
            · refine sv_same (st2 := [sv_i 0]) (lv2 := [(0, sv_r a), (1, sv_i v1), (2, sv_i f), (3, sv_i t), (4, sv_i v4), (5, sv_i v5)]) rfl rfl ?_
              refine sv_if_t C.1 C.2.1 (cnd := .eq) (off := 16) (tgt := 59) (by decide +kernel) (by decide) ⟨by omega, by omega⟩ (show 0 = 0 by omega) ?_
              refine sv_go C.1 C.2.1 [(.bipush (-2), 2)] (pc' := 61) (by decide +kernel) rfl (lv' := [(0, sv_r a), (1, sv_i v1), (2, sv_i f), (3, sv_i t), (4, sv_i v4), (5, sv_i v5)]) (st' := [sv_i ((-2))]) rfl ?_
              exact sv_iret C hr (by decide +kernel) hok21 (⟨congrArg (fun q => [sv_i q]) (by first | omega | (unfold fx_rota; omega)), hF⟩)
          · refine sv_same (st2 := [sv_i 0]) (lv2 := [(0, sv_r a), (1, sv_i v1), (2, sv_i f), (3, sv_i t), (4, sv_i v4), (5, sv_i v5)]) rfl rfl ?_
            refine sv_if_t C.1 C.2.1 (cnd := .eq) (off := 23) (tgt := 59) (by decide +kernel) (by decide) ⟨by omega, by omega⟩ (show 0 = 0 by omega) ?_
            refine sv_go C.1 C.2.1 [(.bipush (-2), 2)] (pc' := 61) (by decide +kernel) rfl (lv' := [(0, sv_r a), (1, sv_i v1), (2, sv_i f), (3, sv_i t), (4, sv_i v4), (5, sv_i v5)]) (st' := [sv_i ((-2))]) rfl ?_
            exact sv_iret C hr (by decide +kernel) hok16 (⟨congrArg (fun q => [sv_i q]) (by first | omega | (unfold fx_rota; omega)), hF⟩)
        · refine sv_go C.1 C.2.1 [(.bipush (-2), 2)] (pc' := 31) (by decide +kernel) rfl (lv' := [(0, sv_r a), (1, sv_i v1), (2, sv_i f), (3, sv_i t), (4, sv_i v4), (5, sv_i v5)]) (st' := [sv_i ((-2))]) rfl ?_
          exact sv_iret C hr (by decide +kernel) hok9 (⟨congrArg (fun q => [sv_i q]) (by first | omega | (unfold fx_rota; omega)), hF⟩)
    · refine sv_same (st2 := [sv_i 0]) (lv2 := [(0, sv_r a), (1, sv_i v1), (2, sv_i f), (3, sv_i t), (4, sv_i v4), (5, sv_i v5)]) rfl rfl ?_
      refine sv_if_t C.1 C.2.1 (cnd := .eq) (off := 17) (tgt := 29) (by decide +kernel) (by decide) ⟨by omega, by omega⟩ (show 0 = 0 by omega) ?_
      refine sv_go C.1 C.2.1 [(.bipush (-2), 2)] (pc' := 31) (by decide +kernel) rfl (lv' := [(0, sv_r a), (1, sv_i v1), (2, sv_i f), (3, sv_i t), (4, sv_i v4), (5, sv_i v5)]) (st' := [sv_i ((-2))]) rfl ?_
      exact sv_iret C hr (by decide +kernel) hok9 (⟨congrArg (fun q => [sv_i q]) (by first | omega | (unfold fx_rota; omega)), hF⟩)
  · refine sv_same (st2 := [sv_i 0]) (lv2 := [(0, sv_r a), (1, sv_i v1), (2, sv_i f), (3, sv_i t), (4, sv_i v4), (5, sv_i v5)]) rfl rfl ?_
    refine sv_if_t C.1 C.2.1 (cnd := .eq) (off := 25) (tgt := 29) (by decide +kernel) (by decide) ⟨by omega, by omega⟩ (show 0 = 0 by omega) ?_
    refine sv_go C.1 C.2.1 [(.bipush (-2), 2)] (pc' := 31) (by decide +kernel) rfl (lv' := [(0, sv_r a), (1, sv_i v1), (2, sv_i f), (3, sv_i t), (4, sv_i v4), (5, sv_i v5)]) (st' := [sv_i ((-2))]) rfl ?_
    exact sv_iret C hr (by decide +kernel) hok4 (⟨congrArg (fun q => [sv_i q]) (by first | omega | (unfold fx_rota; omega)), hF⟩)
