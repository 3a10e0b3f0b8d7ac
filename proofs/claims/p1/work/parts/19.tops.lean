theorem ml_X9_118 : Cond.methodLink RX9 118 yX4_settle ∈ lw_good := sv_mem 687 (by decide +kernel) rfl
theorem co_X4_settle : Cond.code yX4_settle cX4_settle 5 none ∈ lw_good := sv_mem 690 (by decide +kernel) rfl
theorem im_X4_settle : Cond.instanceMethod yX4_settle ∈ lw_good := sv_mem 688 (by decide +kernel) rfl
theorem se_X4_settle : Cond.selects RX4 yX4_settle yX4_settle ∈ lw_good := sv_mem 689 (by decide +kernel) rfl
theorem ml_X9_121 : Cond.methodLink RX9 121 yX4_officeOf ∈ lw_good := sv_mem 736 (by decide +kernel) rfl
set_option maxHeartbeats 4000000 in
set_option maxRecDepth 100000 in
theorem ct_X9_office (l : Launch) (g : sv_G) (A : Nat → Prop) (ty : Nat → Nat) (σ : Nat → Nat → Int) (hok : sv_ok ty σ) (hTA : ∀ q, ty q ≠ 0 → A q) (hI : sv_inv sp_1 ty σ) (hZ : sv_inv sp_0 ty σ) (a : Nat) (k_a : ty a = 1) (v1 : Int) (hv1 : sv_in v1) (y : Int) (hy : sv_in y) (d : Int) (hd : sv_in d) : sv_M l yX9_office cX9_office 4 (some .int) { frames := 4, cells := 0, slots := 0, locals := 87 } g A ty σ [sv_r a, sv_i v1, sv_i y, sv_i d] (fun r σ' => r = [sv_i (fx_office v1 y d)] ∧ sv_off [4, 25] ty σ σ') := by
  refine sv_enter (by decide) (Nat.le_of_ble_eq_true rfl) ?_
  intro p e s m args below meth c C hr
  have C : sv_C g A RX9 cX9_office 4 p s m args meth c := C
  have hr : meth.sig.returnType = (some .int) := hr
  have hF : sv_off [4, 25] ty σ σ := sv_off.rf
  have hlp := dy_lp_in y
  refine sv_same (st2 := []) (lv2 := [(0, sv_r a), (1, sv_i v1), (2, sv_i y), (3, sv_i d)]) rfl rfl ?_
  refine sv_go C.1 C.2.1 [(.iload_n 1, 1)] (pc' := 1) (by decide +kernel) rfl (lv' := [(0, sv_r a), (1, sv_i v1), (2, sv_i y), (3, sv_i d)]) (st' := [sv_i v1]) rfl ?_
  refine sv_cs C (index := 59) (k := 1) (rest := []) (by decide +kernel) (ct_X9_isPlace l g A ty σ hok (v1) ⟨by omega, by omega⟩) ⟨co_X9_isPlace, in_X9, ⟨by decide, by decide, by decide +kernel⟩, Nat.le_of_ble_eq_true rfl, Nat.le_of_ble_eq_true rfl⟩ ml_X9_59 st_X9_isPlace rfl rfl (Nat.le_of_ble_eq_true rfl) ⟨Nat.zero_le _, Nat.zero_le _⟩ (fun r2 σ3 hpo1 hok4 => ?_)
  obtain ⟨rfl, ⟨h5, rfl⟩ | ⟨h5, rfl⟩⟩ := hpo1
  · refine sv_same (st2 := [sv_i 1]) (lv2 := [(0, sv_r a), (1, sv_i v1), (2, sv_i y), (3, sv_i d)]) rfl rfl ?_
    refine sv_if_f C.1 C.2.1 (cnd := .eq) (off := 11) (tgt := 15) (by decide +kernel) (by decide) ⟨by omega, by omega⟩ (show ¬ (1 = 0) by omega) ?_
    refine sv_go C.1 C.2.1 [(.iload_n 2, 1), (.iload_n 3, 1)] (pc' := 9) (by decide +kernel) rfl (lv' := [(0, sv_r a), (1, sv_i v1), (2, sv_i y), (3, sv_i d)]) (st' := [sv_i d, sv_i y]) rfl ?_
    refine sv_cs C (index := 105) (k := 2) (rest := []) (by decide +kernel) (ct_X2_isDay l g A ty σ hok4 (y) ⟨by omega, by omega⟩ (d) ⟨by omega, by omega⟩) ⟨co_X2_isDay, in_X2, ⟨by decide, by decide, by decide +kernel⟩, Nat.le_of_ble_eq_true rfl, Nat.le_of_ble_eq_true rfl⟩ ml_X9_105 st_X2_isDay rfl rfl (Nat.le_of_ble_eq_true rfl) ⟨Nat.zero_le _, Nat.zero_le _⟩ (fun r7 σ8 hpo6 hok9 => ?_)
    obtain ⟨rfl, ⟨h10, rfl⟩ | ⟨h10, rfl⟩⟩ := hpo6
    · refine sv_same (st2 := [sv_i 1]) (lv2 := [(0, sv_r a), (1, sv_i v1), (2, sv_i y), (3, sv_i d)]) rfl rfl ?_
      refine sv_if_t C.1 C.2.1 (cnd := .ne) (off := 6) (tgt := 18) (by decide +kernel) (by decide) ⟨by omega, by omega⟩ (show 1 ≠ 0 by omega) ?_
      refine sv_go C.1 C.2.1 [(.aload_n 0, 1)] (pc' := 19) (by decide +kernel) rfl (lv' := [(0, sv_r a), (1, sv_i v1), (2, sv_i y), (3, sv_i d)]) (st' := [sv_r a]) rfl ?_
      obtain ⟨q11, eq11, kq11⟩ := hI.ref (k := 2) k_a rfl
      refine sv_gf C (index := 25) (ci := 8) (k := 2) (r := (RX9, TX9, 6)) (v := sv_r q11) (by decide +kernel) (by rw [k_a]; rfl) rfl (by decide) fl_X9_25 (congrArg sv_a eq11) ?_
      refine sv_go C.1 C.2.1 [(.iload_n 1, 1)] (pc' := 23) (by decide +kernel) rfl (lv' := [(0, sv_r a), (1, sv_i v1), (2, sv_i y), (3, sv_i d)]) (st' := [sv_i v1, sv_r q11]) rfl ?_
      refine sv_aa C (N := "SaintsRoad$Place") (by decide) (n := 4) (by decide +kernel) (by rw [kq11]; rfl) (by decide) (by omega) (by omega) ?_
      obtain ⟨q12, eq12, kq12⟩ := hI.ref (k := (v1 : Int).toNat) kq11 (by show (if _ then _ else _) = _; rw [if_pos (by omega)])
      rw [eq12]
      refine sv_go C.1 C.2.1 [(.iload_n 2, 1)] (pc' := 25) (by decide +kernel) rfl (lv' := [(0, sv_r a), (1, sv_i v1), (2, sv_i y), (3, sv_i d)]) (st' := [sv_i y, sv_r q12]) rfl ?_
      refine sv_cv C (index := 118) (k := 1) (rest := []) (ci := 3) (r := (RX4, TX4, 11)) (by decide +kernel) (ct_X4_settle l g A ty σ hok9 hTA hI q12 kq12 (y) ⟨by omega, by omega⟩ (Or.inl (by have z := hZ.num (k := 10) kq12 rfl; omega))) ⟨co_X4_settle, in_X4, ⟨by decide, by decide, by decide +kernel⟩, Nat.le_of_ble_eq_true rfl, Nat.le_of_ble_eq_true rfl⟩ ml_X9_118 im_X4_settle se_X4_settle (by rw [kq12]; rfl) rfl rfl rfl (Nat.le_of_ble_eq_true rfl) ⟨Nat.zero_le _, Nat.zero_le _⟩ (fun r14 σ15 hpo13 hok16 => ?_)
      obtain ⟨rfl, hIu17, hFu17, xu17, yu17, zu17⟩ := hpo13
      have hGu17 := hF.tr hFu17 (by decide)
      have t18 : σ15 a 2 = (q11 : Int) + 1 := (hFu17.at k_a (by decide)).trans eq11
      have t19 : σ15 q11 (v1 : Int).toNat = (q12 : Int) + 1 := (hFu17.at kq11 (by decide)).trans eq12
      refine sv_same (st2 := []) (lv2 := [(0, sv_r a), (1, sv_i v1), (2, sv_i y), (3, sv_i d)]) rfl rfl ?_
      refine sv_go C.1 C.2.1 [(.aload_n 0, 1)] (pc' := 29) (by decide +kernel) rfl (lv' := [(0, sv_r a), (1, sv_i v1), (2, sv_i y), (3, sv_i d)]) (st' := [sv_r a]) rfl ?_
      refine sv_gf C (index := 25) (ci := 8) (k := 2) (r := (RX9, TX9, 6)) (v := sv_r q11) (by decide +kernel) (by rw [k_a]; rfl) rfl (by decide) fl_X9_25 (congrArg sv_a t18) ?_
      refine sv_go C.1 C.2.1 [(.iload_n 1, 1)] (pc' := 33) (by decide +kernel) rfl (lv' := [(0, sv_r a), (1, sv_i v1), (2, sv_i y), (3, sv_i d)]) (st' := [sv_i v1, sv_r q11]) rfl ?_
      refine sv_aa C (N := "SaintsRoad$Place") (by decide) (n := 4) (by decide +kernel) (by rw [kq11]; rfl) (by decide) (by omega) (by omega) ?_
      rw [t19]
      refine sv_go C.1 C.2.1 [(.iload_n 3, 1)] (pc' := 35) (by decide +kernel) rfl (lv' := [(0, sv_r a), (1, sv_i v1), (2, sv_i y), (3, sv_i d)]) (st' := [sv_i d, sv_r q12]) rfl ?_
      refine sv_cv C (index := 121) (k := 1) (rest := []) (ci := 3) (r := (RX4, TX4, 11)) (by decide +kernel) (ct_X4_officeOf l g A ty σ15 hok16 hIu17 q12 kq12 (y) ⟨by omega, by omega⟩ xu17 (d) ⟨by omega, by omega⟩) ⟨co_X4_officeOf, in_X4, ⟨by decide, by decide, by decide +kernel⟩, Nat.le_of_ble_eq_true rfl, Nat.le_of_ble_eq_true rfl⟩ ml_X9_121 im_X4_officeOf se_X4_officeOf (by rw [kq12]; rfl) rfl rfl rfl (Nat.le_of_ble_eq_true rfl) ⟨Nat.zero_le _, Nat.zero_le _⟩ (fun r21 σ22 hpo20 hok23 => ?_)
      obtain ⟨rfl, rfl⟩ := hpo20
      have ho24 := fx_of_in y d
      refine sv_same (st2 := [sv_i (fx_of y d)]) (lv2 := [(0, sv_r a), (1, sv_i v1), (2, sv_i y), (3, sv_i d)]) rfl rfl ?_
      exact sv_iret C hr (by decide +kernel) hok23 (⟨congrArg (fun q => [sv_i q]) (by first | omega | (unfold fx_office; omega)), hGu17⟩)
    · refine sv_same (st2 := [sv_i 0]) (lv2 := [(0, sv_r a), (1, sv_i v1), (2, sv_i y), (3, sv_i d)]) rfl rfl ?_
      refine sv_if_f C.1 C.2.1 (cnd := .ne) (off := 6) (tgt := 18) (by decide +kernel) (by decide) ⟨by omega, by omega⟩ (show ¬ (0 ≠ 0) by omega) ?_
      refine sv_go C.1 C.2.1 [(.bipush (-2), 2)] (pc' := 17) (by decide +kernel) rfl (lv' := [(0, sv_r a), (1, sv_i v1), (2, sv_i y), (3, sv_i d)]) (st' := [sv_i ((-2))]) rfl ?_
      exact sv_iret C hr (by decide +kernel) hok9 (⟨congrArg (fun q => [sv_i q]) (by first | omega | (unfold fx_office; omega)), hF⟩)
  · refine sv_same (st2 := [sv_i 0]) (lv2 := [(0, sv_r a), (1, sv_i v1), (2, sv_i y), (3, sv_i d)]) rfl rfl ?_
    refine sv_if_t C.1 C.2.1 (cnd := .eq) (off := 11) (tgt := 15) (by decide +kernel) (by decide) ⟨by omega, by omega⟩ (show 0 = 0 by omega) ?_
    refine sv_go C.1 C.2.1 [(.bipush (-2), 2)] (pc' := 17) (by decide +kernel) rfl (lv' := [(0, sv_r a), (1, sv_i v1), (2, sv_i y), (3, sv_i d)]) (st' := [sv_i ((-2))]) rfl ?_
    exact sv_iret C hr (by decide +kernel) hok4 (⟨congrArg (fun q => [sv_i q]) (by first | omega | (unfold fx_office; omega)), hF⟩)

theorem ml_X9_131 : Cond.methodLink RX9 131 yX4_isFast ∈ lw_good := sv_mem 760 (by decide +kernel) rfl
theorem co_X4_isFast : Cond.code yX4_isFast cX4_isFast 3 (some .boolean) ∈ lw_good := sv_mem 763 (by decide +kernel) rfl
theorem im_X4_isFast : Cond.instanceMethod yX4_isFast ∈ lw_good := sv_mem 761 (by decide +kernel) rfl
theorem se_X4_isFast : Cond.selects RX4 yX4_isFast yX4_isFast ∈ lw_good := sv_mem 762 (by decide +kernel) rfl
set_option maxHeartbeats 4000000 in
set_option maxRecDepth 100000 in
theorem ct_X9_fast (l : Launch) (g : sv_G) (A : Nat → Prop) (ty : Nat → Nat) (σ : Nat → Nat → Int) (hok : sv_ok ty σ) (hTA : ∀ q, ty q ≠ 0 → A q) (hI : sv_inv sp_1 ty σ) (hZ : sv_inv sp_0 ty σ) (a : Nat) (k_a : ty a = 1) (v1 : Int) (hv1 : sv_in v1) (y : Int) (hy : sv_in y) (d : Int) (hd : sv_in d) : sv_M l yX9_fast cX9_fast 4 (some .int) { frames := 5, cells := 0, slots := 0, locals := 106 } g A ty σ [sv_r a, sv_i v1, sv_i y, sv_i d] (fun r σ' => r = [sv_i (fx_fast v1 y d)] ∧ sv_off [4, 25] ty σ σ') := by
  refine sv_enter (by decide) (Nat.le_of_ble_eq_true rfl) ?_
  intro p e s m args below meth c C hr
  have C : sv_C g A RX9 cX9_fast 4 p s m args meth c := C
  have hr : meth.sig.returnType = (some .int) := hr
  have hF : sv_off [4, 25] ty σ σ := sv_off.rf
  have hlp := dy_lp_in y
  refine sv_same (st2 := []) (lv2 := [(0, sv_r a), (1, sv_i v1), (2, sv_i y), (3, sv_i d)]) rfl rfl ?_
  refine sv_go C.1 C.2.1 [(.iload_n 1, 1)] (pc' := 1) (by decide +kernel) rfl (lv' := [(0, sv_r a), (1, sv_i v1), (2, sv_i y), (3, sv_i d)]) (st' := [sv_i v1]) rfl ?_
  refine sv_cs C (index := 59) (k := 1) (rest := []) (by decide +kernel) (ct_X9_isPlace l g A ty σ hok (v1) ⟨by omega, by omega⟩) ⟨co_X9_isPlace, in_X9, ⟨by decide, by decide, by decide +kernel⟩, Nat.le_of_ble_eq_true rfl, Nat.le_of_ble_eq_true rfl⟩ ml_X9_59 st_X9_isPlace rfl rfl (Nat.le_of_ble_eq_true rfl) ⟨Nat.zero_le _, Nat.zero_le _⟩ (fun r2 σ3 hpo1 hok4 => ?_)
  obtain ⟨rfl, ⟨h5, rfl⟩ | ⟨h5, rfl⟩⟩ := hpo1
  · refine sv_same (st2 := [sv_i 1]) (lv2 := [(0, sv_r a), (1, sv_i v1), (2, sv_i y), (3, sv_i d)]) rfl rfl ?_
    refine sv_if_f C.1 C.2.1 (cnd := .eq) (off := 11) (tgt := 15) (by decide +kernel) (by decide) ⟨by omega, by omega⟩ (show ¬ (1 = 0) by omega) ?_
    refine sv_go C.1 C.2.1 [(.iload_n 2, 1), (.iload_n 3, 1)] (pc' := 9) (by decide +kernel) rfl (lv' := [(0, sv_r a), (1, sv_i v1), (2, sv_i y), (3, sv_i d)]) (st' := [sv_i d, sv_i y]) rfl ?_
    refine sv_cs C (index := 105) (k := 2) (rest := []) (by decide +kernel) (ct_X2_isDay l g A ty σ hok4 (y) ⟨by omega, by omega⟩ (d) ⟨by omega, by omega⟩) ⟨co_X2_isDay, in_X2, ⟨by decide, by decide, by decide +kernel⟩, Nat.le_of_ble_eq_true rfl, Nat.le_of_ble_eq_true rfl⟩ ml_X9_105 st_X2_isDay rfl rfl (Nat.le_of_ble_eq_true rfl) ⟨Nat.zero_le _, Nat.zero_le _⟩ (fun r7 σ8 hpo6 hok9 => ?_)
    obtain ⟨rfl, ⟨h10, rfl⟩ | ⟨h10, rfl⟩⟩ := hpo6
    · refine sv_same (st2 := [sv_i 1]) (lv2 := [(0, sv_r a), (1, sv_i v1), (2, sv_i y), (3, sv_i d)]) rfl rfl ?_
      refine sv_if_t C.1 C.2.1 (cnd := .ne) (off := 6) (tgt := 18) (by decide +kernel) (by decide) ⟨by omega, by omega⟩ (show 1 ≠ 0 by omega) ?_
      refine sv_go C.1 C.2.1 [(.aload_n 0, 1)] (pc' := 19) (by decide +kernel) rfl (lv' := [(0, sv_r a), (1, sv_i v1), (2, sv_i y), (3, sv_i d)]) (st' := [sv_r a]) rfl ?_
      obtain ⟨q11, eq11, kq11⟩ := hI.ref (k := 2) k_a rfl
      refine sv_gf C (index := 25) (ci := 8) (k := 2) (r := (RX9, TX9, 6)) (v := sv_r q11) (by decide +kernel) (by rw [k_a]; rfl) rfl (by decide) fl_X9_25 (congrArg sv_a eq11) ?_
      refine sv_go C.1 C.2.1 [(.iload_n 1, 1)] (pc' := 23) (by decide +kernel) rfl (lv' := [(0, sv_r a), (1, sv_i v1), (2, sv_i y), (3, sv_i d)]) (st' := [sv_i v1, sv_r q11]) rfl ?_
      refine sv_aa C (N := "SaintsRoad$Place") (by decide) (n := 4) (by decide +kernel) (by rw [kq11]; rfl) (by decide) (by omega) (by omega) ?_
      obtain ⟨q12, eq12, kq12⟩ := hI.ref (k := (v1 : Int).toNat) kq11 (by show (if _ then _ else _) = _; rw [if_pos (by omega)])
      rw [eq12]
      refine sv_go C.1 C.2.1 [(.iload_n 2, 1)] (pc' := 25) (by decide +kernel) rfl (lv' := [(0, sv_r a), (1, sv_i v1), (2, sv_i y), (3, sv_i d)]) (st' := [sv_i y, sv_r q12]) rfl ?_
      refine sv_cv C (index := 118) (k := 1) (rest := []) (ci := 3) (r := (RX4, TX4, 11)) (by decide +kernel) (ct_X4_settle l g A ty σ hok9 hTA hI q12 kq12 (y) ⟨by omega, by omega⟩ (Or.inl (by have z := hZ.num (k := 10) kq12 rfl; omega))) ⟨co_X4_settle, in_X4, ⟨by decide, by decide, by decide +kernel⟩, Nat.le_of_ble_eq_true rfl, Nat.le_of_ble_eq_true rfl⟩ ml_X9_118 im_X4_settle se_X4_settle (by rw [kq12]; rfl) rfl rfl rfl (Nat.le_of_ble_eq_true rfl) ⟨Nat.zero_le _, Nat.zero_le _⟩ (fun r14 σ15 hpo13 hok16 => ?_)
      obtain ⟨rfl, hIu17, hFu17, xu17, yu17, zu17⟩ := hpo13
      have hGu17 := hF.tr hFu17 (by decide)
      have t18 : σ15 a 2 = (q11 : Int) + 1 := (hFu17.at k_a (by decide)).trans eq11
      have t19 : σ15 q11 (v1 : Int).toNat = (q12 : Int) + 1 := (hFu17.at kq11 (by decide)).trans eq12
      refine sv_same (st2 := []) (lv2 := [(0, sv_r a), (1, sv_i v1), (2, sv_i y), (3, sv_i d)]) rfl rfl ?_
      refine sv_go C.1 C.2.1 [(.aload_n 0, 1)] (pc' := 29) (by decide +kernel) rfl (lv' := [(0, sv_r a), (1, sv_i v1), (2, sv_i y), (3, sv_i d)]) (st' := [sv_r a]) rfl ?_
      refine sv_gf C (index := 25) (ci := 8) (k := 2) (r := (RX9, TX9, 6)) (v := sv_r q11) (by decide +kernel) (by rw [k_a]; rfl) rfl (by decide) fl_X9_25 (congrArg sv_a t18) ?_
      refine sv_go C.1 C.2.1 [(.iload_n 1, 1)] (pc' := 33) (by decide +kernel) rfl (lv' := [(0, sv_r a), (1, sv_i v1), (2, sv_i y), (3, sv_i d)]) (st' := [sv_i v1, sv_r q11]) rfl ?_
      refine sv_aa C (N := "SaintsRoad$Place") (by decide) (n := 4) (by decide +kernel) (by rw [kq11]; rfl) (by decide) (by omega) (by omega) ?_
      rw [t19]
      refine sv_go C.1 C.2.1 [(.iload_n 3, 1)] (pc' := 35) (by decide +kernel) rfl (lv' := [(0, sv_r a), (1, sv_i v1), (2, sv_i y), (3, sv_i d)]) (st' := [sv_i d, sv_r q12]) rfl ?_
      refine sv_cv C (index := 131) (k := 1) (rest := []) (ci := 3) (r := (RX4, TX4, 11)) (by decide +kernel) (ct_X4_isFast l g A ty σ15 hok16 hIu17 q12 kq12 (y) ⟨by omega, by omega⟩ xu17 (d) ⟨by omega, by omega⟩) ⟨co_X4_isFast, in_X4, ⟨by decide, by decide, by decide +kernel⟩, Nat.le_of_ble_eq_true rfl, Nat.le_of_ble_eq_true rfl⟩ ml_X9_131 im_X4_isFast se_X4_isFast (by rw [kq12]; rfl) rfl rfl rfl (Nat.le_of_ble_eq_true rfl) ⟨Nat.zero_le _, Nat.zero_le _⟩ (fun r21 σ22 hpo20 hok23 => ?_)
      obtain ⟨rfl, hpo20⟩ := hpo20
      obtain rfl := sv_boF hpo20
      refine sv_same (st2 := [sv_i 0]) (lv2 := [(0, sv_r a), (1, sv_i v1), (2, sv_i y), (3, sv_i d)]) rfl rfl ?_
      refine sv_if_t C.1 C.2.1 (cnd := .eq) (off := 7) (tgt := 45) (by decide +kernel) (by decide) ⟨by omega, by omega⟩ (show 0 = 0 by omega) ?_
      refine sv_go C.1 C.2.1 [(.iconst 0, 1)] (pc' := 46) (by decide +kernel) rfl (lv' := [(0, sv_r a), (1, sv_i v1), (2, sv_i y), (3, sv_i d)]) (st' := [sv_i 0]) rfl ?_
      exact sv_iret C hr (by decide +kernel) hok23 (⟨congrArg (fun q => [sv_i q]) (by first | omega | (unfold fx_fast; omega)), hGu17⟩)
    · refine sv_same (st2 := [sv_i 0]) (lv2 := [(0, sv_r a), (1, sv_i v1), (2, sv_i y), (3, sv_i d)]) rfl rfl ?_
      refine sv_if_f C.1 C.2.1 (cnd := .ne) (off := 6) (tgt := 18) (by decide +kernel) (by decide) ⟨by omega, by omega⟩ (show ¬ (0 ≠ 0) by omega) ?_
      refine sv_go C.1 C.2.1 [(.bipush (-2), 2)] (pc' := 17) (by decide +kernel) rfl (lv' := [(0, sv_r a), (1, sv_i v1), (2, sv_i y), (3, sv_i d)]) (st' := [sv_i ((-2))]) rfl ?_
      exact sv_iret C hr (by decide +kernel) hok9 (⟨congrArg (fun q => [sv_i q]) (by first | omega | (unfold fx_fast; omega)), hF⟩)
  · refine sv_same (st2 := [sv_i 0]) (lv2 := [(0, sv_r a), (1, sv_i v1), (2, sv_i y), (3, sv_i d)]) rfl rfl ?_
    refine sv_if_t C.1 C.2.1 (cnd := .eq) (off := 11) (tgt := 15) (by decide +kernel) (by decide) ⟨by omega, by omega⟩ (show 0 = 0 by omega) ?_
    refine sv_go C.1 C.2.1 [(.bipush (-2), 2)] (pc' := 17) (by decide +kernel) rfl (lv' := [(0, sv_r a), (1, sv_i v1), (2, sv_i y), (3, sv_i d)]) (st' := [sv_i ((-2))]) rfl ?_
    exact sv_iret C hr (by decide +kernel) hok4 (⟨congrArg (fun q => [sv_i q]) (by first | omega | (unfold fx_fast; omega)), hF⟩)

theorem ml_X9_134 : Cond.methodLink RX9 134 yX4_waxOf ∈ lw_good := sv_mem 780 (by decide +kernel) rfl
theorem co_X4_waxOf : Cond.code yX4_waxOf cX4_waxOf 5 (some .int) ∈ lw_good := sv_mem 783 (by decide +kernel) rfl
theorem im_X4_waxOf : Cond.instanceMethod yX4_waxOf ∈ lw_good := sv_mem 781 (by decide +kernel) rfl
theorem se_X4_waxOf : Cond.selects RX4 yX4_waxOf yX4_waxOf ∈ lw_good := sv_mem 782 (by decide +kernel) rfl
set_option maxHeartbeats 4000000 in
set_option maxRecDepth 100000 in
theorem ct_X9_wax (l : Launch) (g : sv_G) (A : Nat → Prop) (ty : Nat → Nat) (σ : Nat → Nat → Int) (hok : sv_ok ty σ) (hTA : ∀ q, ty q ≠ 0 → A q) (hI : sv_inv sp_1 ty σ) (hZ : sv_inv sp_0 ty σ) (a : Nat) (k_a : ty a = 1) (v1 : Int) (hv1 : sv_in v1) (y : Int) (hy : sv_in y) (f : Int) (hf : sv_in f) (t : Int) (ht : sv_in t) : sv_M l yX9_wax cX9_wax 8 (some .int) { frames := 5, cells := 0, slots := 0, locals := 109 } g A ty σ [sv_r a, sv_i v1, sv_i y, sv_i f, sv_i t] (fun r σ' => r = [sv_i (fx_wax v1 y f t)] ∧ sv_off [4, 25] ty σ σ') := by
  refine sv_enter (by decide) (Nat.le_of_ble_eq_true rfl) ?_
  intro p e s m args below meth c C hr
  have C : sv_C g A RX9 cX9_wax 8 p s m args meth c := C
  have hr : meth.sig.returnType = (some .int) := hr
  have hF : sv_off [4, 25] ty σ σ := sv_off.rf
  have hlp := dy_lp_in y
  refine sv_same (st2 := []) (lv2 := [(0, sv_r a), (1, sv_i v1), (2, sv_i y), (3, sv_i f), (4, sv_i t)]) rfl rfl ?_
  refine sv_go C.1 C.2.1 [(.iload_n 1, 1)] (pc' := 1) (by decide +kernel) rfl (lv' := [(0, sv_r a), (1, sv_i v1), (2, sv_i y), (3, sv_i f), (4, sv_i t)]) (st' := [sv_i v1]) rfl ?_
  refine sv_cs C (index := 59) (k := 1) (rest := []) (by decide +kernel) (ct_X9_isPlace l g A ty σ hok (v1) ⟨by omega, by omega⟩) ⟨co_X9_isPlace, in_X9, ⟨by decide, by decide, by decide +kernel⟩, Nat.le_of_ble_eq_true rfl, Nat.le_of_ble_eq_true rfl⟩ ml_X9_59 st_X9_isPlace rfl rfl (Nat.le_of_ble_eq_true rfl) ⟨Nat.zero_le _, Nat.zero_le _⟩ (fun r2 σ3 hpo1 hok4 => ?_)
  obtain ⟨rfl, ⟨h5, rfl⟩ | ⟨h5, rfl⟩⟩ := hpo1
  · refine sv_same (st2 := [sv_i 1]) (lv2 := [(0, sv_r a), (1, sv_i v1), (2, sv_i y), (3, sv_i f), (4, sv_i t)]) rfl rfl ?_
    refine sv_if_f C.1 C.2.1 (cnd := .eq) (off := 26) (tgt := 30) (by decide +kernel) (by decide) ⟨by omega, by omega⟩ (show ¬ (1 = 0) by omega) ?_
    refine sv_go C.1 C.2.1 [(.iload_n 2, 1), (.iload_n 3, 1)] (pc' := 9) (by decide +kernel) rfl (lv' := [(0, sv_r a), (1, sv_i v1), (2, sv_i y), (3, sv_i f), (4, sv_i t)]) (st' := [sv_i f, sv_i y]) rfl ?_
    refine sv_cs C (index := 105) (k := 2) (rest := []) (by decide +kernel) (ct_X2_isDay l g A ty σ hok4 (y) ⟨by omega, by omega⟩ (f) ⟨by omega, by omega⟩) ⟨co_X2_isDay, in_X2, ⟨by decide, by decide, by decide +kernel⟩, Nat.le_of_ble_eq_true rfl, Nat.le_of_ble_eq_true rfl⟩ ml_X9_105 st_X2_isDay rfl rfl (Nat.le_of_ble_eq_true rfl) ⟨Nat.zero_le _, Nat.zero_le _⟩ (fun r7 σ8 hpo6 hok9 => ?_)
    obtain ⟨rfl, ⟨h10, rfl⟩ | ⟨h10, rfl⟩⟩ := hpo6
    · refine sv_same (st2 := [sv_i 1]) (lv2 := [(0, sv_r a), (1, sv_i v1), (2, sv_i y), (3, sv_i f), (4, sv_i t)]) rfl rfl ?_
      refine sv_if_f C.1 C.2.1 (cnd := .eq) (off := 18) (tgt := 30) (by decide +kernel) (by decide) ⟨by omega, by omega⟩ (show ¬ (1 = 0) by omega) ?_
      refine sv_go C.1 C.2.1 [(.iload_n 2, 1), (.iload 4, 2)] (pc' := 18) (by decide +kernel) rfl (lv' := [(0, sv_r a), (1, sv_i v1), (2, sv_i y), (3, sv_i f), (4, sv_i t)]) (st' := [sv_i t, sv_i y]) rfl ?_
      refine sv_cs C (index := 105) (k := 2) (rest := []) (by decide +kernel) (ct_X2_isDay l g A ty σ hok9 (y) ⟨by omega, by omega⟩ (t) ⟨by omega, by omega⟩) ⟨co_X2_isDay, in_X2, ⟨by decide, by decide, by decide +kernel⟩, Nat.le_of_ble_eq_true rfl, Nat.le_of_ble_eq_true rfl⟩ ml_X9_105 st_X2_isDay rfl rfl (Nat.le_of_ble_eq_true rfl) ⟨Nat.zero_le _, Nat.zero_le _⟩ (fun r12 σ13 hpo11 hok14 => ?_)
      obtain ⟨rfl, ⟨h15, rfl⟩ | ⟨h15, rfl⟩⟩ := hpo11
      · refine sv_same (st2 := [sv_i 1]) (lv2 := [(0, sv_r a), (1, sv_i v1), (2, sv_i y), (3, sv_i f), (4, sv_i t)]) rfl rfl ?_
        refine sv_if_f C.1 C.2.1 (cnd := .eq) (off := 9) (tgt := 30) (by decide +kernel) (by decide) ⟨by omega, by omega⟩ (show ¬ (1 = 0) by omega) ?_
        refine sv_go C.1 C.2.1 [(.iload_n 3, 1), (.iload 4, 2)] (pc' := 27) (by decide +kernel) rfl (lv' := [(0, sv_r a), (1, sv_i v1), (2, sv_i y), (3, sv_i f), (4, sv_i t)]) (st' := [sv_i t, sv_i f]) rfl ?_
        refine sv_icmp C.1 C.2.1 (cnd := .le) (off := 6) (tgt := 33) (by decide +kernel) (by decide) ⟨by omega, by omega⟩ ⟨by omega, by omega⟩ (fun (h16 : f ≤ t) => ?_) (fun (h16 : ¬ (f ≤ t)) => ?_)
        · refine sv_go C.1 C.2.1 [(.aload_n 0, 1)] (pc' := 34) (by decide +kernel) rfl (lv' := [(0, sv_r a), (1, sv_i v1), (2, sv_i y), (3, sv_i f), (4, sv_i t)]) (st' := [sv_r a]) rfl ?_
          obtain ⟨q17, eq17, kq17⟩ := hI.ref (k := 2) k_a rfl
          refine sv_gf C (index := 25) (ci := 8) (k := 2) (r := (RX9, TX9, 6)) (v := sv_r q17) (by decide +kernel) (by rw [k_a]; rfl) rfl (by decide) fl_X9_25 (congrArg sv_a eq17) ?_
          refine sv_go C.1 C.2.1 [(.iload_n 1, 1)] (pc' := 38) (by decide +kernel) rfl (lv' := [(0, sv_r a), (1, sv_i v1), (2, sv_i y), (3, sv_i f), (4, sv_i t)]) (st' := [sv_i v1, sv_r q17]) rfl ?_
          refine sv_aa C (N := "SaintsRoad$Place") (by decide) (n := 4) (by decide +kernel) (by rw [kq17]; rfl) (by decide) (by omega) (by omega) ?_
          obtain ⟨q18, eq18, kq18⟩ := hI.ref (k := (v1 : Int).toNat) kq17 (by show (if _ then _ else _) = _; rw [if_pos (by omega)])
          rw [eq18]
          refine sv_go C.1 C.2.1 [(.astore 5, 2), (.aload 5, 2), (.iload_n 2, 1)] (pc' := 44) (by decide +kernel) rfl (lv' := [(0, sv_r a), (1, sv_i v1), (2, sv_i y), (3, sv_i f), (4, sv_i t), (5, sv_r q18)]) (st' := [sv_i y, sv_r q18]) rfl ?_
          refine sv_cv C (index := 118) (k := 1) (rest := []) (ci := 3) (r := (RX4, TX4, 11)) (by decide +kernel) (ct_X4_settle l g A ty σ hok14 hTA hI q18 kq18 (y) ⟨by omega, by omega⟩ (Or.inl (by have z := hZ.num (k := 10) kq18 rfl; omega))) ⟨co_X4_settle, in_X4, ⟨by decide, by decide, by decide +kernel⟩, Nat.le_of_ble_eq_true rfl, Nat.le_of_ble_eq_true rfl⟩ ml_X9_118 im_X4_settle se_X4_settle (by rw [kq18]; rfl) rfl rfl rfl (Nat.le_of_ble_eq_true rfl) ⟨Nat.zero_le _, Nat.zero_le _⟩ (fun r20 σ21 hpo19 hok22 => ?_)
          obtain ⟨rfl, hIu23, hFu23, xu23, yu23, zu23⟩ := hpo19
          have hGu23 := hF.tr hFu23 (by decide)
          have t24 : σ21 a 2 = (q17 : Int) + 1 := (hFu23.at k_a (by decide)).trans eq17
          have t25 : σ21 q17 (v1 : Int).toNat = (q18 : Int) + 1 := (hFu23.at kq17 (by decide)).trans eq18
          refine sv_same (st2 := []) (lv2 := [(0, sv_r a), (1, sv_i v1), (2, sv_i y), (3, sv_i f), (4, sv_i t), (5, sv_r q18)]) rfl rfl ?_
          refine sv_go C.1 C.2.1 [(.iconst 0, 1), (.istore 6, 2), (.iload_n 3, 1), (.istore 7, 2)] (pc' := 53) (by decide +kernel) rfl (lv' := [(0, sv_r a), (1, sv_i v1), (2, sv_i y), (3, sv_i f), (4, sv_i t), (5, sv_r q18), (6, sv_i 0), (7, sv_i f)]) (st' := []) rfl ?_
          have L26 : ∀ (n : Nat) (N : Int) (X : Int) , (N = 0) → (f ≤ X ∧ X ≤ t + 1) → (t + 1 - X) < (n : Int) → sv_E p l e { frames := 5, cells := 0, slots := 0, locals := 109 } s m args below meth c 8 g A ty (fun r σ' => r = [sv_i (fx_wax v1 y f t)] ∧ sv_off [4, 25] ty σ σ') σ21 53 [(0, sv_r a), (1, sv_i v1), (2, sv_i y), (3, sv_i f), (4, sv_i t), (5, sv_r q18), (6, sv_i N), (7, sv_i X)] [] := by
            intro n
            induction n with
            | zero => intro N X  hN hX hmu; exact absurd hmu (by omega)
            | succ n ih27 =>
              intro N X  hN hX hmu
              refine sv_go C.1 C.2.1 [(.iload 7, 2), (.iload 4, 2)] (pc' := 57) (by decide +kernel) rfl (lv' := [(0, sv_r a), (1, sv_i v1), (2, sv_i y), (3, sv_i f), (4, sv_i t), (5, sv_r q18), (6, sv_i N), (7, sv_i X)]) (st' := [sv_i t, sv_i X]) rfl ?_
              refine sv_icmp C.1 C.2.1 (cnd := .gt) (off := 21) (tgt := 78) (by decide +kernel) (by decide) ⟨by omega, by omega⟩ ⟨by omega, by omega⟩ (fun (h28 : t < X) => ?_) (fun (h28 : ¬ (t < X)) => ?_)
              · refine sv_go C.1 C.2.1 [(.iload 6, 2)] (pc' := 80) (by decide +kernel) rfl (lv' := [(0, sv_r a), (1, sv_i v1), (2, sv_i y), (3, sv_i f), (4, sv_i t), (5, sv_r q18), (6, sv_i N), (7, sv_i X)]) (st' := [sv_i N]) rfl ?_
                exact sv_iret C hr (by decide +kernel) hok22 (⟨congrArg (fun q => [sv_i q]) (by first | omega | (unfold fx_wax; omega)), hGu23⟩)
              · refine sv_go C.1 C.2.1 [(.iload 6, 2), (.aload 5, 2), (.iload 7, 2)] (pc' := 66) (by decide +kernel) rfl (lv' := [(0, sv_r a), (1, sv_i v1), (2, sv_i y), (3, sv_i f), (4, sv_i t), (5, sv_r q18), (6, sv_i N), (7, sv_i X)]) (st' := [sv_i X, sv_r q18, sv_i N]) rfl ?_
                refine sv_cv C (index := 134) (k := 1) (rest := [sv_i N]) (ci := 3) (r := (RX4, TX4, 11)) (by decide +kernel) (ct_X4_waxOf l g A ty σ21 hok22 hIu23 q18 kq18 (y) ⟨by omega, by omega⟩ xu23 (X) ⟨by omega, by omega⟩) ⟨co_X4_waxOf, in_X4, ⟨by decide, by decide, by decide +kernel⟩, Nat.le_of_ble_eq_true rfl, Nat.le_of_ble_eq_true rfl⟩ ml_X9_134 im_X4_waxOf se_X4_waxOf (by rw [kq18]; rfl) rfl rfl rfl (Nat.le_of_ble_eq_true rfl) ⟨Nat.zero_le _, Nat.zero_le _⟩ (fun r30 σ31 hpo29 hok32 => ?_)
                obtain ⟨rfl, rfl⟩ := hpo29
                refine sv_same (st2 := [sv_i 0, sv_i N]) (lv2 := [(0, sv_r a), (1, sv_i v1), (2, sv_i y), (3, sv_i f), (4, sv_i t), (5, sv_r q18), (6, sv_i N), (7, sv_i X)]) rfl rfl ?_
                refine sv_go C.1 C.2.1 [(.iadd, 1), (.istore 6, 2), (.iinc 7 1, 3)] (pc' := 75) (by decide +kernel) rfl (lv' := [(0, sv_r a), (1, sv_i v1), (2, sv_i y), (3, sv_i f), (4, sv_i t), (5, sv_r q18), (6, sv_i (N + 0)), (7, sv_i (X + 1))]) (st' := []) rfl ?_
                refine sv_goto C.1 C.2.1 (off := (-22)) (tgt := 53) (by decide +kernel) (by decide) ?_
                exact ih27 (N + 0) (X + 1)  (by omega) (by omega) (by omega)
          exact L26 (((t + 1 - f : Int)).toNat + 1) 0 f  (by omega) (by omega) (by omega)
        · refine sv_go C.1 C.2.1 [(.bipush (-2), 2)] (pc' := 32) (by decide +kernel) rfl (lv' := [(0, sv_r a), (1, sv_i v1), (2, sv_i y), (3, sv_i f), (4, sv_i t)]) (st' := [sv_i ((-2))]) rfl ?_
          exact sv_iret C hr (by decide +kernel) hok14 (⟨congrArg (fun q => [sv_i q]) (by first | omega | (unfold fx_wax; omega)), hF⟩)
      · refine sv_same (st2 := [sv_i 0]) (lv2 := [(0, sv_r a), (1, sv_i v1), (2, sv_i y), (3, sv_i f), (4, sv_i t)]) rfl rfl ?_
        refine sv_if_t C.1 C.2.1 (cnd := .eq) (off := 9) (tgt := 30) (by decide +kernel) (by decide) ⟨by omega, by omega⟩ (show 0 = 0 by omega) ?_
        refine sv_go C.1 C.2.1 [(.bipush (-2), 2)] (pc' := 32) (by decide +kernel) rfl (lv' := [(0, sv_r a), (1, sv_i v1), (2, sv_i y), (3, sv_i f), (4, sv_i t)]) (st' := [sv_i ((-2))]) rfl ?_
        exact sv_iret C hr (by decide +kernel) hok14 (⟨congrArg (fun q => [sv_i q]) (by first | omega | (unfold fx_wax; omega)), hF⟩)
    · refine sv_same (st2 := [sv_i 0]) (lv2 := [(0, sv_r a), (1, sv_i v1), (2, sv_i y), (3, sv_i f), (4, sv_i t)]) rfl rfl ?_
      refine sv_if_t C.1 C.2.1 (cnd := .eq) (off := 18) (tgt := 30) (by decide +kernel) (by decide) ⟨by omega, by omega⟩ (show 0 = 0 by omega) ?_
      refine sv_go C.1 C.2.1 [(.bipush (-2), 2)] (pc' := 32) (by decide +kernel) rfl (lv' := [(0, sv_r a), (1, sv_i v1), (2, sv_i y), (3, sv_i f), (4, sv_i t)]) (st' := [sv_i ((-2))]) rfl ?_
      exact sv_iret C hr (by decide +kernel) hok9 (⟨congrArg (fun q => [sv_i q]) (by first | omega | (unfold fx_wax; omega)), hF⟩)
  · refine sv_same (st2 := [sv_i 0]) (lv2 := [(0, sv_r a), (1, sv_i v1), (2, sv_i y), (3, sv_i f), (4, sv_i t)]) rfl rfl ?_
    refine sv_if_t C.1 C.2.1 (cnd := .eq) (off := 26) (tgt := 30) (by decide +kernel) (by decide) ⟨by omega, by omega⟩ (show 0 = 0 by omega) ?_
    refine sv_go C.1 C.2.1 [(.bipush (-2), 2)] (pc' := 32) (by decide +kernel) rfl (lv' := [(0, sv_r a), (1, sv_i v1), (2, sv_i y), (3, sv_i f), (4, sv_i t)]) (st' := [sv_i ((-2))]) rfl ?_
    exact sv_iret C hr (by decide +kernel) hok4 (⟨congrArg (fun q => [sv_i q]) (by first | omega | (unfold fx_wax; omega)), hF⟩)

theorem ml_X9_148 : Cond.methodLink RX9 148 yX2_length ∈ lw_good := sv_mem 815 (by decide +kernel) rfl
theorem ml_X9_150 : Cond.methodLink RX9 150 yX4_isAlike ∈ lw_good := sv_mem 816 (by decide +kernel) rfl
theorem co_X4_isAlike : Cond.code yX4_isAlike cX4_isAlike 7 (some .boolean) ∈ lw_good := sv_mem 819 (by decide +kernel) rfl
theorem im_X4_isAlike : Cond.instanceMethod yX4_isAlike ∈ lw_good := sv_mem 817 (by decide +kernel) rfl
theorem se_X4_isAlike : Cond.selects RX4 yX4_isAlike yX4_isAlike ∈ lw_good := sv_mem 818 (by decide +kernel) rfl
set_option maxHeartbeats 4000000 in
set_option maxRecDepth 100000 in
theorem ct_X9_unlike (l : Launch) (g : sv_G) (A : Nat → Prop) (ty : Nat → Nat) (σ : Nat → Nat → Int) (hok : sv_ok ty σ) (hTA : ∀ q, ty q ≠ 0 → A q) (hI : sv_inv sp_1 ty σ) (hZ : sv_inv sp_0 ty σ) (a : Nat) (k_a : ty a = 1) (v1 : Int) (hv1 : sv_in v1) (v2 : Int) (hv2 : sv_in v2) (y : Int) (hy : sv_in y) : sv_M l yX9_unlike cX9_unlike 7 (some .int) { frames := 5, cells := 0, slots := 0, locals := 111 } g A ty σ [sv_r a, sv_i v1, sv_i v2, sv_i y] (fun r σ' => r = [sv_i (fx_unlike v1 v2 y)] ∧ sv_off [4, 25] ty σ σ') := by
  refine sv_enter (by decide) (Nat.le_of_ble_eq_true rfl) ?_
  intro p e s m args below meth c C hr
  have C : sv_C g A RX9 cX9_unlike 7 p s m args meth c := C
  have hr : meth.sig.returnType = (some .int) := hr
  have hF : sv_off [4, 25] ty σ σ := sv_off.rf
  have hlp := dy_lp_in y
  refine sv_same (st2 := []) (lv2 := [(0, sv_r a), (1, sv_i v1), (2, sv_i v2), (3, sv_i y)]) rfl rfl ?_
  refine sv_go C.1 C.2.1 [(.iload_n 1, 1)] (pc' := 1) (by decide +kernel) rfl (lv' := [(0, sv_r a), (1, sv_i v1), (2, sv_i v2), (3, sv_i y)]) (st' := [sv_i v1]) rfl ?_
  refine sv_cs C (index := 59) (k := 1) (rest := []) (by decide +kernel) (ct_X9_isPlace l g A ty σ hok (v1) ⟨by omega, by omega⟩) ⟨co_X9_isPlace, in_X9, ⟨by decide, by decide, by decide +kernel⟩, Nat.le_of_ble_eq_true rfl, Nat.le_of_ble_eq_true rfl⟩ ml_X9_59 st_X9_isPlace rfl rfl (Nat.le_of_ble_eq_true rfl) ⟨Nat.zero_le _, Nat.zero_le _⟩ (fun r2 σ3 hpo1 hok4 => ?_)
  obtain ⟨rfl, ⟨h5, rfl⟩ | ⟨h5, rfl⟩⟩ := hpo1
  · refine sv_same (st2 := [sv_i 1]) (lv2 := [(0, sv_r a), (1, sv_i v1), (2, sv_i v2), (3, sv_i y)]) rfl rfl ?_
    refine sv_if_f C.1 C.2.1 (cnd := .eq) (off := 17) (tgt := 21) (by decide +kernel) (by decide) ⟨by omega, by omega⟩ (show ¬ (1 = 0) by omega) ?_
    refine sv_go C.1 C.2.1 [(.iload_n 2, 1)] (pc' := 8) (by decide +kernel) rfl (lv' := [(0, sv_r a), (1, sv_i v1), (2, sv_i v2), (3, sv_i y)]) (st' := [sv_i v2]) rfl ?_
    refine sv_cs C (index := 59) (k := 1) (rest := []) (by decide +kernel) (ct_X9_isPlace l g A ty σ hok4 (v2) ⟨by omega, by omega⟩) ⟨co_X9_isPlace, in_X9, ⟨by decide, by decide, by decide +kernel⟩, Nat.le_of_ble_eq_true rfl, Nat.le_of_ble_eq_true rfl⟩ ml_X9_59 st_X9_isPlace rfl rfl (Nat.le_of_ble_eq_true rfl) ⟨Nat.zero_le _, Nat.zero_le _⟩ (fun r7 σ8 hpo6 hok9 => ?_)
    obtain ⟨rfl, ⟨h10, rfl⟩ | ⟨h10, rfl⟩⟩ := hpo6
    · refine sv_same (st2 := [sv_i 1]) (lv2 := [(0, sv_r a), (1, sv_i v1), (2, sv_i v2), (3, sv_i y)]) rfl rfl ?_
      refine sv_if_f C.1 C.2.1 (cnd := .eq) (off := 10) (tgt := 21) (by decide +kernel) (by decide) ⟨by omega, by omega⟩ (show ¬ (1 = 0) by omega) ?_
      refine sv_go C.1 C.2.1 [(.iload_n 3, 1)] (pc' := 15) (by decide +kernel) rfl (lv' := [(0, sv_r a), (1, sv_i v1), (2, sv_i v2), (3, sv_i y)]) (st' := [sv_i y]) rfl ?_
      refine sv_cs C (index := 97) (k := 1) (rest := []) (by decide +kernel) (ct_X2_isYear l g A ty σ hok9 (y) ⟨by omega, by omega⟩) ⟨co_X2_isYear, in_X2, ⟨by decide, by decide, by decide +kernel⟩, Nat.le_of_ble_eq_true rfl, Nat.le_of_ble_eq_true rfl⟩ ml_X9_97 st_X2_isYear rfl rfl (Nat.le_of_ble_eq_true rfl) ⟨Nat.zero_le _, Nat.zero_le _⟩ (fun r12 σ13 hpo11 hok14 => ?_)
      obtain ⟨rfl, ⟨h15, rfl⟩ | ⟨h15, rfl⟩⟩ := hpo11
      · refine sv_same (st2 := [sv_i 1]) (lv2 := [(0, sv_r a), (1, sv_i v1), (2, sv_i v2), (3, sv_i y)]) rfl rfl ?_
        refine sv_if_t C.1 C.2.1 (cnd := .ne) (off := 6) (tgt := 24) (by decide +kernel) (by decide) ⟨by omega, by omega⟩ (show 1 ≠ 0 by omega) ?_
        refine sv_go C.1 C.2.1 [(.aload_n 0, 1)] (pc' := 25) (by decide +kernel) rfl (lv' := [(0, sv_r a), (1, sv_i v1), (2, sv_i v2), (3, sv_i y)]) (st' := [sv_r a]) rfl ?_
        obtain ⟨q16, eq16, kq16⟩ := hI.ref (k := 2) k_a rfl
        refine sv_gf C (index := 25) (ci := 8) (k := 2) (r := (RX9, TX9, 6)) (v := sv_r q16) (by decide +kernel) (by rw [k_a]; rfl) rfl (by decide) fl_X9_25 (congrArg sv_a eq16) ?_
        refine sv_go C.1 C.2.1 [(.iload_n 1, 1)] (pc' := 29) (by decide +kernel) rfl (lv' := [(0, sv_r a), (1, sv_i v1), (2, sv_i v2), (3, sv_i y)]) (st' := [sv_i v1, sv_r q16]) rfl ?_
        refine sv_aa C (N := "SaintsRoad$Place") (by decide) (n := 4) (by decide +kernel) (by rw [kq16]; rfl) (by decide) (by omega) (by omega) ?_
        obtain ⟨q17, eq17, kq17⟩ := hI.ref (k := (v1 : Int).toNat) kq16 (by show (if _ then _ else _) = _; rw [if_pos (by omega)])
        rw [eq17]
        refine sv_go C.1 C.2.1 [(.iload_n 3, 1)] (pc' := 31) (by decide +kernel) rfl (lv' := [(0, sv_r a), (1, sv_i v1), (2, sv_i v2), (3, sv_i y)]) (st' := [sv_i y, sv_r q17]) rfl ?_
        refine sv_cv C (index := 118) (k := 1) (rest := []) (ci := 3) (r := (RX4, TX4, 11)) (by decide +kernel) (ct_X4_settle l g A ty σ hok14 hTA hI q17 kq17 (y) ⟨by omega, by omega⟩ (Or.inl (by have z := hZ.num (k := 10) kq17 rfl; omega))) ⟨co_X4_settle, in_X4, ⟨by decide, by decide, by decide +kernel⟩, Nat.le_of_ble_eq_true rfl, Nat.le_of_ble_eq_true rfl⟩ ml_X9_118 im_X4_settle se_X4_settle (by rw [kq17]; rfl) rfl rfl rfl (Nat.le_of_ble_eq_true rfl) ⟨Nat.zero_le _, Nat.zero_le _⟩ (fun r19 σ20 hpo18 hok21 => ?_)
        obtain ⟨rfl, hIu22, hFu22, xu22, yu22, zu22⟩ := hpo18
        have hGu22 := hF.tr hFu22 (by decide)
        have t23 : σ20 a 2 = (q16 : Int) + 1 := (hFu22.at k_a (by decide)).trans eq16
        have t24 : σ20 q16 (v1 : Int).toNat = (q17 : Int) + 1 := (hFu22.at kq16 (by decide)).trans eq17
        refine sv_same (st2 := []) (lv2 := [(0, sv_r a), (1, sv_i v1), (2, sv_i v2), (3, sv_i y)]) rfl rfl ?_
        refine sv_go C.1 C.2.1 [(.aload_n 0, 1)] (pc' := 35) (by decide +kernel) rfl (lv' := [(0, sv_r a), (1, sv_i v1), (2, sv_i v2), (3, sv_i y)]) (st' := [sv_r a]) rfl ?_
        refine sv_gf C (index := 25) (ci := 8) (k := 2) (r := (RX9, TX9, 6)) (v := sv_r q16) (by decide +kernel) (by rw [k_a]; rfl) rfl (by decide) fl_X9_25 (congrArg sv_a t23) ?_
        refine sv_go C.1 C.2.1 [(.iload_n 2, 1)] (pc' := 39) (by decide +kernel) rfl (lv' := [(0, sv_r a), (1, sv_i v1), (2, sv_i v2), (3, sv_i y)]) (st' := [sv_i v2, sv_r q16]) rfl ?_
        refine sv_aa C (N := "SaintsRoad$Place") (by decide) (n := 4) (by decide +kernel) (by rw [kq16]; rfl) (by decide) (by omega) (by omega) ?_
        obtain ⟨q25, eq25, kq25⟩ := hIu22.ref (k := (v2 : Int).toNat) kq16 (by show (if _ then _ else _) = _; rw [if_pos (by omega)])
        rw [eq25]
        refine sv_go C.1 C.2.1 [(.iload_n 3, 1)] (pc' := 41) (by decide +kernel) rfl (lv' := [(0, sv_r a), (1, sv_i v1), (2, sv_i v2), (3, sv_i y)]) (st' := [sv_i y, sv_r q25]) rfl ?_
        refine sv_cv C (index := 118) (k := 1) (rest := []) (ci := 3) (r := (RX4, TX4, 11)) (by decide +kernel) (ct_X4_settle l g A ty σ20 hok21 hTA hIu22 q25 kq25 (y) ⟨by omega, by omega⟩ (if e9 : q25 = q17 then (by rw [e9]; exact Or.inr (by rw [xu22.1]; exact xu22)) else Or.inl (by rw [zu22 _ e9 kq25]; have z := hZ.num (k := 10) kq25 rfl; omega))) ⟨co_X4_settle, in_X4, ⟨by decide, by decide, by decide +kernel⟩, Nat.le_of_ble_eq_true rfl, Nat.le_of_ble_eq_true rfl⟩ ml_X9_118 im_X4_settle se_X4_settle (by rw [kq25]; rfl) rfl rfl rfl (Nat.le_of_ble_eq_true rfl) ⟨Nat.zero_le _, Nat.zero_le _⟩ (fun r27 σ28 hpo26 hok29 => ?_)
        obtain ⟨rfl, hIu30, hFu30, xu30, yu30, zu30⟩ := hpo26
        have hGu30 := hGu22.tr hFu30 (by decide)
        have t31 : σ28 a 2 = (q16 : Int) + 1 := (hFu30.at k_a (by decide)).trans t23
        have t32 : σ28 q16 (v1 : Int).toNat = (q17 : Int) + 1 := (hFu30.at kq16 (by decide)).trans t24
        have t33 : σ28 q16 (v2 : Int).toNat = (q25 : Int) + 1 := (hFu30.at kq16 (by decide)).trans eq25
        have pk34 := pl_keep xu22 kq17 hIu22 xu30 yu30 zu30
        refine sv_same (st2 := []) (lv2 := [(0, sv_r a), (1, sv_i v1), (2, sv_i v2), (3, sv_i y)]) rfl rfl ?_
        refine sv_go C.1 C.2.1 [(.iload_n 3, 1)] (pc' := 45) (by decide +kernel) rfl (lv' := [(0, sv_r a), (1, sv_i v1), (2, sv_i v2), (3, sv_i y)]) (st' := [sv_i y]) rfl ?_
        refine sv_cs C (index := 148) (k := 1) (rest := []) (by decide +kernel) (ct_X2_length l g A ty σ28 hok29 (y) ⟨by omega, by omega⟩) ⟨co_X2_length, in_X2, ⟨by decide, by decide, by decide +kernel⟩, Nat.le_of_ble_eq_true rfl, Nat.le_of_ble_eq_true rfl⟩ ml_X9_148 st_X2_length rfl rfl (Nat.le_of_ble_eq_true rfl) ⟨Nat.zero_le _, Nat.zero_le _⟩ (fun r36 σ37 hpo35 hok38 => ?_)
        obtain ⟨rfl, rfl⟩ := hpo35
        refine sv_same (st2 := [sv_i (365 + dy_lp y)]) (lv2 := [(0, sv_r a), (1, sv_i v1), (2, sv_i v2), (3, sv_i y)]) rfl rfl ?_
        refine sv_go C.1 C.2.1 [(.istore 4, 2), (.iconst 0, 1), (.istore 5, 2), (.iconst 0, 1), (.istore 6, 2)] (pc' := 56) (by decide +kernel) rfl (lv' := [(0, sv_r a), (1, sv_i v1), (2, sv_i v2), (3, sv_i y), (4, sv_i (365 + dy_lp y)), (5, sv_i 0), (6, sv_i 0)]) (st' := []) rfl ?_
        have L39 : ∀ (n : Nat) (X : Int) , (0 ≤ X ∧ X ≤ 365 + dy_lp y) → (365 + dy_lp y - X) < (n : Int) → sv_E p l e { frames := 5, cells := 0, slots := 0, locals := 111 } s m args below meth c 7 g A ty (fun r σ' => r = [sv_i (fx_unlike v1 v2 y)] ∧ sv_off [4, 25] ty σ σ') σ28 56 [(0, sv_r a), (1, sv_i v1), (2, sv_i v2), (3, sv_i y), (4, sv_i (365 + dy_lp y)), (5, sv_i 0), (6, sv_i X)] [] := by
          intro n
          induction n with
          | zero => intro X  hX hmu; exact absurd hmu (by omega)
          | succ n ih40 =>
            intro X  hX hmu
            refine sv_go C.1 C.2.1 [(.iload 6, 2), (.iload 4, 2)] (pc' := 60) (by decide +kernel) rfl (lv' := [(0, sv_r a), (1, sv_i v1), (2, sv_i v2), (3, sv_i y), (4, sv_i (365 + dy_lp y)), (5, sv_i 0), (6, sv_i X)]) (st' := [sv_i (365 + dy_lp y), sv_i X]) rfl ?_
            refine sv_icmp C.1 C.2.1 (cnd := .ge) (off := 32) (tgt := 92) (by decide +kernel) (by decide) ⟨by omega, by omega⟩ ⟨by omega, by omega⟩ (fun (h41 : (365 + dy_lp y) ≤ X) => ?_) (fun (h41 : ¬ ((365 + dy_lp y) ≤ X)) => ?_)
            · refine sv_go C.1 C.2.1 [(.iload 5, 2)] (pc' := 94) (by decide +kernel) rfl (lv' := [(0, sv_r a), (1, sv_i v1), (2, sv_i v2), (3, sv_i y), (4, sv_i (365 + dy_lp y)), (5, sv_i 0), (6, sv_i X)]) (st' := [sv_i 0]) rfl ?_
              exact sv_iret C hr (by decide +kernel) hok38 (⟨congrArg (fun q => [sv_i q]) (by first | omega | (unfold fx_unlike; omega)), hGu30⟩)
            · refine sv_go C.1 C.2.1 [(.aload_n 0, 1)] (pc' := 64) (by decide +kernel) rfl (lv' := [(0, sv_r a), (1, sv_i v1), (2, sv_i v2), (3, sv_i y), (4, sv_i (365 + dy_lp y)), (5, sv_i 0), (6, sv_i X)]) (st' := [sv_r a]) rfl ?_
              refine sv_gf C (index := 25) (ci := 8) (k := 2) (r := (RX9, TX9, 6)) (v := sv_r q16) (by decide +kernel) (by rw [k_a]; rfl) rfl (by decide) fl_X9_25 (congrArg sv_a t31) ?_
              refine sv_go C.1 C.2.1 [(.iload_n 1, 1)] (pc' := 68) (by decide +kernel) rfl (lv' := [(0, sv_r a), (1, sv_i v1), (2, sv_i v2), (3, sv_i y), (4, sv_i (365 + dy_lp y)), (5, sv_i 0), (6, sv_i X)]) (st' := [sv_i v1, sv_r q16]) rfl ?_
              refine sv_aa C (N := "SaintsRoad$Place") (by decide) (n := 4) (by decide +kernel) (by rw [kq16]; rfl) (by decide) (by omega) (by omega) ?_
              rw [t32]
              refine sv_go C.1 C.2.1 [(.aload_n 0, 1)] (pc' := 70) (by decide +kernel) rfl (lv' := [(0, sv_r a), (1, sv_i v1), (2, sv_i v2), (3, sv_i y), (4, sv_i (365 + dy_lp y)), (5, sv_i 0), (6, sv_i X)]) (st' := [sv_r a, sv_r q17]) rfl ?_
              refine sv_gf C (index := 25) (ci := 8) (k := 2) (r := (RX9, TX9, 6)) (v := sv_r q16) (by decide +kernel) (by rw [k_a]; rfl) rfl (by decide) fl_X9_25 (congrArg sv_a t31) ?_
              refine sv_go C.1 C.2.1 [(.iload_n 2, 1)] (pc' := 74) (by decide +kernel) rfl (lv' := [(0, sv_r a), (1, sv_i v1), (2, sv_i v2), (3, sv_i y), (4, sv_i (365 + dy_lp y)), (5, sv_i 0), (6, sv_i X)]) (st' := [sv_i v2, sv_r q16, sv_r q17]) rfl ?_
              refine sv_aa C (N := "SaintsRoad$Place") (by decide) (n := 4) (by decide +kernel) (by rw [kq16]; rfl) (by decide) (by omega) (by omega) ?_
              rw [t33]
              refine sv_go C.1 C.2.1 [(.iload 6, 2)] (pc' := 77) (by decide +kernel) rfl (lv' := [(0, sv_r a), (1, sv_i v1), (2, sv_i v2), (3, sv_i y), (4, sv_i (365 + dy_lp y)), (5, sv_i 0), (6, sv_i X)]) (st' := [sv_i X, sv_r q25, sv_r q17]) rfl ?_
              refine sv_cv C (index := 150) (k := 2) (rest := []) (ci := 3) (r := (RX4, TX4, 11)) (by decide +kernel) (ct_X4_isAlike l g A ty σ28 hok38 hIu30 q17 kq17 (y) ⟨by omega, by omega⟩ pk34 q25 kq25 xu30 (X) ⟨by omega, by omega⟩) ⟨co_X4_isAlike, in_X4, ⟨by decide, by decide, by decide +kernel⟩, Nat.le_of_ble_eq_true rfl, Nat.le_of_ble_eq_true rfl⟩ ml_X9_150 im_X4_isAlike se_X4_isAlike (by rw [kq17]; rfl) rfl rfl rfl (Nat.le_of_ble_eq_true rfl) ⟨Nat.zero_le _, Nat.zero_le _⟩ (fun r43 σ44 hpo42 hok45 => ?_)
              obtain ⟨rfl, rfl⟩ := hpo42
              refine sv_same (st2 := [sv_i 1]) (lv2 := [(0, sv_r a), (1, sv_i v1), (2, sv_i v2), (3, sv_i y), (4, sv_i (365 + dy_lp y)), (5, sv_i 0), (6, sv_i X)]) rfl rfl ?_
              refine sv_if_t C.1 C.2.1 (cnd := .ne) (off := 6) (tgt := 86) (by decide +kernel) (by decide) ⟨by omega, by omega⟩ (show 1 ≠ 0 by omega) ?_
              refine sv_go C.1 C.2.1 [(.iinc 6 1, 3)] (pc' := 89) (by decide +kernel) rfl (lv' := [(0, sv_r a), (1, sv_i v1), (2, sv_i v2), (3, sv_i y), (4, sv_i (365 + dy_lp y)), (5, sv_i 0), (6, sv_i (X + 1))]) (st' := []) rfl ?_
              refine sv_goto C.1 C.2.1 (off := (-33)) (tgt := 56) (by decide +kernel) (by decide) ?_
              exact ih40 (X + 1)  (by omega) (by omega)
        exact L39 (((365 + dy_lp y - 0 : Int)).toNat + 1) 0  (by omega) (by omega)
      · refine sv_same (st2 := [sv_i 0]) (lv2 := [(0, sv_r a), (1, sv_i v1), (2, sv_i v2), (3, sv_i y)]) rfl rfl ?_
        refine sv_if_f C.1 C.2.1 (cnd := .ne) (off := 6) (tgt := 24) (by decide +kernel) (by decide) ⟨by omega, by omega⟩ (show ¬ (0 ≠ 0) by omega) ?_
        refine sv_go C.1 C.2.1 [(.bipush (-2), 2)] (pc' := 23) (by decide +kernel) rfl (lv' := [(0, sv_r a), (1, sv_i v1), (2, sv_i v2), (3, sv_i y)]) (st' := [sv_i ((-2))]) rfl ?_
        exact sv_iret C hr (by decide +kernel) hok14 (⟨congrArg (fun q => [sv_i q]) (by first | omega | (unfold fx_unlike; omega)), hF⟩)
    · refine sv_same (st2 := [sv_i 0]) (lv2 := [(0, sv_r a), (1, sv_i v1), (2, sv_i v2), (3, sv_i y)]) rfl rfl ?_
      refine sv_if_t C.1 C.2.1 (cnd := .eq) (off := 10) (tgt := 21) (by decide +kernel) (by decide) ⟨by omega, by omega⟩ (show 0 = 0 by omega) ?_
      refine sv_go C.1 C.2.1 [(.bipush (-2), 2)] (pc' := 23) (by decide +kernel) rfl (lv' := [(0, sv_r a), (1, sv_i v1), (2, sv_i v2), (3, sv_i y)]) (st' := [sv_i ((-2))]) rfl ?_
      exact sv_iret C hr (by decide +kernel) hok9 (⟨congrArg (fun q => [sv_i q]) (by first | omega | (unfold fx_unlike; omega)), hF⟩)
  · refine sv_same (st2 := [sv_i 0]) (lv2 := [(0, sv_r a), (1, sv_i v1), (2, sv_i v2), (3, sv_i y)]) rfl rfl ?_
    refine sv_if_t C.1 C.2.1 (cnd := .eq) (off := 17) (tgt := 21) (by decide +kernel) (by decide) ⟨by omega, by omega⟩ (show 0 = 0 by omega) ?_
    refine sv_go C.1 C.2.1 [(.bipush (-2), 2)] (pc' := 23) (by decide +kernel) rfl (lv' := [(0, sv_r a), (1, sv_i v1), (2, sv_i v2), (3, sv_i y)]) (st' := [sv_i ((-2))]) rfl ?_
    exact sv_iret C hr (by decide +kernel) hok4 (⟨congrArg (fun q => [sv_i q]) (by first | omega | (unfold fx_unlike; omega)), hF⟩)

theorem ml_X9_137 : Cond.methodLink RX9 137 yX9_isRank ∈ lw_good := sv_mem 803 (by decide +kernel) rfl
theorem co_X9_isRank : Cond.code yX9_isRank cX9_isRank 1 (some .boolean) ∈ lw_good := sv_mem 795 (by decide +kernel) rfl
theorem st_X9_isRank : Cond.static yX9_isRank ∈ lw_good := sv_mem 794 (by decide +kernel) rfl
theorem ml_X9_140 : Cond.methodLink RX9 140 yJ9_min_7cf53 ∈ lw_good := sv_mem 804 (by decide +kernel) rfl
theorem ml_X9_145 : Cond.methodLink RX9 145 yX4_firstHeld ∈ lw_good := sv_mem 807 (by decide +kernel) rfl
theorem co_X4_firstHeld : Cond.code yX4_firstHeld cX4_firstHeld 6 (some .int) ∈ lw_good := sv_mem 810 (by decide +kernel) rfl
theorem im_X4_firstHeld : Cond.instanceMethod yX4_firstHeld ∈ lw_good := sv_mem 808 (by decide +kernel) rfl
theorem se_X4_firstHeld : Cond.selects RX4 yX4_firstHeld yX4_firstHeld ∈ lw_good := sv_mem 809 (by decide +kernel) rfl
set_option maxHeartbeats 4000000 in
set_option maxRecDepth 100000 in
theorem ct_X9_next (l : Launch) (g : sv_G) (A : Nat → Prop) (ty : Nat → Nat) (σ : Nat → Nat → Int) (hok : sv_ok ty σ) (hTA : ∀ q, ty q ≠ 0 → A q) (hI : sv_inv sp_1 ty σ) (hZ : sv_inv sp_0 ty σ) (a : Nat) (k_a : ty a = 1) (v1 : Int) (hv1 : sv_in v1) (y : Int) (hy : sv_in y) (d : Int) (hd : sv_in d) (w1 : Int) (hw1 : sv_in w1) : sv_M l yX9_next cX9_next 9 (some .int) { frames := 4, cells := 0, slots := 0, locals := 87 } g A ty σ [sv_r a, sv_i v1, sv_i y, sv_i d, sv_i w1] (fun r σ' => r = [sv_i (fx_next v1 y d w1)] ∧ sv_off [4, 25] ty σ σ') := by
  refine sv_enter (by decide) (Nat.le_of_ble_eq_true rfl) ?_
  intro p e s m args below meth c C hr
  have C : sv_C g A RX9 cX9_next 9 p s m args meth c := C
  have hr : meth.sig.returnType = (some .int) := hr
  have hF : sv_off [4, 25] ty σ σ := sv_off.rf
  have hlp := dy_lp_in y
  refine sv_same (st2 := []) (lv2 := [(0, sv_r a), (1, sv_i v1), (2, sv_i y), (3, sv_i d), (4, sv_i w1)]) rfl rfl ?_
  refine sv_go C.1 C.2.1 [(.iload_n 1, 1)] (pc' := 1) (by decide +kernel) rfl (lv' := [(0, sv_r a), (1, sv_i v1), (2, sv_i y), (3, sv_i d), (4, sv_i w1)]) (st' := [sv_i v1]) rfl ?_
  refine sv_cs C (index := 59) (k := 1) (rest := []) (by decide +kernel) (ct_X9_isPlace l g A ty σ hok (v1) ⟨by omega, by omega⟩) ⟨co_X9_isPlace, in_X9, ⟨by decide, by decide, by decide +kernel⟩, Nat.le_of_ble_eq_true rfl, Nat.le_of_ble_eq_true rfl⟩ ml_X9_59 st_X9_isPlace rfl rfl (Nat.le_of_ble_eq_true rfl) ⟨Nat.zero_le _, Nat.zero_le _⟩ (fun r2 σ3 hpo1 hok4 => ?_)
  obtain ⟨rfl, ⟨h5, rfl⟩ | ⟨h5, rfl⟩⟩ := hpo1
  · refine sv_same (st2 := [sv_i 1]) (lv2 := [(0, sv_r a), (1, sv_i v1), (2, sv_i y), (3, sv_i d), (4, sv_i w1)]) rfl rfl ?_
    refine sv_if_f C.1 C.2.1 (cnd := .eq) (off := 19) (tgt := 23) (by decide +kernel) (by decide) ⟨by omega, by omega⟩ (show ¬ (1 = 0) by omega) ?_
    refine sv_go C.1 C.2.1 [(.iload_n 2, 1), (.iload_n 3, 1)] (pc' := 9) (by decide +kernel) rfl (lv' := [(0, sv_r a), (1, sv_i v1), (2, sv_i y), (3, sv_i d), (4, sv_i w1)]) (st' := [sv_i d, sv_i y]) rfl ?_
    refine sv_cs C (index := 105) (k := 2) (rest := []) (by decide +kernel) (ct_X2_isDay l g A ty σ hok4 (y) ⟨by omega, by omega⟩ (d) ⟨by omega, by omega⟩) ⟨co_X2_isDay, in_X2, ⟨by decide, by decide, by decide +kernel⟩, Nat.le_of_ble_eq_true rfl, Nat.le_of_ble_eq_true rfl⟩ ml_X9_105 st_X2_isDay rfl rfl (Nat.le_of_ble_eq_true rfl) ⟨Nat.zero_le _, Nat.zero_le _⟩ (fun r7 σ8 hpo6 hok9 => ?_)
    obtain ⟨rfl, ⟨h10, rfl⟩ | ⟨h10, rfl⟩⟩ := hpo6
    · refine sv_same (st2 := [sv_i 1]) (lv2 := [(0, sv_r a), (1, sv_i v1), (2, sv_i y), (3, sv_i d), (4, sv_i w1)]) rfl rfl ?_
      refine sv_if_f C.1 C.2.1 (cnd := .eq) (off := 11) (tgt := 23) (by decide +kernel) (by decide) ⟨by omega, by omega⟩ (show ¬ (1 = 0) by omega) ?_
      refine sv_go C.1 C.2.1 [(.iload 4, 2)] (pc' := 17) (by decide +kernel) rfl (lv' := [(0, sv_r a), (1, sv_i v1), (2, sv_i y), (3, sv_i d), (4, sv_i w1)]) (st' := [sv_i w1]) rfl ?_
      refine sv_cs C (index := 137) (k := 1) (rest := []) (by decide +kernel) (ct_X9_isRank l g A ty σ hok9 (w1) ⟨by omega, by omega⟩) ⟨co_X9_isRank, in_X9, ⟨by decide, by decide, by decide +kernel⟩, Nat.le_of_ble_eq_true rfl, Nat.le_of_ble_eq_true rfl⟩ ml_X9_137 st_X9_isRank rfl rfl (Nat.le_of_ble_eq_true rfl) ⟨Nat.zero_le _, Nat.zero_le _⟩ (fun r12 σ13 hpo11 hok14 => ?_)
      obtain ⟨rfl, ⟨h15, rfl⟩ | ⟨h15, rfl⟩⟩ := hpo11
      · refine sv_same (st2 := [sv_i 1]) (lv2 := [(0, sv_r a), (1, sv_i v1), (2, sv_i y), (3, sv_i d), (4, sv_i w1)]) rfl rfl ?_
        refine sv_if_t C.1 C.2.1 (cnd := .ne) (off := 6) (tgt := 26) (by decide +kernel) (by decide) ⟨by omega, by omega⟩ (show 1 ≠ 0 by omega) ?_
        refine sv_go C.1 C.2.1 [(.aload_n 0, 1)] (pc' := 27) (by decide +kernel) rfl (lv' := [(0, sv_r a), (1, sv_i v1), (2, sv_i y), (3, sv_i d), (4, sv_i w1)]) (st' := [sv_r a]) rfl ?_
        obtain ⟨q16, eq16, kq16⟩ := hI.ref (k := 2) k_a rfl
        refine sv_gf C (index := 25) (ci := 8) (k := 2) (r := (RX9, TX9, 6)) (v := sv_r q16) (by decide +kernel) (by rw [k_a]; rfl) rfl (by decide) fl_X9_25 (congrArg sv_a eq16) ?_
        refine sv_go C.1 C.2.1 [(.iload_n 1, 1)] (pc' := 31) (by decide +kernel) rfl (lv' := [(0, sv_r a), (1, sv_i v1), (2, sv_i y), (3, sv_i d), (4, sv_i w1)]) (st' := [sv_i v1, sv_r q16]) rfl ?_
        refine sv_aa C (N := "SaintsRoad$Place") (by decide) (n := 4) (by decide +kernel) (by rw [kq16]; rfl) (by decide) (by omega) (by omega) ?_
        obtain ⟨q17, eq17, kq17⟩ := hI.ref (k := (v1 : Int).toNat) kq16 (by show (if _ then _ else _) = _; rw [if_pos (by omega)])
        rw [eq17]
        refine sv_go C.1 C.2.1 [(.astore 5, 2), (.sipush 2000, 3), (.iload_n 2, 1), (.bipush 30, 2), (.iadd, 1), (.iconst 1, 1), (.isub, 1)] (pc' := 43) (by decide +kernel) rfl (lv' := [(0, sv_r a), (1, sv_i v1), (2, sv_i y), (3, sv_i d), (4, sv_i w1), (5, sv_r q17)]) (st' := [sv_i ((y + 30) - 1), sv_i 2000]) rfl ?_
        refine sv_min C (index := 140) (by decide +kernel) ml_X9_140 ⟨by omega, by omega⟩ ⟨by omega, by omega⟩ (Nat.le_of_ble_eq_true rfl) (Nat.le_of_ble_eq_true rfl) ⟨Nat.zero_le _, Nat.zero_le _⟩ ?_
        obtain ⟨mm18, hmm18⟩ : ∃ q : Int, q = (if (y + 30) - 1 < 2000 then (y + 30) - 1 else 2000) := ⟨_, rfl⟩
        refine sv_same (st2 := [sv_i mm18]) (lv2 := [(0, sv_r a), (1, sv_i v1), (2, sv_i y), (3, sv_i d), (4, sv_i w1), (5, sv_r q17)]) (by rw [hmm18]) rfl ?_
        refine sv_go C.1 C.2.1 [(.istore 6, 2), (.iload_n 2, 1), (.istore 7, 2)] (pc' := 51) (by decide +kernel) rfl (lv' := [(0, sv_r a), (1, sv_i v1), (2, sv_i y), (3, sv_i d), (4, sv_i w1), (5, sv_r q17), (6, sv_i mm18), (7, sv_i y)]) (st' := []) rfl ?_
        have L21 : ∀ (n : Nat) (X : Int) (σ19 : Nat → Nat → Int), (sv_ok ty σ19) → (sv_inv sp_1 ty σ19) → (sv_off [4, 25] ty σ σ19) → (σ19 a 2 = (q16 : Int) + 1) → (σ19 q16 (v1 : Int).toNat = (q17 : Int) + 1) → (y ≤ X ∧ X ≤ 2001) → (pl_0 ty σ19 q17) → (2001 - X) < (n : Int) → sv_E p l e { frames := 4, cells := 0, slots := 0, locals := 87 } s m args below meth c 9 g A ty (fun r σ' => r = [sv_i (fx_next v1 y d w1)] ∧ sv_off [4, 25] ty σ σ') σ19 51 [(0, sv_r a), (1, sv_i v1), (2, sv_i y), (3, sv_i d), (4, sv_i w1), (5, sv_r q17), (6, sv_i mm18), (7, sv_i X)] [] := by
          intro n
          induction n with
          | zero => intro X σ19 hokc20 hIc20 hFc20 kc20_0 kc20_1 hX h0p hmu; exact absurd hmu (by omega)
          | succ n ih22 =>
            intro X σ19 hokc20 hIc20 hFc20 kc20_0 kc20_1 hX h0p hmu
            refine sv_go C.1 C.2.1 [(.iload 7, 2), (.iload 6, 2)] (pc' := 55) (by decide +kernel) rfl (lv' := [(0, sv_r a), (1, sv_i v1), (2, sv_i y), (3, sv_i d), (4, sv_i w1), (5, sv_r q17), (6, sv_i mm18), (7, sv_i X)]) (st' := [sv_i mm18, sv_i X]) rfl ?_
            refine sv_icmp C.1 C.2.1 (cnd := .gt) (off := 51) (tgt := 106) (by decide +kernel) (by decide) ⟨by omega, by omega⟩ ⟨by omega, by omega⟩ (fun (h23 : mm18 < X) => ?_) (fun (h23 : ¬ (mm18 < X)) => ?_)
            · refine sv_go C.1 C.2.1 [(.iconst (-1), 1)] (pc' := 107) (by decide +kernel) rfl (lv' := [(0, sv_r a), (1, sv_i v1), (2, sv_i y), (3, sv_i d), (4, sv_i w1), (5, sv_r q17), (6, sv_i mm18), (7, sv_i X)]) (st' := [sv_i ((-1))]) rfl ?_
              exact sv_iret C hr (by decide +kernel) hokc20 (⟨congrArg (fun q => [sv_i q]) (by first | omega | (unfold fx_next; omega)), hFc20⟩)
            · refine sv_go C.1 C.2.1 [(.aload 5, 2), (.iload 7, 2)] (pc' := 62) (by decide +kernel) rfl (lv' := [(0, sv_r a), (1, sv_i v1), (2, sv_i y), (3, sv_i d), (4, sv_i w1), (5, sv_r q17), (6, sv_i mm18), (7, sv_i X)]) (st' := [sv_i X, sv_r q17]) rfl ?_
              refine sv_cv C (index := 118) (k := 1) (rest := []) (ci := 3) (r := (RX4, TX4, 11)) (by decide +kernel) (ct_X4_settle l g A ty σ19 hokc20 hTA hIc20 q17 kq17 (X) ⟨by omega, by omega⟩ h0p) ⟨co_X4_settle, in_X4, ⟨by decide, by decide, by decide +kernel⟩, Nat.le_of_ble_eq_true rfl, Nat.le_of_ble_eq_true rfl⟩ ml_X9_118 im_X4_settle se_X4_settle (by rw [kq17]; rfl) rfl rfl rfl (Nat.le_of_ble_eq_true rfl) ⟨Nat.zero_le _, Nat.zero_le _⟩ (fun r25 σ26 hpo24 hok27 => ?_)
              obtain ⟨rfl, hIu28, hFu28, xu28, yu28, zu28⟩ := hpo24
              have hGu28 := hFc20.tr hFu28 (by decide)
              have t29 : σ26 a 2 = (q16 : Int) + 1 := (hFu28.at k_a (by decide)).trans kc20_0
              have t30 : σ26 q16 (v1 : Int).toNat = (q17 : Int) + 1 := (hFu28.at kq16 (by decide)).trans kc20_1
              refine sv_same (st2 := []) (lv2 := [(0, sv_r a), (1, sv_i v1), (2, sv_i y), (3, sv_i d), (4, sv_i w1), (5, sv_r q17), (6, sv_i mm18), (7, sv_i X)]) rfl rfl ?_
              refine sv_go C.1 C.2.1 [(.aload 5, 2), (.iload 7, 2), (.iload_n 2, 1)] (pc' := 70) (by decide +kernel) rfl (lv' := [(0, sv_r a), (1, sv_i v1), (2, sv_i y), (3, sv_i d), (4, sv_i w1), (5, sv_r q17), (6, sv_i mm18), (7, sv_i X)]) (st' := [sv_i y, sv_i X, sv_r q17]) rfl ?_
              refine sv_icmp C.1 C.2.1 (cnd := .ne) (off := 7) (tgt := 77) (by decide +kernel) (by decide) ⟨by omega, by omega⟩ ⟨by omega, by omega⟩ (fun (h31 : X ≠ y) => ?_) (fun (h31 : ¬ (X ≠ y)) => ?_)
              · refine sv_go C.1 C.2.1 [(.iconst 0, 1), (.iload 4, 2)] (pc' := 80) (by decide +kernel) rfl (lv' := [(0, sv_r a), (1, sv_i v1), (2, sv_i y), (3, sv_i d), (4, sv_i w1), (5, sv_r q17), (6, sv_i mm18), (7, sv_i X)]) (st' := [sv_i w1, sv_i 0, sv_r q17]) rfl ?_
                refine sv_cv C (index := 145) (k := 2) (rest := []) (ci := 3) (r := (RX4, TX4, 11)) (by decide +kernel) (ct_X4_firstHeld l g A ty σ26 hok27 hIu28 q17 kq17 (X) ⟨by omega, by omega⟩ xu28 (0) ⟨by omega, by omega⟩ (w1) ⟨by omega, by omega⟩) ⟨co_X4_firstHeld, in_X4, ⟨by decide, by decide, by decide +kernel⟩, Nat.le_of_ble_eq_true rfl, Nat.le_of_ble_eq_true rfl⟩ ml_X9_145 im_X4_firstHeld se_X4_firstHeld (by rw [kq17]; rfl) rfl rfl rfl (Nat.le_of_ble_eq_true rfl) ⟨Nat.zero_le _, Nat.zero_le _⟩ (fun r33 σ34 hpo32 hok35 => ?_)
                obtain ⟨rfl, rfl⟩ := hpo32
                refine sv_same (st2 := [sv_i ((-1))]) (lv2 := [(0, sv_r a), (1, sv_i v1), (2, sv_i y), (3, sv_i d), (4, sv_i w1), (5, sv_r q17), (6, sv_i mm18), (7, sv_i X)]) rfl rfl ?_
                refine sv_go C.1 C.2.1 [(.istore 8, 2), (.iload 8, 2)] (pc' := 87) (by decide +kernel) rfl (lv' := [(0, sv_r a), (1, sv_i v1), (2, sv_i y), (3, sv_i d), (4, sv_i w1), (5, sv_r q17), (6, sv_i mm18), (7, sv_i X), (8, sv_i ((-1)))]) (st' := [sv_i ((-1))]) rfl ?_
                refine sv_if_t C.1 C.2.1 (cnd := .lt) (off := 13) (tgt := 100) (by decide +kernel) (by decide) ⟨by omega, by omega⟩ (show ((-1)) < 0 by omega) ?_
                refine sv_go C.1 C.2.1 [(.iinc 7 1, 3)] (pc' := 103) (by decide +kernel) rfl (lv' := [(0, sv_r a), (1, sv_i v1), (2, sv_i y), (3, sv_i d), (4, sv_i w1), (5, sv_r q17), (6, sv_i mm18), (7, sv_i (X + 1)), (8, sv_i ((-1)))]) (st' := []) rfl ?_
                refine sv_goto C.1 C.2.1 (off := (-52)) (tgt := 51) (by decide +kernel) (by decide) ?_
                refine sv_pick [0, 1, 2, 3, 4, 5, 6, 7] (lv2 := [(0, sv_r a), (1, sv_i v1), (2, sv_i y), (3, sv_i d), (4, sv_i w1), (5, sv_r q17), (6, sv_i mm18), (7, sv_i (X + 1))]) rfl ?_
                exact ih22 (X + 1) σ26 hok35 hIu28 hGu28 t29 t30 (by omega) (Or.inr (by rw [xu28.1]; exact xu28)) (by omega)
              · refine sv_go C.1 C.2.1 [(.iload_n 3, 1)] (pc' := 74) (by decide +kernel) rfl (lv' := [(0, sv_r a), (1, sv_i v1), (2, sv_i y), (3, sv_i d), (4, sv_i w1), (5, sv_r q17), (6, sv_i mm18), (7, sv_i X)]) (st' := [sv_i d, sv_r q17]) rfl ?_
                refine sv_goto C.1 C.2.1 (off := 4) (tgt := 78) (by decide +kernel) (by decide) ?_
                refine sv_go C.1 C.2.1 [(.iload 4, 2)] (pc' := 80) (by decide +kernel) rfl (lv' := [(0, sv_r a), (1, sv_i v1), (2, sv_i y), (3, sv_i d), (4, sv_i w1), (5, sv_r q17), (6, sv_i mm18), (7, sv_i X)]) (st' := [sv_i w1, sv_i d, sv_r q17]) rfl ?_
                refine sv_cv C (index := 145) (k := 2) (rest := []) (ci := 3) (r := (RX4, TX4, 11)) (by decide +kernel) (ct_X4_firstHeld l g A ty σ26 hok27 hIu28 q17 kq17 (X) ⟨by omega, by omega⟩ xu28 (d) ⟨by omega, by omega⟩ (w1) ⟨by omega, by omega⟩) ⟨co_X4_firstHeld, in_X4, ⟨by decide, by decide, by decide +kernel⟩, Nat.le_of_ble_eq_true rfl, Nat.le_of_ble_eq_true rfl⟩ ml_X9_145 im_X4_firstHeld se_X4_firstHeld (by rw [kq17]; rfl) rfl rfl rfl (Nat.le_of_ble_eq_true rfl) ⟨Nat.zero_le _, Nat.zero_le _⟩ (fun r37 σ38 hpo36 hok39 => ?_)
                obtain ⟨rfl, rfl⟩ := hpo36
                refine sv_same (st2 := [sv_i ((-1))]) (lv2 := [(0, sv_r a), (1, sv_i v1), (2, sv_i y), (3, sv_i d), (4, sv_i w1), (5, sv_r q17), (6, sv_i mm18), (7, sv_i X)]) rfl rfl ?_
                refine sv_go C.1 C.2.1 [(.istore 8, 2), (.iload 8, 2)] (pc' := 87) (by decide +kernel) rfl (lv' := [(0, sv_r a), (1, sv_i v1), (2, sv_i y), (3, sv_i d), (4, sv_i w1), (5, sv_r q17), (6, sv_i mm18), (7, sv_i X), (8, sv_i ((-1)))]) (st' := [sv_i ((-1))]) rfl ?_
                refine sv_if_t C.1 C.2.1 (cnd := .lt) (off := 13) (tgt := 100) (by decide +kernel) (by decide) ⟨by omega, by omega⟩ (show ((-1)) < 0 by omega) ?_
                refine sv_go C.1 C.2.1 [(.iinc 7 1, 3)] (pc' := 103) (by decide +kernel) rfl (lv' := [(0, sv_r a), (1, sv_i v1), (2, sv_i y), (3, sv_i d), (4, sv_i w1), (5, sv_r q17), (6, sv_i mm18), (7, sv_i (X + 1)), (8, sv_i ((-1)))]) (st' := []) rfl ?_
                refine sv_goto C.1 C.2.1 (off := (-52)) (tgt := 51) (by decide +kernel) (by decide) ?_
                refine sv_pick [0, 1, 2, 3, 4, 5, 6, 7] (lv2 := [(0, sv_r a), (1, sv_i v1), (2, sv_i y), (3, sv_i d), (4, sv_i w1), (5, sv_r q17), (6, sv_i mm18), (7, sv_i (X + 1))]) rfl ?_
                exact ih22 (X + 1) σ26 hok39 hIu28 hGu28 t29 t30 (by omega) (Or.inr (by rw [xu28.1]; exact xu28)) (by omega)
        exact L21 (((2001 - y : Int)).toNat + 1) y σ hok14 hI hF eq16 eq17 (by omega) (Or.inl (by have z := hZ.num (k := 10) kq17 rfl; omega)) (by omega)
      · refine sv_same (st2 := [sv_i 0]) (lv2 := [(0, sv_r a), (1, sv_i v1), (2, sv_i y), (3, sv_i d), (4, sv_i w1)]) rfl rfl ?_
        refine sv_if_f C.1 C.2.1 (cnd := .ne) (off := 6) (tgt := 26) (by decide +kernel) (by decide) ⟨by omega, by omega⟩ (show ¬ (0 ≠ 0) by omega) ?_
        refine sv_go C.1 C.2.1 [(.bipush (-2), 2)] (pc' := 25) (by decide +kernel) rfl (lv' := [(0, sv_r a), (1, sv_i v1), (2, sv_i y), (3, sv_i d), (4, sv_i w1)]) (st' := [sv_i ((-2))]) rfl ?_
        exact sv_iret C hr (by decide +kernel) hok14 (⟨congrArg (fun q => [sv_i q]) (by first | omega | (unfold fx_next; omega)), hF⟩)
    · refine sv_same (st2 := [sv_i 0]) (lv2 := [(0, sv_r a), (1, sv_i v1), (2, sv_i y), (3, sv_i d), (4, sv_i w1)]) rfl rfl ?_
      refine sv_if_t C.1 C.2.1 (cnd := .eq) (off := 11) (tgt := 23) (by decide +kernel) (by decide) ⟨by omega, by omega⟩ (show 0 = 0 by omega) ?_
      refine sv_go C.1 C.2.1 [(.bipush (-2), 2)] (pc' := 25) (by decide +kernel) rfl (lv' := [(0, sv_r a), (1, sv_i v1), (2, sv_i y), (3, sv_i d), (4, sv_i w1)]) (st' := [sv_i ((-2))]) rfl ?_
      exact sv_iret C hr (by decide +kernel) hok9 (⟨congrArg (fun q => [sv_i q]) (by first | omega | (unfold fx_next; omega)), hF⟩)
  · refine sv_same (st2 := [sv_i 0]) (lv2 := [(0, sv_r a), (1, sv_i v1), (2, sv_i y), (3, sv_i d), (4, sv_i w1)]) rfl rfl ?_
    refine sv_if_t C.1 C.2.1 (cnd := .eq) (off := 19) (tgt := 23) (by decide +kernel) (by decide) ⟨by omega, by omega⟩ (show 0 = 0 by omega) ?_
    refine sv_go C.1 C.2.1 [(.bipush (-2), 2)] (pc' := 25) (by decide +kernel) rfl (lv' := [(0, sv_r a), (1, sv_i v1), (2, sv_i y), (3, sv_i d), (4, sv_i w1)]) (st' := [sv_i ((-2))]) rfl ?_
    exact sv_iret C hr (by decide +kernel) hok4 (⟨congrArg (fun q => [sv_i q]) (by first | omega | (unfold fx_next; omega)), hF⟩)
