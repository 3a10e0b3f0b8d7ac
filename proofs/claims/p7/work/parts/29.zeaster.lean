/-! easter, exactly -/
def fx_easter (y : Int) : Int := if 1 ≤ y ∧ y ≤ 2000 then dy_ea y else -2

set_option maxHeartbeats 4000000 in
set_option maxRecDepth 100000 in
theorem ct_X9_easter (l : Launch) (g : sv_G) (A : Nat → Prop) (ty : Nat → Nat) (σ : Nat → Nat → Int) (hok : sv_ok ty σ) (hTA : ∀ q, ty q ≠ 0 → A q) (hI : sv_inv sp_1 ty σ) (a : Nat) (k_a : ty a = 1) (ar1 : Int) (h_ar1 : (-2147483648) ≤ ar1 ∧ ar1 ≤ 2147483647) : sv_M l yX9_easter cX9_easter 2 (some .int) { frames := 3, cells := 0, slots := 0, locals := 63 } g A ty σ [sv_r a, sv_i ar1] (fun r σ' => σ = σ' ∧ ∃ rv : Int, r = [sv_i rv] ∧ ((-2) ≤ rv ∧ rv ≤ 120) ∧ ((-2147483648) ≤ rv → rv ≤ 2147483647 → rv = fx_easter ar1)) := by
  refine sv_enter (by decide) (Nat.le_of_ble_eq_true rfl) ?_
  intro p e s m args below meth c C hr
  have C : sv_C g A RX9 cX9_easter 2 p s m args meth c := C
  have hr : meth.sig.returnType = (some .int) := hr
  have hF : sv_ofx [] [] ty σ σ := sv_ofx.rf
  refine sv_same (st2 := []) (lv2 := [(0, sv_r a), (1, sv_i ar1)]) rfl rfl ?_
  refine sv_go C.1 C.2.1 [(.iload_n 1, 1)] (pc' := 1) (by decide +kernel) rfl (lv' := [(0, sv_r a), (1, sv_i ar1)]) (st' := [sv_i ar1]) rfl ?_
  refine sv_cs C (index := 97) (k := 1) (rest := []) (by decide +kernel) (ct_X2_isYear l g A ty σ hok (ar1) ⟨by omega, by omega⟩) ⟨co_X2_isYear, in_X2, ⟨by decide, by decide, by decide +kernel⟩, Nat.le_of_ble_eq_true rfl, Nat.le_of_ble_eq_true rfl⟩ ml_X9_97 st_X2_isYear rfl rfl (Nat.le_of_ble_eq_true rfl) ⟨Nat.zero_le _, Nat.zero_le _⟩ (fun r2 σ3 hpo1 hok4 => ?_)
  obtain ⟨rfl, ⟨h5, rfl⟩ | ⟨h5, rfl⟩⟩ := hpo1
  · refine sv_same (st2 := [sv_i 1]) (lv2 := [(0, sv_r a), (1, sv_i ar1)]) rfl rfl ?_
    refine sv_if_f C.1 C.2.1 (cnd := .eq) (off := 10) (tgt := 14) (by decide +kernel) (by decide) ⟨by omega, by omega⟩ (show ¬ (1 = 0) by omega) ?_
    refine sv_go C.1 C.2.1 [(.iload_n 1, 1)] (pc' := 8) (by decide +kernel) rfl (lv' := [(0, sv_r a), (1, sv_i ar1)]) (st' := [sv_i ar1]) rfl ?_
    refine sv_cs C (index := 102) (k := 1) (rest := []) (by decide +kernel) (ct_X2_easterOf l g A ty σ hok4 (ar1) ⟨by omega, by omega⟩) ⟨co_X2_easterOf, in_X2, ⟨by decide, by decide, by decide +kernel⟩, Nat.le_of_ble_eq_true rfl, Nat.le_of_ble_eq_true rfl⟩ ml_X9_102 st_X2_easterOf rfl rfl (Nat.le_of_ble_eq_true rfl) ⟨Nat.zero_le _, Nat.zero_le _⟩ (fun r7 σ8 hpo6 hok9 => ?_)
    obtain ⟨rfl, rfl⟩ := hpo6
    have hn11 := dy_ea_in ar1
    refine sv_same (st2 := [sv_i (dy_ea ar1)]) (lv2 := [(0, sv_r a), (1, sv_i ar1)]) rfl rfl ?_
    refine sv_goto C.1 C.2.1 (off := 5) (tgt := 16) (by decide +kernel) (by decide) ?_
    exact sv_iret C hr (by decide +kernel) hok9 (⟨rfl, ⟨_, rfl, ⟨by omega, by omega⟩, fun _ _ => (by unfold fx_easter; first | rw [if_pos (by omega)] | rw [if_neg (by omega)])⟩⟩)
  · refine sv_same (st2 := [sv_i 0]) (lv2 := [(0, sv_r a), (1, sv_i ar1)]) rfl rfl ?_
    refine sv_if_t C.1 C.2.1 (cnd := .eq) (off := 10) (tgt := 14) (by decide +kernel) (by decide) ⟨by omega, by omega⟩ (show 0 = 0 by omega) ?_
    refine sv_go C.1 C.2.1 [(.bipush (-2), 2)] (pc' := 16) (by decide +kernel) rfl (lv' := [(0, sv_r a), (1, sv_i ar1)]) (st' := [sv_i ((-2))]) rfl ?_
    exact sv_iret C hr (by decide +kernel) hok4 (⟨rfl, ⟨_, rfl, ⟨by omega, by omega⟩, fun _ _ => (by unfold fx_easter; first | rw [if_pos (by omega)] | rw [if_neg (by omega)])⟩⟩)

set_option maxHeartbeats 4000000 in
set_option maxRecDepth 100000 in
theorem ct_X11_easter (l : Launch) (g : sv_G) (A : Nat → Prop) (ty : Nat → Nat) (σ : Nat → Nat → Int) (hok : sv_ok ty σ) (hTA : ∀ q, ty q ≠ 0 → A q) (hI : sv_inv sp_1 ty σ) (a : Nat) (k_a : ty a = 10) (ar1 : Int) (h_ar1 : (-2147483648) ≤ ar1 ∧ ar1 ≤ 2147483647) : sv_M l yX11_easter cX11_easter 2 (some .int) { frames := 4, cells := 0, slots := 0, locals := 86 } g A ty σ [sv_r a, sv_i ar1] (fun r σ' => σ = σ' ∧ ∃ rv : Int, r = [sv_i rv] ∧ ((-2) ≤ rv ∧ rv ≤ 120) ∧ ((-2147483648) ≤ rv → rv ≤ 2147483647 → rv = fx_easter ar1)) := by
  refine sv_enter (by decide) (Nat.le_of_ble_eq_true rfl) ?_
  intro p e s m args below meth c C hr
  have C : sv_C g A RX11 cX11_easter 2 p s m args meth c := C
  have hr : meth.sig.returnType = (some .int) := hr
  have hF : sv_ofx [] [] ty σ σ := sv_ofx.rf
  refine sv_same (st2 := []) (lv2 := [(0, sv_r a), (1, sv_i ar1)]) rfl rfl ?_
  refine sv_go C.1 C.2.1 [(.iload_n 1, 1)] (pc' := 1) (by decide +kernel) rfl (lv' := [(0, sv_r a), (1, sv_i ar1)]) (st' := [sv_i ar1]) rfl ?_
  refine sv_cs C (index := 13) (k := 1) (rest := []) (by decide +kernel) (ct_X11_isYear l g A ty σ hok (ar1) ⟨by omega, by omega⟩) ⟨co_X11_isYear, in_X11, ⟨by decide, by decide, by decide +kernel⟩, Nat.le_of_ble_eq_true rfl, Nat.le_of_ble_eq_true rfl⟩ ml_X11_13 st_X11_isYear rfl rfl (Nat.le_of_ble_eq_true rfl) ⟨Nat.zero_le _, Nat.zero_le _⟩ (fun r2 σ3 hpo1 hok4 => ?_)
  obtain ⟨rfl, ⟨h5, rfl⟩ | ⟨h5, rfl⟩⟩ := hpo1
  · refine sv_same (st2 := [sv_i 1]) (lv2 := [(0, sv_r a), (1, sv_i ar1)]) rfl rfl ?_
    refine sv_if_f C.1 C.2.1 (cnd := .eq) (off := 10) (tgt := 14) (by decide +kernel) (by decide) ⟨by omega, by omega⟩ (show ¬ (1 = 0) by omega) ?_
    refine sv_go C.1 C.2.1 [(.iload_n 1, 1)] (pc' := 8) (by decide +kernel) rfl (lv' := [(0, sv_r a), (1, sv_i ar1)]) (st' := [sv_i ar1]) rfl ?_
    refine sv_cs C (index := 34) (k := 1) (rest := []) (by decide +kernel) (ct_X11_easterOf l g A ty σ hok4 (ar1) ⟨by omega, by omega⟩) ⟨co_X11_easterOf, in_X11, ⟨by decide, by decide, by decide +kernel⟩, Nat.le_of_ble_eq_true rfl, Nat.le_of_ble_eq_true rfl⟩ ml_X11_34 st_X11_easterOf rfl rfl (Nat.le_of_ble_eq_true rfl) ⟨Nat.zero_le _, Nat.zero_le _⟩ (fun r7 σ8 hpo6 hok9 => ?_)
    obtain ⟨rfl, rfl⟩ := hpo6
    have hn11 := dy_ea_in ar1
    refine sv_same (st2 := [sv_i (dy_ea ar1)]) (lv2 := [(0, sv_r a), (1, sv_i ar1)]) rfl rfl ?_
    refine sv_goto C.1 C.2.1 (off := 5) (tgt := 16) (by decide +kernel) (by decide) ?_
    exact sv_iret C hr (by decide +kernel) hok9 (⟨rfl, ⟨_, rfl, ⟨by omega, by omega⟩, fun _ _ => (by unfold fx_easter; first | rw [if_pos (by omega)] | rw [if_neg (by omega)])⟩⟩)
  · refine sv_same (st2 := [sv_i 0]) (lv2 := [(0, sv_r a), (1, sv_i ar1)]) rfl rfl ?_
    refine sv_if_t C.1 C.2.1 (cnd := .eq) (off := 10) (tgt := 14) (by decide +kernel) (by decide) ⟨by omega, by omega⟩ (show 0 = 0 by omega) ?_
    refine sv_go C.1 C.2.1 [(.bipush (-2), 2)] (pc' := 16) (by decide +kernel) rfl (lv' := [(0, sv_r a), (1, sv_i ar1)]) (st' := [sv_i ((-2))]) rfl ?_
    exact sv_iret C hr (by decide +kernel) hok4 (⟨rfl, ⟨_, rfl, ⟨by omega, by omega⟩, fun _ _ => (by unfold fx_easter; first | rw [if_pos (by omega)] | rw [if_neg (by omega)])⟩⟩)
