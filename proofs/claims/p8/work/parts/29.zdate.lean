/-! the month of a day; date, exactly -/
def dy_mo (y d : Int) : Int := if d < dy_ms y 2 then 1 else if d < dy_ms y 3 then 2 else if d < dy_ms y 4 then 3 else if d < dy_ms y 5 then 4 else if d < dy_ms y 6 then 5 else if d < dy_ms y 7 then 6 else if d < dy_ms y 8 then 7 else if d < dy_ms y 9 then 8 else if d < dy_ms y 10 then 9 else if d < dy_ms y 11 then 10 else if d < dy_ms y 12 then 11 else 12
theorem dy_mo_ok {y d : Int} (h0 : 0 ≤ d) (h1 : d < 365 + dy_lp y) : (1 ≤ dy_mo y d ∧ dy_mo y d ≤ 12) ∧ dy_ms y (dy_mo y d) ≤ d ∧ d < dy_ms y (dy_mo y d + 1) := by
  have e1 := dy_ms1 y
  have e13 := dy_ms13 y
  unfold dy_mo
  repeat' split
  all_goals refine ⟨by omega, by omega, ?_⟩
  all_goals first | assumption | (show d < dy_ms y 13; omega)
theorem dy_mo_of {y d M : Int} (h0 : 0 ≤ d) (h1 : d < 365 + dy_lp y) (h2 : 1 ≤ M ∧ M ≤ 12) (h3 : dy_ms y M ≤ d) (h4 : M = 12 ∨ d < dy_ms y (M + 1)) : M = dy_mo y d := by
  obtain ⟨a, b, c⟩ := dy_mo_ok h0 h1
  refine dy_mo_uniq h2 a h3 ?_ b c
  rcases h4 with rfl | h4
  · show d < dy_ms y 13
    rw [dy_ms13]; exact h1
  · exact h4
def fx_date (y d w : Int) : Int := if (1 ≤ y ∧ y ≤ 2000) ∧ 0 ≤ d ∧ d < 365 + dy_lp y then (if w = 0 then dy_mo y d else if w = 1 then d - dy_ms y (dy_mo y d) + 1 else if w = 2 then dy_wd y d else -1) else -1

set_option maxHeartbeats 4000000 in
set_option maxRecDepth 100000 in
theorem ct_X9_date (l : Launch) (g : sv_G) (A : Nat → Prop) (ty : Nat → Nat) (σ : Nat → Nat → Int) (hok : sv_ok ty σ) (hTA : ∀ q, ty q ≠ 0 → A q) (hI : sv_inv sp_1 ty σ) (a : Nat) (k_a : ty a = 1) (ar1 : Int) (h_ar1 : (-2147483648) ≤ ar1 ∧ ar1 ≤ 2147483647) (ar2 : Int) (h_ar2 : (-2147483648) ≤ ar2 ∧ ar2 ≤ 2147483647) (ar3 : Int) (h_ar3 : (-2147483648) ≤ ar3 ∧ ar3 ≤ 2147483647) : sv_M l yX9_date cX9_date 5 (some .int) { frames := 3, cells := 0, slots := 0, locals := 63 } g A ty σ [sv_r a, sv_i ar1, sv_i ar2, sv_i ar3] (fun r σ' => σ = σ' ∧ ∃ rv : Int, r = [sv_i rv] ∧ ((-365) ≤ rv ∧ rv ≤ 366) ∧ ((-2147483648) ≤ rv → rv ≤ 2147483647 → rv = fx_date ar1 ar2 ar3)) := by
  refine sv_enter (by decide) (Nat.le_of_ble_eq_true rfl) ?_
  intro p e s m args below meth c C hr
  have C : sv_C g A RX9 cX9_date 5 p s m args meth c := C
  have hr : meth.sig.returnType = (some .int) := hr
  have hF : sv_ofx [] [] ty σ σ := sv_ofx.rf
  have hlp := dy_lp_in ar1
  refine sv_same (st2 := []) (lv2 := [(0, sv_r a), (1, sv_i ar1), (2, sv_i ar2), (3, sv_i ar3)]) rfl rfl ?_
  refine sv_go C.1 C.2.1 [(.iload_n 1, 1), (.iload_n 2, 1)] (pc' := 2) (by decide +kernel) rfl (lv' := [(0, sv_r a), (1, sv_i ar1), (2, sv_i ar2), (3, sv_i ar3)]) (st' := [sv_i ar2, sv_i ar1]) rfl ?_
  refine sv_cs C (index := 105) (k := 2) (rest := []) (by decide +kernel) (ct_X2_isDay l g A ty σ hok (ar1) ⟨by omega, by omega⟩ (ar2) ⟨by omega, by omega⟩) ⟨co_X2_isDay, in_X2, ⟨by decide, by decide, by decide +kernel⟩, Nat.le_of_ble_eq_true rfl, Nat.le_of_ble_eq_true rfl⟩ ml_X9_105 st_X2_isDay rfl rfl (Nat.le_of_ble_eq_true rfl) ⟨Nat.zero_le _, Nat.zero_le _⟩ (fun r2 σ3 hpo1 hok4 => ?_)
  obtain ⟨rfl, ⟨h5, rfl⟩ | ⟨h5, rfl⟩⟩ := hpo1
  · have hn6 := dy_lp_in ar1
    refine sv_same (st2 := [sv_i 1]) (lv2 := [(0, sv_r a), (1, sv_i ar1), (2, sv_i ar2), (3, sv_i ar3)]) rfl rfl ?_
    refine sv_if_t C.1 C.2.1 (cnd := .ne) (off := 5) (tgt := 10) (by decide +kernel) (by decide) ⟨by omega, by omega⟩ (show 1 ≠ 0 by omega) ?_
    refine sv_go C.1 C.2.1 [(.iload_n 1, 1), (.iload_n 2, 1)] (pc' := 12) (by decide +kernel) rfl (lv' := [(0, sv_r a), (1, sv_i ar1), (2, sv_i ar2), (3, sv_i ar3)]) (st' := [sv_i ar2, sv_i ar1]) rfl ?_
    refine sv_cs C (index := 108) (k := 2) (rest := []) (by decide +kernel) (ct_X2_monthOf l g A ty σ hok4 (ar1) ⟨by omega, by omega⟩ (ar2) ⟨by omega, by omega⟩) ⟨co_X2_monthOf, in_X2, ⟨by decide, by decide, by decide +kernel⟩, Nat.le_of_ble_eq_true rfl, Nat.le_of_ble_eq_true rfl⟩ ml_X9_108 st_X2_monthOf rfl rfl (Nat.le_of_ble_eq_true rfl) ⟨Nat.zero_le _, Nat.zero_le _⟩ (fun r8 σ9 hpo7 hok10 => ?_)
    obtain ⟨rfl, M11, rfl, hM11a, hM11b, hM11c⟩ := hpo7
    refine sv_same (st2 := [sv_i M11]) (lv2 := [(0, sv_r a), (1, sv_i ar1), (2, sv_i ar2), (3, sv_i ar3)]) rfl rfl ?_
    refine sv_go C.1 C.2.1 [(.istore 4, 2), (.iload_n 3, 1)] (pc' := 18) (by decide +kernel) rfl (lv' := [(0, sv_r a), (1, sv_i ar1), (2, sv_i ar2), (3, sv_i ar3), (4, sv_i M11)]) (st' := [sv_i ar3]) rfl ?_
    have hmo := dy_mo_of (y := ar1) (d := ar2) (M := M11) (by omega) (by omega) (by omega) (by omega) (by omega)
    rcases (show ar3 = 0 ∨ ar3 = 1 ∨ ar3 = 2 ∨ (ar3 ≠ 0 ∧ ar3 ≠ 1 ∧ ar3 ≠ 2) by omega) with h12 | h12 | h12 | h12
    · refine sv_tsI C.1 C.2.1 (dflt := 46) (lo := 0) (hi := 2) (offs := #[26, 29, 40]) (len := 26) (off := 26) (tgt := 44) (by decide +kernel) 0 h12 (by decide) rfl (by decide) ?_
      refine sv_go C.1 C.2.1 [(.iload 4, 2)] (pc' := 46) (by decide +kernel) rfl (lv' := [(0, sv_r a), (1, sv_i ar1), (2, sv_i ar2), (3, sv_i ar3), (4, sv_i M11)]) (st' := [sv_i M11]) rfl ?_
      exact sv_iret C hr (by decide +kernel) hok10 (⟨rfl, ⟨_, rfl, ⟨by omega, by omega⟩, fun _ _ => (by first | (unfold fx_date; omega) | (unfold fx_date; rw [← hmo]; omega))⟩⟩)
    · refine sv_tsI C.1 C.2.1 (dflt := 46) (lo := 0) (hi := 2) (offs := #[26, 29, 40]) (len := 26) (off := 29) (tgt := 47) (by decide +kernel) 1 h12 (by decide) rfl (by decide) ?_
      refine sv_go C.1 C.2.1 [(.iload_n 2, 1), (.iload_n 1, 1), (.iload 4, 2)] (pc' := 51) (by decide +kernel) rfl (lv' := [(0, sv_r a), (1, sv_i ar1), (2, sv_i ar2), (3, sv_i ar3), (4, sv_i M11)]) (st' := [sv_i M11, sv_i ar1, sv_i ar2]) rfl ?_
      refine sv_cs C (index := 112) (k := 2) (rest := [sv_i ar2]) (by decide +kernel) (ct_X2_monthStart l g A ty σ hok10 (ar1) ⟨by omega, by omega⟩ (M11) ⟨by omega, by omega⟩) ⟨co_X2_monthStart, in_X2, ⟨by decide, by decide, by decide +kernel⟩, Nat.le_of_ble_eq_true rfl, Nat.le_of_ble_eq_true rfl⟩ ml_X9_112 st_X2_monthStart rfl rfl (Nat.le_of_ble_eq_true rfl) ⟨Nat.zero_le _, Nat.zero_le _⟩ (fun r14 σ15 hpo13 hok16 => ?_)
      obtain ⟨rfl, rfl⟩ := hpo13
      have hn18 := dy_ms_in ar1 M11
      refine sv_same (st2 := [sv_i (dy_ms ar1 M11), sv_i ar2]) (lv2 := [(0, sv_r a), (1, sv_i ar1), (2, sv_i ar2), (3, sv_i ar3), (4, sv_i M11)]) rfl rfl ?_
      refine sv_go C.1 C.2.1 [(.isub, 1), (.iconst 1, 1), (.iadd, 1)] (pc' := 57) (by decide +kernel) rfl (lv' := [(0, sv_r a), (1, sv_i ar1), (2, sv_i ar2), (3, sv_i ar3), (4, sv_i M11)]) (st' := [sv_i ((ar2 - (dy_ms ar1 M11)) + 1)]) rfl ?_
      exact sv_iret C hr (by decide +kernel) hok16 (⟨rfl, ⟨_, rfl, ⟨by omega, by omega⟩, fun _ _ => (by first | (unfold fx_date; omega) | (unfold fx_date; rw [← hmo]; omega))⟩⟩)
    · refine sv_tsI C.1 C.2.1 (dflt := 46) (lo := 0) (hi := 2) (offs := #[26, 29, 40]) (len := 26) (off := 40) (tgt := 58) (by decide +kernel) 2 h12 (by decide) rfl (by decide) ?_
      refine sv_go C.1 C.2.1 [(.iload_n 1, 1), (.iload_n 2, 1)] (pc' := 60) (by decide +kernel) rfl (lv' := [(0, sv_r a), (1, sv_i ar1), (2, sv_i ar2), (3, sv_i ar3), (4, sv_i M11)]) (st' := [sv_i ar2, sv_i ar1]) rfl ?_
      refine sv_cs C (index := 115) (k := 2) (rest := []) (by decide +kernel) (ct_X2_weekday l g A ty σ hok10 (ar1) ⟨by omega, by omega⟩ (ar2) ⟨by omega, by omega⟩) ⟨co_X2_weekday, in_X2, ⟨by decide, by decide, by decide +kernel⟩, Nat.le_of_ble_eq_true rfl, Nat.le_of_ble_eq_true rfl⟩ ml_X9_115 st_X2_weekday rfl rfl (Nat.le_of_ble_eq_true rfl) ⟨Nat.zero_le _, Nat.zero_le _⟩ (fun r20 σ21 hpo19 hok22 => ?_)
      obtain ⟨rfl, rfl⟩ := hpo19
      have hn24 := dy_wd_in ar1 ar2
      refine sv_same (st2 := [sv_i (dy_wd ar1 ar2)]) (lv2 := [(0, sv_r a), (1, sv_i ar1), (2, sv_i ar2), (3, sv_i ar3), (4, sv_i M11)]) rfl rfl ?_
      exact sv_iret C hr (by decide +kernel) hok22 (⟨rfl, ⟨_, rfl, ⟨by omega, by omega⟩, fun _ _ => (by first | (unfold fx_date; omega) | (unfold fx_date; rw [← hmo]; omega))⟩⟩)
    · refine sv_tsO C.1 C.2.1 (dflt := 46) (lo := 0) (hi := 2) (offs := #[26, 29, 40]) (len := 26) (tgt := 64) (by decide +kernel) ⟨by omega, by omega⟩ (by omega) (by decide) ?_
      refine sv_go C.1 C.2.1 [(.iconst (-1), 1)] (pc' := 65) (by decide +kernel) rfl (lv' := [(0, sv_r a), (1, sv_i ar1), (2, sv_i ar2), (3, sv_i ar3), (4, sv_i M11)]) (st' := [sv_i ((-1))]) rfl ?_
      exact sv_iret C hr (by decide +kernel) hok10 (⟨rfl, ⟨_, rfl, ⟨by omega, by omega⟩, fun _ _ => (by first | (unfold fx_date; omega) | (unfold fx_date; rw [← hmo]; omega))⟩⟩)
  · have hn6 := dy_lp_in ar1
    refine sv_same (st2 := [sv_i 0]) (lv2 := [(0, sv_r a), (1, sv_i ar1), (2, sv_i ar2), (3, sv_i ar3)]) rfl rfl ?_
    refine sv_if_f C.1 C.2.1 (cnd := .ne) (off := 5) (tgt := 10) (by decide +kernel) (by decide) ⟨by omega, by omega⟩ (show ¬ (0 ≠ 0) by omega) ?_
    refine sv_go C.1 C.2.1 [(.iconst (-1), 1)] (pc' := 9) (by decide +kernel) rfl (lv' := [(0, sv_r a), (1, sv_i ar1), (2, sv_i ar2), (3, sv_i ar3)]) (st' := [sv_i ((-1))]) rfl ?_
    exact sv_iret C hr (by decide +kernel) hok4 (⟨rfl, ⟨_, rfl, ⟨by omega, by omega⟩, fun _ _ => (by first | (unfold fx_date; omega) | (unfold fx_date; rw [← hmo]; omega))⟩⟩)

theorem dy_last {y d M : Int} (h1 : 1 ≤ M ∧ M ≤ 12) (h2 : dy_ms y (M + 1) ≤ d) (h3 : d < 365 + dy_lp y) : M + 1 ≤ 12 := by
  by_cases q : M = 12
  · subst q
    have e : dy_ms y (12 + 1) = 365 + dy_lp y := dy_ms13 y
    omega
  · omega

set_option maxHeartbeats 4000000 in
set_option maxRecDepth 100000 in
theorem ct_X11_date (l : Launch) (g : sv_G) (A : Nat → Prop) (ty : Nat → Nat) (σ : Nat → Nat → Int) (hok : sv_ok ty σ) (hTA : ∀ q, ty q ≠ 0 → A q) (hI : sv_inv sp_1 ty σ) (a : Nat) (k_a : ty a = 10) (ar1 : Int) (h_ar1 : (-2147483648) ≤ ar1 ∧ ar1 ≤ 2147483647) (ar2 : Int) (h_ar2 : (-2147483648) ≤ ar2 ∧ ar2 ≤ 2147483647) (ar3 : Int) (h_ar3 : (-2147483648) ≤ ar3 ∧ ar3 ≤ 2147483647) : sv_M l yX11_date cX11_date 6 (some .int) { frames := 3, cells := 0, slots := 0, locals := 66 } g A ty σ [sv_r a, sv_i ar1, sv_i ar2, sv_i ar3] (fun r σ' => σ = σ' ∧ ∃ rv : Int, r = [sv_i rv] ∧ ((-2) ≤ rv ∧ rv ≤ 366) ∧ ((-2147483648) ≤ rv → rv ≤ 2147483647 → rv = fx_date ar1 ar2 ar3)) := by
  refine sv_enter (by decide) (Nat.le_of_ble_eq_true rfl) ?_
  intro p e s m args below meth c C hr
  have C : sv_C g A RX11 cX11_date 6 p s m args meth c := C
  have hr : meth.sig.returnType = (some .int) := hr
  have hF : sv_ofx [] [] ty σ σ := sv_ofx.rf
  have hlp := dy_lp_in ar1
  refine sv_same (st2 := []) (lv2 := [(0, sv_r a), (1, sv_i ar1), (2, sv_i ar2), (3, sv_i ar3)]) rfl rfl ?_
  refine sv_go C.1 C.2.1 [(.iload_n 1, 1), (.iload_n 2, 1)] (pc' := 2) (by decide +kernel) rfl (lv' := [(0, sv_r a), (1, sv_i ar1), (2, sv_i ar2), (3, sv_i ar3)]) (st' := [sv_i ar2, sv_i ar1]) rfl ?_
  refine sv_cs C (index := 37) (k := 2) (rest := []) (by decide +kernel) (ct_X11_isDay l g A ty σ hok (ar1) ⟨by omega, by omega⟩ (ar2) ⟨by omega, by omega⟩) ⟨co_X11_isDay, in_X11, ⟨by decide, by decide, by decide +kernel⟩, Nat.le_of_ble_eq_true rfl, Nat.le_of_ble_eq_true rfl⟩ ml_X11_37 st_X11_isDay rfl rfl (Nat.le_of_ble_eq_true rfl) ⟨Nat.zero_le _, Nat.zero_le _⟩ (fun r2 σ3 hpo1 hok4 => ?_)
  obtain ⟨rfl, ⟨h5, rfl⟩ | ⟨h5, rfl⟩⟩ := hpo1
  · have hn6 := dy_lp_in ar1
    refine sv_same (st2 := [sv_i 1]) (lv2 := [(0, sv_r a), (1, sv_i ar1), (2, sv_i ar2), (3, sv_i ar3)]) rfl rfl ?_
    refine sv_if_t C.1 C.2.1 (cnd := .ne) (off := 5) (tgt := 10) (by decide +kernel) (by decide) ⟨by omega, by omega⟩ (show 1 ≠ 0 by omega) ?_
    refine sv_go C.1 C.2.1 [(.iconst 1, 1), (.istore 4, 2), (.iload_n 2, 1), (.istore 5, 2)] (pc' := 16) (by decide +kernel) rfl (lv' := [(0, sv_r a), (1, sv_i ar1), (2, sv_i ar2), (3, sv_i ar3), (4, sv_i 1), (5, sv_i ar2)]) (st' := []) rfl ?_
    have L8 : ∀ (n : Nat) (Xg7_l4 : Int) (Xg7_l5 : Int), (1 ≤ Xg7_l4 ∧ Xg7_l4 ≤ 13) → ((-3) ≤ Xg7_l5 ∧ Xg7_l5 ≤ 365) → (1 ≤ Xg7_l4 ∧ Xg7_l4 ≤ 12) → (Xg7_l5 = ar2 - dy_ms ar1 Xg7_l4) → (0 ≤ Xg7_l5 ∧ Xg7_l5 ≤ 366) → (12 - Xg7_l4) < (n : Int) → sv_E p l e { frames := 3, cells := 0, slots := 0, locals := 66 } s m args below meth c 6 g A ty (fun r σ' => σ = σ' ∧ ∃ rv : Int, r = [sv_i rv] ∧ ((-2) ≤ rv ∧ rv ≤ 366) ∧ ((-2147483648) ≤ rv → rv ≤ 2147483647 → rv = fx_date ar1 ar2 ar3)) σ 16 [(1, sv_i ar1), (2, sv_i ar2), (3, sv_i ar3), (4, sv_i Xg7_l4), (5, sv_i Xg7_l5)] [] := by
      intro n
      induction n with
      | zero => intro Xg7_l4 Xg7_l5 hXg7_l4 hXg7_l5 hM hN hN0 hmu; exact absurd hmu (by omega)
      | succ n ih9 =>
        intro Xg7_l4 Xg7_l5 hXg7_l4 hXg7_l5 hM hN hN0 hmu
        refine sv_go C.1 C.2.1 [(.iload 5, 2), (.iload_n 1, 1), (.iload 4, 2)] (pc' := 21) (by decide +kernel) rfl (lv' := [(1, sv_i ar1), (2, sv_i ar2), (3, sv_i ar3), (4, sv_i Xg7_l4), (5, sv_i Xg7_l5)]) (st' := [sv_i Xg7_l4, sv_i ar1, sv_i Xg7_l5]) rfl ?_
        refine sv_cs C (index := 24) (k := 2) (rest := [sv_i Xg7_l5]) (by decide +kernel) (ct_X11_monthDays l g A ty σ hok4 (ar1) ⟨by omega, by omega⟩ (Xg7_l4) ⟨by omega, by omega⟩) ⟨co_X11_monthDays, in_X11, ⟨by decide, by decide, by decide +kernel⟩, Nat.le_of_ble_eq_true rfl, Nat.le_of_ble_eq_true rfl⟩ ml_X11_24 st_X11_monthDays rfl rfl (Nat.le_of_ble_eq_true rfl) ⟨Nat.zero_le _, Nat.zero_le _⟩ (fun r11 σ12 hpo10 hok13 => ?_)
        obtain ⟨rfl, rfl⟩ := hpo10
        have hn15 := dy_md_in ar1 Xg7_l4
        refine sv_same (st2 := [sv_i (dy_md ar1 Xg7_l4), sv_i Xg7_l5]) (lv2 := [(1, sv_i ar1), (2, sv_i ar2), (3, sv_i ar3), (4, sv_i Xg7_l4), (5, sv_i Xg7_l5)]) rfl rfl ?_
        refine sv_icmp C.1 C.2.1 (cnd := .lt) (off := 20) (tgt := 44) (by decide +kernel) (by decide) ⟨by omega, by omega⟩ ⟨by omega, by omega⟩ (fun (h16 : Xg7_l5 < (dy_md ar1 Xg7_l4)) => ?_) (fun (h16 : ¬ (Xg7_l5 < (dy_md ar1 Xg7_l4))) => ?_)
        · refine sv_go C.1 C.2.1 [(.iload_n 3, 1)] (pc' := 45) (by decide +kernel) rfl (lv' := [(1, sv_i ar1), (2, sv_i ar2), (3, sv_i ar3), (4, sv_i Xg7_l4), (5, sv_i Xg7_l5)]) (st' := [sv_i ar3]) rfl ?_
          have hmo := dy_mo_of (y := ar1) (d := ar2) (M := Xg7_l4) (by omega) (by omega) (by omega) (by omega) (by right; rw [dy_ms_s (by omega) (by omega)]; omega)
          refine sv_if C.1 C.2.1 (cnd := .ne) (off := 8) (tgt := 53) (by decide +kernel) (by decide) ⟨by omega, by omega⟩ (fun (h17 : ar3 ≠ 0) => ?_) (fun (h17 : ¬ (ar3 ≠ 0)) => ?_)
          · refine sv_go C.1 C.2.1 [(.iload_n 3, 1), (.iconst 1, 1)] (pc' := 55) (by decide +kernel) rfl (lv' := [(1, sv_i ar1), (2, sv_i ar2), (3, sv_i ar3), (4, sv_i Xg7_l4), (5, sv_i Xg7_l5)]) (st' := [sv_i 1, sv_i ar3]) rfl ?_
            refine sv_icmp C.1 C.2.1 (cnd := .ne) (off := 10) (tgt := 65) (by decide +kernel) (by decide) ⟨by omega, by omega⟩ ⟨by omega, by omega⟩ (fun (h18 : ar3 ≠ 1) => ?_) (fun (h18 : ¬ (ar3 ≠ 1)) => ?_)
            · refine sv_go C.1 C.2.1 [(.iload_n 3, 1), (.iconst 2, 1)] (pc' := 67) (by decide +kernel) rfl (lv' := [(1, sv_i ar1), (2, sv_i ar2), (3, sv_i ar3), (4, sv_i Xg7_l4), (5, sv_i Xg7_l5)]) (st' := [sv_i 2, sv_i ar3]) rfl ?_
              refine sv_icmp C.1 C.2.1 (cnd := .ne) (off := 11) (tgt := 78) (by decide +kernel) (by decide) ⟨by omega, by omega⟩ ⟨by omega, by omega⟩ (fun (h19 : ar3 ≠ 2) => ?_) (fun (h19 : ¬ (ar3 ≠ 2)) => ?_)
              · refine sv_go C.1 C.2.1 [(.iconst (-1), 1)] (pc' := 79) (by decide +kernel) rfl (lv' := [(1, sv_i ar1), (2, sv_i ar2), (3, sv_i ar3), (4, sv_i Xg7_l4), (5, sv_i Xg7_l5)]) (st' := [sv_i ((-1))]) rfl ?_
                exact sv_iret C hr (by decide +kernel) hok13 (⟨rfl, ⟨_, rfl, ⟨by omega, by omega⟩, fun _ _ => (by first | (unfold fx_date; omega) | (unfold fx_date; rw [← hmo]; omega))⟩⟩)
              · refine sv_go C.1 C.2.1 [(.iload_n 1, 1), (.iload_n 2, 1)] (pc' := 72) (by decide +kernel) rfl (lv' := [(1, sv_i ar1), (2, sv_i ar2), (3, sv_i ar3), (4, sv_i Xg7_l4), (5, sv_i Xg7_l5)]) (st' := [sv_i ar2, sv_i ar1]) rfl ?_
                refine sv_cs C (index := 31) (k := 2) (rest := []) (by decide +kernel) (ct_X11_weekday l g A ty σ hok13 (ar1) ⟨by omega, by omega⟩ (ar2) ⟨by omega, by omega⟩) ⟨co_X11_weekday, in_X11, ⟨by decide, by decide, by decide +kernel⟩, Nat.le_of_ble_eq_true rfl, Nat.le_of_ble_eq_true rfl⟩ ml_X11_31 st_X11_weekday rfl rfl (Nat.le_of_ble_eq_true rfl) ⟨Nat.zero_le _, Nat.zero_le _⟩ (fun r21 σ22 hpo20 hok23 => ?_)
                obtain ⟨rfl, rfl⟩ := hpo20
                have hn25 := dy_wd_in ar1 ar2
                refine sv_same (st2 := [sv_i (dy_wd ar1 ar2)]) (lv2 := [(1, sv_i ar1), (2, sv_i ar2), (3, sv_i ar3), (4, sv_i Xg7_l4), (5, sv_i Xg7_l5)]) rfl rfl ?_
                refine sv_goto C.1 C.2.1 (off := 4) (tgt := 79) (by decide +kernel) (by decide) ?_
                exact sv_iret C hr (by decide +kernel) hok23 (⟨rfl, ⟨_, rfl, ⟨by omega, by omega⟩, fun _ _ => (by first | (unfold fx_date; omega) | (unfold fx_date; rw [← hmo]; omega))⟩⟩)
            · refine sv_go C.1 C.2.1 [(.iload 5, 2), (.iconst 1, 1), (.iadd, 1)] (pc' := 62) (by decide +kernel) rfl (lv' := [(1, sv_i ar1), (2, sv_i ar2), (3, sv_i ar3), (4, sv_i Xg7_l4), (5, sv_i Xg7_l5)]) (st' := [sv_i (Xg7_l5 + 1)]) rfl ?_
              refine sv_goto C.1 C.2.1 (off := 17) (tgt := 79) (by decide +kernel) (by decide) ?_
              exact sv_iret C hr (by decide +kernel) hok13 (⟨rfl, ⟨_, rfl, ⟨by omega, by omega⟩, fun _ _ => (by first | (unfold fx_date; omega) | (unfold fx_date; rw [← hmo]; omega))⟩⟩)
          · refine sv_go C.1 C.2.1 [(.iload 4, 2)] (pc' := 50) (by decide +kernel) rfl (lv' := [(1, sv_i ar1), (2, sv_i ar2), (3, sv_i ar3), (4, sv_i Xg7_l4), (5, sv_i Xg7_l5)]) (st' := [sv_i Xg7_l4]) rfl ?_
            refine sv_goto C.1 C.2.1 (off := 29) (tgt := 79) (by decide +kernel) (by decide) ?_
            exact sv_iret C hr (by decide +kernel) hok13 (⟨rfl, ⟨_, rfl, ⟨by omega, by omega⟩, fun _ _ => (by first | (unfold fx_date; omega) | (unfold fx_date; rw [← hmo]; omega))⟩⟩)
        · refine sv_go C.1 C.2.1 [(.iload 5, 2), (.iload_n 1, 1), (.iload 4, 2)] (pc' := 32) (by decide +kernel) rfl (lv' := [(1, sv_i ar1), (2, sv_i ar2), (3, sv_i ar3), (4, sv_i Xg7_l4), (5, sv_i Xg7_l5)]) (st' := [sv_i Xg7_l4, sv_i ar1, sv_i Xg7_l5]) rfl ?_
          refine sv_cs C (index := 24) (k := 2) (rest := [sv_i Xg7_l5]) (by decide +kernel) (ct_X11_monthDays l g A ty σ hok13 (ar1) ⟨by omega, by omega⟩ (Xg7_l4) ⟨by omega, by omega⟩) ⟨co_X11_monthDays, in_X11, ⟨by decide, by decide, by decide +kernel⟩, Nat.le_of_ble_eq_true rfl, Nat.le_of_ble_eq_true rfl⟩ ml_X11_24 st_X11_monthDays rfl rfl (Nat.le_of_ble_eq_true rfl) ⟨Nat.zero_le _, Nat.zero_le _⟩ (fun r27 σ28 hpo26 hok29 => ?_)
          obtain ⟨rfl, rfl⟩ := hpo26
          have hn31 := dy_md_in ar1 Xg7_l4
          refine sv_same (st2 := [sv_i (dy_md ar1 Xg7_l4), sv_i Xg7_l5]) (lv2 := [(1, sv_i ar1), (2, sv_i ar2), (3, sv_i ar3), (4, sv_i Xg7_l4), (5, sv_i Xg7_l5)]) rfl rfl ?_
          refine sv_go C.1 C.2.1 [(.isub, 1), (.istore 5, 2), (.iinc 4 1, 3)] (pc' := 41) (by decide +kernel) rfl (lv' := [(1, sv_i ar1), (2, sv_i ar2), (3, sv_i ar3), (4, sv_i (Xg7_l4 + 1)), (5, sv_i (Xg7_l5 - (dy_md ar1 Xg7_l4)))]) (st' := []) rfl ?_
          refine sv_goto C.1 C.2.1 (off := (-25)) (tgt := 16) (by decide +kernel) (by decide) ?_
          exact ih9 (Xg7_l4 + 1) (Xg7_l5 - (dy_md ar1 Xg7_l4)) ⟨by omega, by omega⟩ ⟨by omega, by omega⟩ ⟨by omega, dy_last (y := ar1) (d := ar2) hM (by rw [dy_ms_s (by omega) (by omega)]; omega) (by omega)⟩ (by rw [dy_ms_s (by omega) (by omega)]; omega) (by omega) (by omega)
    refine sv_pick [1, 2, 3, 4, 5] (lv2 := [(1, sv_i ar1), (2, sv_i ar2), (3, sv_i ar3), (4, sv_i 1), (5, sv_i ar2)]) rfl ?_
    exact L8 (((12 - 1 : Int)).toNat + 1) 1 ar2 ⟨by omega, by omega⟩ ⟨by omega, by omega⟩ ⟨by omega, by omega⟩ (by rw [dy_ms1]; omega) (by omega) (by omega)
  · have hn6 := dy_lp_in ar1
    refine sv_same (st2 := [sv_i 0]) (lv2 := [(0, sv_r a), (1, sv_i ar1), (2, sv_i ar2), (3, sv_i ar3)]) rfl rfl ?_
    refine sv_if_f C.1 C.2.1 (cnd := .ne) (off := 5) (tgt := 10) (by decide +kernel) (by decide) ⟨by omega, by omega⟩ (show ¬ (0 ≠ 0) by omega) ?_
    refine sv_go C.1 C.2.1 [(.iconst (-1), 1)] (pc' := 9) (by decide +kernel) rfl (lv' := [(0, sv_r a), (1, sv_i ar1), (2, sv_i ar2), (3, sv_i ar3)]) (st' := [sv_i ((-1))]) rfl ?_
    exact sv_iret C hr (by decide +kernel) hok4 (⟨rfl, ⟨_, rfl, ⟨by omega, by omega⟩, fun _ _ => (by first | (unfold fx_date; omega) | (unfold fx_date; rw [← hmo]; omega))⟩⟩)
