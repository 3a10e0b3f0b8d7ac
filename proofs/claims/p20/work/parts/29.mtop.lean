theorem ml_X11_235 : Cond.methodLink RX11 235 yX11_clear ∈ lw_good := sv_mem 1270 (by decide +kernel) rfl
theorem co_X11_clear : Cond.code yX11_clear cX11_clear 3 none ∈ lw_good := sv_mem 1273 (by decide +kernel) rfl
theorem im_X11_clear : Cond.instanceMethod yX11_clear ∈ lw_good := sv_mem 1272 (by decide +kernel) rfl
theorem se_X11_clear : Cond.selects RX11 yX11_clear yX11_clear ∈ lw_good := sv_mem 45 (by decide +kernel) rfl
theorem ml_X11_246 : Cond.methodLink RX11 246 yX11_readLine ∈ lw_good := sv_mem 1288 (by decide +kernel) rfl
theorem co_X11_readLine : Cond.code yX11_readLine cX11_readLine 2 none ∈ lw_good := sv_mem 1291 (by decide +kernel) rfl
theorem im_X11_readLine : Cond.instanceMethod yX11_readLine ∈ lw_good := sv_mem 1290 (by decide +kernel) rfl
theorem se_X11_readLine : Cond.selects RX11 yX11_readLine yX11_readLine ∈ lw_good := sv_mem 48 (by decide +kernel) rfl
set_option maxHeartbeats 4000000 in
set_option maxRecDepth 100000 in
theorem sf_X11_readCalendar (l : Launch) (g : sv_G) (A : Nat → Prop) (ty : Nat → Nat) (σ : Nat → Nat → Int) (hok : sv_ok ty σ) (hTA : ∀ q, ty q ≠ 0 → A q) (hI : sv_inv sp_1 ty σ) (a : Nat) (k_a : ty a = 10) : st_M l yX11_readCalendar cX11_readCalendar 2 none { frames := 8, cells := 0, slots := 0, locals := 176 } g A ty σ [sv_r a] (fun r σ' => (r = []) ∧ sv_inv sp_1 ty σ' ∧ sv_ofx [(10, 19), (10, 20), (10, 21), (10, 22), (10, 23), (10, 24), (10, 25), (10, 26)] [60, 61, 62, 63, 64, 65, 66, 67, 68, 69, 70, 71, 72, 73, 74, 87] ty σ σ') (fun x σ' => ty x = 11 ∧ sv_inv sp_1 ty σ' ∧ sv_ofx [(10, 19), (10, 20), (10, 21), (10, 22), (10, 23), (10, 24), (10, 25), (10, 26)] [60, 61, 62, 63, 64, 65, 66, 67, 68, 69, 70, 71, 72, 73, 74, 87] ty σ σ') := by
  refine st_enter (by decide) (Nat.le_of_ble_eq_true rfl) ?_
  intro p e s m args below meth c C hr hE
  have C : sv_C g A RX11 cX11_readCalendar 2 p s m args meth c := C
  have hr : meth.sig.returnType = none := hr
  have hF : sv_ofx [(10, 19), (10, 20), (10, 21), (10, 22), (10, 23), (10, 24), (10, 25), (10, 26)] [60, 61, 62, 63, 64, 65, 66, 67, 68, 69, 70, 71, 72, 73, 74, 87] ty σ σ := sv_ofx.rf
  obtain ⟨ra18, era18, hra18⟩ := sv_rdn hI (k := 18) k_a rfl
  refine sv_same (st2 := []) (lv2 := [(0, sv_r a)]) rfl rfl ?_
  refine sv_go C.1 C.2.1 [(.aload_n 0, 1), (.iconst 4, 1)] (pc' := 2) (by decide +kernel) rfl (lv' := [(0, sv_r a)]) (st' := [sv_i 4, sv_r a]) rfl ?_
  refine sv_cv C (index := 235) (k := 1) (rest := []) (ci := 10) (r := (RX11, TX11, 47)) (by decide +kernel) (sf_X11_clear l g A ty σ hok hTA hI a k_a (4) ⟨by omega, by omega⟩) ⟨co_X11_clear, in_X11, ⟨by decide, by decide, by decide +kernel⟩, Nat.le_of_ble_eq_true rfl, Nat.le_of_ble_eq_true rfl⟩ ml_X11_235 im_X11_clear se_X11_clear (by rw [k_a]; rfl) rfl rfl rfl (Nat.le_of_ble_eq_true rfl) ⟨Nat.zero_le _, Nat.zero_le _⟩ (fun r2 σ3 hpo1 hok4 => ?_)
  obtain ⟨rfl, hIu5, hFu5⟩ := hpo1
  have hGu5 := hF.tr hFu5 (by decide +kernel) (by decide +kernel)
  have t6 : σ3 a 18 = ra18 := (hFu5.at k_a (by decide +kernel) (by decide +kernel)).trans era18
  refine sv_same (st2 := []) (lv2 := [(0, sv_r a)]) rfl rfl ?_
  refine sv_go C.1 C.2.1 [(.aload_n 0, 1), (.iconst 0, 1)] (pc' := 7) (by decide +kernel) rfl (lv' := [(0, sv_r a)]) (st' := [sv_i 0, sv_r a]) rfl ?_
  refine sv_pf C (index := 239) (ci := 10) (k := 25) (r := (RX11, TX11, 47)) (z := 0) (by decide +kernel) (by rw [k_a]; rfl) rfl (by decide) rfl fl_X11_239 rfl (Or.inr (Or.inl rfl)) ⟨by omega, by omega⟩ (hTA _ (by rw [k_a]; decide)) hok4 (fun hok7 => ?_)
  have hI9 := hIu5.up (a := a) (k := 25) (z := 0) (by rw [k_a]; exact trivial)
  have hF10 := hGu5.up (a := a) (k := 25) (z := 0) (Or.inr (by rw [k_a]; decide +kernel))
  generalize eσ8 : sv_up σ3 a 25 0 = σ8 at hok7 hI9 hF10 ⊢
  have t11 : σ8 a 18 = ra18 := by rw [← eσ8, sv_up_k (by decide)]; exact t6
  have t12 : σ8 a 25 = 0 := by rw [← eσ8]; exact sv_up_s _ _ _ _
  refine sv_go C.1 C.2.1 [(.aload_n 0, 1), (.iconst 0, 1)] (pc' := 12) (by decide +kernel) rfl (lv' := [(0, sv_r a)]) (st' := [sv_i 0, sv_r a]) rfl ?_
  refine sv_pf C (index := 243) (ci := 10) (k := 26) (r := (RX11, TX11, 47)) (z := 0) (by decide +kernel) (by rw [k_a]; rfl) rfl (by decide) rfl fl_X11_243 rfl (Or.inr (Or.inl rfl)) ⟨by omega, by omega⟩ (hTA _ (by rw [k_a]; decide)) hok7 (fun hok13 => ?_)
  have hI15 := hI9.up (a := a) (k := 26) (z := 0) (by rw [k_a]; exact trivial)
  have hF16 := hF10.up (a := a) (k := 26) (z := 0) (Or.inr (by rw [k_a]; decide +kernel))
  generalize eσ14 : sv_up σ8 a 26 0 = σ14 at hok13 hI15 hF16 ⊢
  have t17 : σ14 a 18 = ra18 := by rw [← eσ14, sv_up_k (by decide)]; exact t11
  have t18 : σ14 a 25 = 0 := by rw [← eσ14, sv_up_k (by decide)]; exact t12
  have t19 : σ14 a 26 = 0 := by rw [← eσ14]; exact sv_up_s _ _ _ _
  refine sv_go C.1 C.2.1 [(.iconst 0, 1), (.istore_n 1, 1)] (pc' := 17) (by decide +kernel) rfl (lv' := [(0, sv_r a), (1, sv_i 0)]) (st' := []) rfl ?_
  have L22 : ∀ (n : Nat) (Xg20_l1 : Int) (σ21 : Nat → Nat → Int), (0 ≤ Xg20_l1 ∧ Xg20_l1 ≤ 9) → (sv_ok ty σ21) → (sv_inv sp_1 ty σ21) → (sv_ofx [(10, 19), (10, 20), (10, 21), (10, 22), (10, 23), (10, 24), (10, 25), (10, 26)] [60, 61, 62, 63, 64, 65, 66, 67, 68, 69, 70, 71, 72, 73, 74, 87] ty σ σ21) → (σ21 a 18 = ra18) → (σ21 a 25 = 0) → (σ21 a 26 = 0) → (9 - Xg20_l1) < (n : Int) → st_E p l e { frames := 8, cells := 0, slots := 0, locals := 176 } s m args below meth c 2 g A ty (fun r σ' => (r = []) ∧ sv_inv sp_1 ty σ' ∧ sv_ofx [(10, 19), (10, 20), (10, 21), (10, 22), (10, 23), (10, 24), (10, 25), (10, 26)] [60, 61, 62, 63, 64, 65, 66, 67, 68, 69, 70, 71, 72, 73, 74, 87] ty σ σ') (fun x σ' => ty x = 11 ∧ sv_inv sp_1 ty σ' ∧ sv_ofx [(10, 19), (10, 20), (10, 21), (10, 22), (10, 23), (10, 24), (10, 25), (10, 26)] [60, 61, 62, 63, 64, 65, 66, 67, 68, 69, 70, 71, 72, 73, 74, 87] ty σ σ') σ21 17 [(0, sv_r a), (1, sv_i Xg20_l1)] [] := by
    intro n
    induction n with
    | zero => intro Xg20_l1 σ21 hXg20_l1 okσ21 Iσ21 Fσ21 eσ21_0 eσ21_1 eσ21_2 hmu; exact absurd hmu (by omega)
    | succ n ih23 =>
      intro Xg20_l1 σ21 hXg20_l1 okσ21 Iσ21 Fσ21 eσ21_0 eσ21_1 eσ21_2 hmu
      refine sv_go C.1 C.2.1 [(.iload_n 1, 1), (.bipush 9, 2)] (pc' := 20) (by decide +kernel) rfl (lv' := [(0, sv_r a), (1, sv_i Xg20_l1)]) (st' := [sv_i 9, sv_i Xg20_l1]) rfl ?_
      refine sv_icmp C.1 C.2.1 (cnd := .ge) (off := 16) (tgt := 36) (by decide +kernel) (by decide) ⟨by omega, by omega⟩ ⟨by omega, by omega⟩ (fun (h24 : 9 ≤ Xg20_l1) => ?_) (fun (h24 : ¬ (9 ≤ Xg20_l1)) => ?_)
      · refine sv_go C.1 C.2.1 [(.aload_n 0, 1), (.iconst 0, 1)] (pc' := 38) (by decide +kernel) rfl (lv' := [(0, sv_r a), (1, sv_i Xg20_l1)]) (st' := [sv_i 0, sv_r a]) rfl ?_
        refine sv_pf C (index := 178) (ci := 10) (k := 20) (r := (RX11, TX11, 47)) (z := 0) (by decide +kernel) (by rw [k_a]; rfl) rfl (by decide) rfl fl_X11_178 rfl (Or.inl rfl) ⟨by omega, by omega⟩ (hTA _ (by rw [k_a]; decide)) okσ21 (fun hok25 => ?_)
        have hI27 := Iσ21.up (a := a) (k := 20) (z := 0) (by rw [k_a]; exact ⟨by omega, by omega⟩)
        have hF28 := Fσ21.up (a := a) (k := 20) (z := 0) (Or.inr (by rw [k_a]; decide +kernel))
        generalize eσ26 : sv_up σ21 a 20 0 = σ26 at hok25 hI27 hF28 ⊢
        have t29 : σ26 a 18 = ra18 := by rw [← eσ26, sv_up_k (by decide)]; exact eσ21_0
        have t30 : σ26 a 25 = 0 := by rw [← eσ26, sv_up_k (by decide)]; exact eσ21_1
        have t31 : σ26 a 26 = 0 := by rw [← eσ26, sv_up_k (by decide)]; exact eσ21_2
        have t32 : σ26 a 20 = 0 := by rw [← eσ26]; exact sv_up_s _ _ _ _
        refine sv_go C.1 C.2.1 [(.aload_n 0, 1)] (pc' := 42) (by decide +kernel) rfl (lv' := [(0, sv_r a), (1, sv_i Xg20_l1)]) (st' := [sv_r a]) rfl ?_
        refine sv_cv C (index := 229) (k := 0) (rest := []) (ci := 10) (r := (RX11, TX11, 47)) (by decide +kernel) (sf_X11_scan l g A ty σ26 hok25 hTA hI27 a k_a (ra18) ⟨by omega, by omega⟩ (0) ⟨by omega, by omega⟩ t29 t32 (by omega)) ⟨co_X11_scan, in_X11, ⟨by decide, by decide, by decide +kernel⟩, Nat.le_of_ble_eq_true rfl, Nat.le_of_ble_eq_true rfl⟩ ml_X11_229 im_X11_scan se_X11_scan (by rw [k_a]; rfl) rfl rfl rfl (Nat.le_of_ble_eq_true rfl) ⟨Nat.zero_le _, Nat.zero_le _⟩ (fun r34 σ35 hpo33 hok36 => ?_)
        obtain ⟨rfl, hIu37, hFu37, xu37⟩ := hpo33
        have hGu37 := hF28.tr hFu37 (by decide +kernel) (by decide +kernel)
        have t38 : σ35 a 18 = ra18 := (hFu37.at k_a (by decide +kernel) (by decide +kernel)).trans t29
        have t39 : σ35 a 25 = 0 := (hFu37.at k_a (by decide +kernel) (by decide +kernel)).trans t30
        have t40 : σ35 a 26 = 0 := (hFu37.at k_a (by decide +kernel) (by decide +kernel)).trans t31
        obtain ⟨c1u37, c2u37, chu37, e19u37, e20u37, e21u37, j1u37, j2u37, j3u37, j4u37⟩ := xu37
        refine sv_same (st2 := []) (lv2 := [(0, sv_r a), (1, sv_i Xg20_l1)]) rfl rfl ?_
        have L43 : ∀ (n : Nat) (Xg41_fa_19 : Int) (Xg41_fa_20 : Int) (Xg41_fa_21 : Int) (σ42 : Nat → Nat → Int), (0 ≤ Xg41_fa_19 ∧ Xg41_fa_19 ≤ 4000) → (0 ≤ Xg41_fa_20 ∧ Xg41_fa_20 ≤ 4000) → (0 ≤ Xg41_fa_21 ∧ Xg41_fa_21 ≤ 4) → (sv_ok ty σ42) → (sv_inv sp_1 ty σ42) → (sv_ofx [(10, 19), (10, 20), (10, 21), (10, 22), (10, 23), (10, 24), (10, 25), (10, 26)] [60, 61, 62, 63, 64, 65, 66, 67, 68, 69, 70, 71, 72, 73, 74, 87] ty σ σ42) → (σ42 a 18 = ra18) → (σ42 a 19 = Xg41_fa_19) → (σ42 a 20 = Xg41_fa_20) → (σ42 a 21 = Xg41_fa_21) → (Xg41_fa_19 ≤ Xg41_fa_20 ∧ Xg41_fa_20 ≤ ra18) → ((Xg41_fa_21 = 0 ∨ Xg41_fa_19 < Xg41_fa_20) ∧ (Xg41_fa_21 ≠ 1 ∨ Xg41_fa_20 ≤ Xg41_fa_19 + 12)) → (ra18 - Xg41_fa_19) < (n : Int) → st_E p l e { frames := 8, cells := 0, slots := 0, locals := 176 } s m args below meth c 2 g A ty (fun r σ' => (r = []) ∧ sv_inv sp_1 ty σ' ∧ sv_ofx [(10, 19), (10, 20), (10, 21), (10, 22), (10, 23), (10, 24), (10, 25), (10, 26)] [60, 61, 62, 63, 64, 65, 66, 67, 68, 69, 70, 71, 72, 73, 74, 87] ty σ σ') (fun x σ' => ty x = 11 ∧ sv_inv sp_1 ty σ' ∧ sv_ofx [(10, 19), (10, 20), (10, 21), (10, 22), (10, 23), (10, 24), (10, 25), (10, 26)] [60, 61, 62, 63, 64, 65, 66, 67, 68, 69, 70, 71, 72, 73, 74, 87] ty σ σ') σ42 45 [(0, sv_r a)] [] := by
          intro n
          induction n with
          | zero => intro Xg41_fa_19 Xg41_fa_20 Xg41_fa_21 σ42 hXg41_fa_19 hXg41_fa_20 hXg41_fa_21 okσ42 Iσ42 Fσ42 eσ42_0 eσ42_1 eσ42_2 eσ42_3 zco zc hmu; exact absurd hmu (by omega)
          | succ n ih44 =>
            intro Xg41_fa_19 Xg41_fa_20 Xg41_fa_21 σ42 hXg41_fa_19 hXg41_fa_20 hXg41_fa_21 okσ42 Iσ42 Fσ42 eσ42_0 eσ42_1 eσ42_2 eσ42_3 zco zc hmu
            clear j3u37 j4u37
            refine sv_go C.1 C.2.1 [(.aload_n 0, 1)] (pc' := 46) (by decide +kernel) rfl (lv' := [(0, sv_r a)]) (st' := [sv_r a]) rfl ?_
            refine sv_gf C (index := 184) (ci := 10) (k := 21) (r := (RX11, TX11, 47)) (v := sv_i Xg41_fa_21) (by decide +kernel) (by rw [k_a]; rfl) rfl (by decide) fl_X11_184 (congrArg sv_i eσ42_3) ?_
            refine sv_if C.1 C.2.1 (cnd := .eq) (off := 29) (tgt := 78) (by decide +kernel) (by decide) ⟨by omega, by omega⟩ (fun (h45 : Xg41_fa_21 = 0) => ?_) (fun (h45 : ¬ (Xg41_fa_21 = 0)) => ?_)
            · exact st_of (sv_vret C hr (by decide +kernel) okσ42 (⟨rfl, Iσ42, Fσ42⟩))
            · refine sv_go C.1 C.2.1 [(.aload_n 0, 1)] (pc' := 53) (by decide +kernel) rfl (lv' := [(0, sv_r a)]) (st' := [sv_r a]) rfl ?_
              refine st_cv C (index := 246) (k := 0) (rest := []) (ci := 10) (r := (RX11, TX11, 47)) (by decide +kernel) (sf_X11_readLine l g A ty σ42 okσ42 hTA Iσ42 a k_a (ra18) ⟨by omega, by omega⟩ (Xg41_fa_19) ⟨by omega, by omega⟩ (Xg41_fa_20) ⟨by omega, by omega⟩ (Xg41_fa_21) ⟨by omega, by omega⟩ eσ42_0 eσ42_1 eσ42_2 eσ42_3 (by omega) (by omega) (by omega)) ⟨co_X11_readLine, in_X11, ⟨by decide, by decide, by decide +kernel⟩, Nat.le_of_ble_eq_true rfl, Nat.le_of_ble_eq_true rfl⟩ ml_X11_246 im_X11_readLine se_X11_readLine (by rw [k_a]; rfl) rfl rfl rfl (Nat.le_of_ble_eq_true rfl) ⟨Nat.zero_le _, Nat.zero_le _⟩ (fun r47 σ48 hpo46 hok49 => ?_) (fun xt50 σ48 hpo46 hok49 => st_out C hE hok49 ⟨hpo46.1, hpo46.2.1, Fσ42.tr hpo46.2.2 (by decide +kernel) (by decide +kernel)⟩)
              obtain ⟨rfl, hIu51, hFu51, xu51⟩ := hpo46
              have hGu51 := Fσ42.tr hFu51 (by decide +kernel) (by decide +kernel)
              have t52 : σ48 a 18 = ra18 := (hFu51.at k_a (by decide +kernel) (by decide +kernel)).trans eσ42_0
              have hltu51 : Xg41_fa_19 < Xg41_fa_20 := by omega
              clear zc
              obtain ⟨c1u51, c2u51, chu51, e19u51, e20u51, e21u51, j1u51, j2u51, j3u51, j4u51⟩ := xu51
              refine sv_same (st2 := []) (lv2 := [(0, sv_r a)]) rfl rfl ?_
              refine sv_go C.1 C.2.1 [(.aload_n 0, 1), (.bipush 59, 2)] (pc' := 59) (by decide +kernel) rfl (lv' := [(0, sv_r a)]) (st' := [sv_i 59, sv_r a]) rfl ?_
              refine sv_cv C (index := 249) (k := 1) (rest := []) (ci := 10) (r := (RX11, TX11, 47)) (by decide +kernel) (sf_X11_isSign l g A ty σ48 hok49 hTA hIu51 a k_a (59) ⟨by omega, by omega⟩ (ra18) ⟨by omega, by omega⟩ (c1u51) ⟨by omega, by omega⟩ (c2u51) ⟨by omega, by omega⟩ (chu51) ⟨by omega, by omega⟩ t52 e19u51 e20u51 e21u51 (by omega) (by omega) (by omega)) ⟨co_X11_isSign, in_X11, ⟨by decide, by decide, by decide +kernel⟩, Nat.le_of_ble_eq_true rfl, Nat.le_of_ble_eq_true rfl⟩ ml_X11_249 im_X11_isSign se_X11_isSign (by rw [k_a]; rfl) rfl rfl rfl (Nat.le_of_ble_eq_true rfl) ⟨Nat.zero_le _, Nat.zero_le _⟩ (fun r54 σ55 hpo53 hok56 => ?_)
              obtain ⟨rfl, ⟨vu57, rfl, hvu57, ivu57_0⟩⟩ := hpo53
              replace ivu57_0 := zq_mk ivu57_0
              refine sv_same (st2 := [sv_i vu57]) (lv2 := [(0, sv_r a)]) rfl rfl ?_
              refine sv_if C.1 C.2.1 (cnd := .ne) (off := 9) (tgt := 71) (by decide +kernel) (by decide) ⟨by omega, by omega⟩ (fun (h58 : vu57 ≠ 0) => ?_) (fun (h58 : ¬ (vu57 ≠ 0)) => ?_)
              · have hp59 := zq_un ivu57_0 (by omega) (by omega)
                refine sv_go C.1 C.2.1 [(.aload_n 0, 1)] (pc' := 72) (by decide +kernel) rfl (lv' := [(0, sv_r a)]) (st' := [sv_r a]) rfl ?_
                refine sv_cv C (index := 229) (k := 0) (rest := []) (ci := 10) (r := (RX11, TX11, 47)) (by decide +kernel) (sf_X11_scan l g A ty σ48 hok56 hTA hIu51 a k_a (ra18) ⟨by omega, by omega⟩ (c2u51) ⟨by omega, by omega⟩ t52 e20u51 (by omega)) ⟨co_X11_scan, in_X11, ⟨by decide, by decide, by decide +kernel⟩, Nat.le_of_ble_eq_true rfl, Nat.le_of_ble_eq_true rfl⟩ ml_X11_229 im_X11_scan se_X11_scan (by rw [k_a]; rfl) rfl rfl rfl (Nat.le_of_ble_eq_true rfl) ⟨Nat.zero_le _, Nat.zero_le _⟩ (fun r61 σ62 hpo60 hok63 => ?_)
                obtain ⟨rfl, hIu64, hFu64, xu64⟩ := hpo60
                have hGu64 := hGu51.tr hFu64 (by decide +kernel) (by decide +kernel)
                have t65 : σ62 a 18 = ra18 := (hFu64.at k_a (by decide +kernel) (by decide +kernel)).trans t52
                have hltu64 : c1u51 < c2u51 := by omega
                clear j3u51 j4u51
                obtain ⟨c1u64, c2u64, chu64, e19u64, e20u64, e21u64, j1u64, j2u64, j3u64, j4u64⟩ := xu64
                refine sv_same (st2 := []) (lv2 := [(0, sv_r a)]) rfl rfl ?_
                refine sv_goto C.1 C.2.1 (off := (-30)) (tgt := 45) (by decide +kernel) (by decide) ?_
                exact ih44 c1u64 c2u64 chu64 σ62 ⟨by omega, by omega⟩ ⟨by omega, by omega⟩ ⟨by omega, by omega⟩ hok63 hIu64 hGu64 t65 e19u64 e20u64 e21u64 (by omega) (by omega) (by omega)
              · refine sv_go C.1 C.2.1 [(.aload_n 0, 1), (.iconst 1, 1)] (pc' := 67) (by decide +kernel) rfl (lv' := [(0, sv_r a)]) (st' := [sv_i 1, sv_r a]) rfl ?_
                refine sv_cv C (index := 225) (k := 1) (rest := []) (ci := 10) (r := (RX11, TX11, 47)) (by decide +kernel) (sf_X11_wrong l g A ty σ48 hok56 hTA hIu51 a k_a (1) ⟨by omega, by omega⟩) ⟨co_X11_wrong, in_X11, ⟨by decide, by decide, by decide +kernel⟩, Nat.le_of_ble_eq_true rfl, Nat.le_of_ble_eq_true rfl⟩ ml_X11_225 im_X11_wrong se_X11_wrong (by rw [k_a]; rfl) rfl rfl rfl (Nat.le_of_ble_eq_true rfl) ⟨Nat.zero_le _, Nat.zero_le _⟩ (fun r67 σ68 hpo66 hok69 => ?_)
                obtain ⟨⟨qu70, rfl, kqu70⟩, hIu70, hFu70⟩ := hpo66
                have hGu70 := hGu51.tr hFu70 (by decide +kernel) (by decide +kernel)
                have t71 : σ68 a 18 = ra18 := (hFu70.at k_a (by decide +kernel) (by decide +kernel)).trans t52
                have t72 : σ68 a 19 = c1u51 := (hFu70.at k_a (by decide +kernel) (by decide +kernel)).trans e19u51
                have t73 : σ68 a 20 = c2u51 := (hFu70.at k_a (by decide +kernel) (by decide +kernel)).trans e20u51
                have t74 : σ68 a 21 = chu51 := (hFu70.at k_a (by decide +kernel) (by decide +kernel)).trans e21u51
                refine sv_same (st2 := [sv_r qu70]) (lv2 := [(0, sv_r a)]) rfl rfl ?_
                exact st_throw C hE (by decide +kernel) hok69 ⟨kqu70, hIu70, hGu70⟩
        refine sv_pick [0] (lv2 := [(0, sv_r a)]) rfl ?_
        exact L43 (((ra18 - c1u37 : Int)).toNat + 1) c1u37 c2u37 chu37 σ35 ⟨by omega, by omega⟩ ⟨by omega, by omega⟩ ⟨by omega, by omega⟩ hok36 hIu37 hGu37 t38 e19u37 e20u37 e21u37 (by omega) (by omega) (by omega)
      · refine sv_go C.1 C.2.1 [(.aload_n 0, 1)] (pc' := 24) (by decide +kernel) rfl (lv' := [(0, sv_r a), (1, sv_i Xg20_l1)]) (st' := [sv_r a]) rfl ?_
        obtain ⟨v75, ev75, kv75⟩ := Iσ21.ref (k := 27) k_a rfl
        refine sv_gf C (index := 109) (ci := 10) (k := 27) (r := (RX11, TX11, 47)) (v := sv_r v75) (by decide +kernel) (by rw [k_a]; rfl) rfl (by decide) fl_X11_109 (congrArg sv_a ev75) ?_
        refine sv_go C.1 C.2.1 [(.iload_n 1, 1), (.iconst 0, 1)] (pc' := 29) (by decide +kernel) rfl (lv' := [(0, sv_r a), (1, sv_i Xg20_l1)]) (st' := [sv_i 0, sv_i Xg20_l1, sv_r v75]) rfl ?_
        refine sv_zs C (n := 9) (by decide +kernel) (by rw [kv75]; rfl) (by decide) (by omega) (by omega) ⟨by omega, by omega⟩ (hTA _ (by rw [kv75]; decide)) okσ21 (fun hok76 => ?_)
        have hI78 := Iσ21.up (a := v75) (k := (Xg20_l1 : Int).toNat) (z := 0) (by rw [kv75]; exact trivial)
        have hF79 := Fσ21.up (a := v75) (k := (Xg20_l1 : Int).toNat) (z := 0) (Or.inl (by rw [kv75]; decide +kernel))
        generalize eσ77 : sv_up σ21 v75 (Xg20_l1 : Int).toNat 0 = σ77 at hok76 hI78 hF79 ⊢
        have t80 : σ77 a 18 = ra18 := by rw [← eσ77, sv_up_a (sv_ne k_a kv75 (by decide))]; exact eσ21_0
        have t81 : σ77 a 25 = 0 := by rw [← eσ77, sv_up_a (sv_ne k_a kv75 (by decide))]; exact eσ21_1
        have t82 : σ77 a 26 = 0 := by rw [← eσ77, sv_up_a (sv_ne k_a kv75 (by decide))]; exact eσ21_2
        have t83 : σ77 a 27 = (v75 : Int) + 1 := by rw [← eσ77, sv_up_a (sv_ne k_a kv75 (by decide))]; exact ev75
        have t84 : σ77 v75 (Xg20_l1 : Int).toNat = 0 := by rw [← eσ77]; exact sv_up_s _ _ _ _
        refine sv_go C.1 C.2.1 [(.iinc 1 1, 3)] (pc' := 33) (by decide +kernel) rfl (lv' := [(0, sv_r a), (1, sv_i (Xg20_l1 + 1))]) (st' := []) rfl ?_
        refine sv_goto C.1 C.2.1 (off := (-16)) (tgt := 17) (by decide +kernel) (by decide) ?_
        exact ih23 (Xg20_l1 + 1) σ77 ⟨by omega, by omega⟩ hok76 hI78 hF79 t80 t81 t82 (by omega)
  exact L22 (((9 - 0 : Int)).toNat + 1) 0 σ14 ⟨by omega, by omega⟩ hok13 hI15 hF16 t17 t18 t19 (by omega)

/-! a method with an exception table -/
def sv_MW (l : Launch) (y : MethodName) (cc : ByteArray) (n : Nat) (ret : Option FieldType) (hh : List (Nat × Nat × Nat × Nat)) (rm : Room) (g : sv_G) (A : Nat → Prop) (ty : Nat → Nat) (σ : Nat → Nat → Int) (av : List sv_T) (po : List sv_T → (Nat → Nat → Int) → Prop) : Prop :=
  Met l y (Cond.codeWith y cc n ret hh :: lw_good) rm (sv_P g A ty σ av) (sv_Q g A ty po) 0 0 A
theorem sv_enterT {l : Launch} {y : MethodName} {cc : ByteArray} {n : Nat} {ret : Option FieldType} {h1 h2 h3 h4 : Nat} {fr lo : Nat} {g : sv_G} {A : Nat → Prop} {ty : Nat → Nat} {σ : Nat → Nat → Int} {av : List sv_T} {po : List sv_T → (Nat → Nat → Int) → Prop} (hy : plainName y.cls = true) (hn : (lg_sl (av.map sv_den)).length ≤ n)
    (body : ∀ p e s m args below meth c, sv_C g A y.cls cc n p s m args meth c → meth.sig.returnType = ret → c.exceptionTable.toList = [⟨h1, h2, h3, h4⟩] → sv_E p l e { frames := fr, cells := 0, slots := 0, locals := lo } s m args below meth c n g A ty po σ 0 (sv_av 0 av) []) : sv_MW l y cc n ret [(h1, h2, h3, h4)] { frames := fr, cells := 0, slots := 0, locals := lo } g A ty σ av po := by
  refine va_MetW (cc := cc) (maxL := n) (ret := ret) (hh := [(h1, h2, h3, h4)]) hy rfl ?_
  intro p e s m args below meth c s₁ B hml hv
  obtain ⟨rfl, hH, hK⟩ := hv
  have hts := atoms_spec (ws := Cond.codeWith y cc n ret [(h1, h2, h3, h4)] :: lw_good) B.pre
  have hown : s.vm.findClass y.cls = some m.cls := findClass_of_methodNamed B.named
  have hT : c.exceptionTable.toList = [⟨h1, h2, h3, h4⟩] := by
    obtain ⟨m9, meth9, c9, hn9, hm9, hc9, -, -, ht9, -, -, -⟩ := Cond.codeWith_spec (hts _ List.mem_cons_self)
    cases B.named.symm.trans hn9
    cases B.method.symm.trans hm9
    cases (Stand.of_body B).code.symm.trans hc9
    match hL : c.exceptionTable.toList, ht9 with
    | [x], ht9 => simp only [hL, List.map_cons, List.map_nil, List.cons.injEq, Prod.mk.injEq, and_true] at ht9; obtain ⟨q1, q2, q3, q4⟩ := ht9; cases x; simp_all
  have hl := lv_entry (av.map sv_den) (n := n) hn
  rw [lg_entry_eq]
  rw [sv_av_eq] at hl
  exact body p e s m _ below meth c ⟨B.exec, B.bytes, hml, hown, fun w hw => hts w (List.mem_cons_of_mem _ hw), hK, B.notSynchronized⟩ B.returns hT s.heap [] _ hH va_S.rf hl

theorem ml_X11_280 : Cond.methodLink RX11 280 yX11_readCalendar ∈ lw_good := sv_mem 1266 (by decide +kernel) rfl
theorem co_X11_readCalendar : Cond.code yX11_readCalendar cX11_readCalendar 2 none ∈ lw_good := sv_mem 1269 (by decide +kernel) rfl
theorem im_X11_readCalendar : Cond.instanceMethod yX11_readCalendar ∈ lw_good := sv_mem 1268 (by decide +kernel) rfl
theorem se_X11_readCalendar : Cond.selects RX11 yX11_readCalendar yX11_readCalendar ∈ lw_good := sv_mem 44 (by decide +kernel) rfl
theorem kl_X11_95 : Cond.classLink RX11 95 RX10 ∈ lw_good := sv_mem 1044 (by decide +kernel) rfl
theorem ml_X11_283 : Cond.methodLink RX11 283 yX11_become ∈ lw_good := sv_mem 1344 (by decide +kernel) rfl
theorem co_X11_become : Cond.code yX11_become cX11_become 7 none ∈ lw_good := sv_mem 1347 (by decide +kernel) rfl
theorem im_X11_become : Cond.instanceMethod yX11_become ∈ lw_good := sv_mem 1346 (by decide +kernel) rfl
theorem se_X11_become : Cond.selects RX11 yX11_become yX11_become ∈ lw_good := sv_mem 58 (by decide +kernel) rfl
set_option maxHeartbeats 4000000 in
set_option maxRecDepth 100000 in
theorem sf_X11_calendar (l : Launch) (g : sv_G) (A : Nat → Prop) (ty : Nat → Nat) (σ : Nat → Nat → Int) (hok : sv_ok ty σ) (hTA : ∀ q, ty q ≠ 0 → A q) (hI : sv_inv sp_1 ty σ) (a : Nat) (k_a : ty a = 10) (ar1 : Int) (h_ar1 : (-2147483648) ≤ ar1 ∧ ar1 ≤ 2147483647) : sv_MW l yX11_calendar cX11_calendar 3 (some .int) [(33, 37, 40, 95)] { frames := 9, cells := 0, slots := 0, locals := 197 } g A ty σ [sv_r a, sv_i ar1] (fun r σ' => (∃ rv : Int, r = [sv_i rv] ∧ ((-2) ≤ rv ∧ rv ≤ 60)) ∧ sv_inv sp_1 ty σ' ∧ sv_ofx [(10, 17), (10, 18), (10, 19), (10, 20), (10, 21), (10, 22), (10, 23), (10, 24), (10, 25), (10, 26)] [60, 61, 62, 63, 64, 65, 66, 67, 68, 69, 70, 71, 72, 73, 74, 87] ty σ σ') := by
  refine sv_enterT (by decide) (Nat.le_of_ble_eq_true rfl) ?_
  intro p e s m args below meth c C hr hT
  have C : sv_C g A RX11 cX11_calendar 3 p s m args meth c := C
  have hr : meth.sig.returnType = (some .int) := hr
  have hF : sv_ofx [(10, 17), (10, 18), (10, 19), (10, 20), (10, 21), (10, 22), (10, 23), (10, 24), (10, 25), (10, 26)] [60, 61, 62, 63, 64, 65, 66, 67, 68, 69, 70, 71, 72, 73, 74, 87] ty σ σ := sv_ofx.rf
  refine sv_same (st2 := []) (lv2 := [(0, sv_r a), (1, sv_i ar1)]) rfl rfl ?_
  refine sv_go C.1 C.2.1 [(.aload_n 0, 1), (.aload_n 0, 1)] (pc' := 2) (by decide +kernel) rfl (lv' := [(0, sv_r a), (1, sv_i ar1)]) (st' := [sv_r a, sv_r a]) rfl ?_
  obtain ⟨v1, ev1, hv1⟩ := sv_rdn hI (k := 17) k_a rfl
  refine sv_gf C (index := 269) (ci := 10) (k := 17) (r := (RX11, TX11, 47)) (v := sv_i v1) (by decide +kernel) (by rw [k_a]; rfl) rfl (by decide) fl_X11_269 (congrArg sv_i ev1) ?_
  refine sv_pf C (index := 175) (ci := 10) (k := 18) (r := (RX11, TX11, 47)) (z := v1) (by decide +kernel) (by rw [k_a]; rfl) rfl (by decide) rfl fl_X11_175 rfl (Or.inl rfl) ⟨by omega, by omega⟩ (hTA _ (by rw [k_a]; decide)) hok (fun hok2 => ?_)
  have hI4 := hI.up (a := a) (k := 18) (z := v1) (by rw [k_a]; exact ⟨by omega, by omega⟩)
  have hF5 := hF.up (a := a) (k := 18) (z := v1) (Or.inr (by rw [k_a]; decide))
  generalize eσ3 : sv_up σ a 18 v1 = σ3 at hok2 hI4 hF5 ⊢
  have t6 : σ3 a 17 = v1 := by rw [← eσ3, sv_up_k (by decide)]; exact ev1
  have t7 : σ3 a 18 = v1 := by rw [← eσ3]; exact sv_up_s _ _ _ _
  refine sv_go C.1 C.2.1 [(.aload_n 0, 1), (.iconst 0, 1)] (pc' := 10) (by decide +kernel) rfl (lv' := [(0, sv_r a), (1, sv_i ar1)]) (st' := [sv_i 0, sv_r a]) rfl ?_
  refine sv_pf C (index := 269) (ci := 10) (k := 17) (r := (RX11, TX11, 47)) (z := 0) (by decide +kernel) (by rw [k_a]; rfl) rfl (by decide) rfl fl_X11_269 rfl (Or.inl rfl) ⟨by omega, by omega⟩ (hTA _ (by rw [k_a]; decide)) hok2 (fun hok8 => ?_)
  have hI10 := hI4.up (a := a) (k := 17) (z := 0) (by rw [k_a]; exact ⟨by omega, by omega⟩)
  have hF11 := hF5.up (a := a) (k := 17) (z := 0) (Or.inr (by rw [k_a]; decide))
  generalize eσ9 : sv_up σ3 a 17 0 = σ9 at hok8 hI10 hF11 ⊢
  have t12 : σ9 a 18 = v1 := by rw [← eσ9, sv_up_k (by decide)]; exact t7
  have t13 : σ9 a 17 = 0 := by rw [← eσ9]; exact sv_up_s _ _ _ _
  refine sv_go C.1 C.2.1 [(.iload_n 1, 1)] (pc' := 14) (by decide +kernel) rfl (lv' := [(0, sv_r a), (1, sv_i ar1)]) (st' := [sv_i ar1]) rfl ?_
  refine sv_cs C (index := 277) (k := 1) (rest := []) (by decide +kernel) (sf_X11_isPlace l g A ty σ9 hok8 hTA hI10 (ar1) ⟨by omega, by omega⟩) ⟨co_X11_isPlace, in_X11, ⟨by decide, by decide, by decide +kernel⟩, Nat.le_of_ble_eq_true rfl, Nat.le_of_ble_eq_true rfl⟩ ml_X11_277 st_X11_isPlace rfl rfl (Nat.le_of_ble_eq_true rfl) ⟨Nat.zero_le _, Nat.zero_le _⟩ (fun r15 σ16 hpo14 hok17 => ?_)
  obtain ⟨rfl, ⟨vu18, rfl, hvu18, ivu18_0⟩⟩ := hpo14
  refine sv_same (st2 := [sv_i vu18]) (lv2 := [(0, sv_r a), (1, sv_i ar1)]) rfl rfl ?_
  refine sv_if C.1 C.2.1 (cnd := .ne) (off := 6) (tgt := 23) (by decide +kernel) (by decide) ⟨by omega, by omega⟩ (fun (h19 : vu18 ≠ 0) => ?_) (fun (h19 : ¬ (vu18 ≠ 0)) => ?_)
  · have hp20 := ivu18_0 (by omega) (by omega)
    refine sv_go C.1 C.2.1 [(.aload_n 0, 1), (.iconst 0, 1)] (pc' := 25) (by decide +kernel) rfl (lv' := [(0, sv_r a), (1, sv_i ar1)]) (st' := [sv_i 0, sv_r a]) rfl ?_
    refine sv_pf C (index := 169) (ci := 10) (k := 23) (r := (RX11, TX11, 47)) (z := 0) (by decide +kernel) (by rw [k_a]; rfl) rfl (by decide) rfl fl_X11_169 rfl (Or.inl rfl) ⟨by omega, by omega⟩ (hTA _ (by rw [k_a]; decide)) hok17 (fun hok21 => ?_)
    have hI23 := hI10.up (a := a) (k := 23) (z := 0) (by rw [k_a]; exact trivial)
    have hF24 := hF11.up (a := a) (k := 23) (z := 0) (Or.inr (by rw [k_a]; decide))
    generalize eσ22 : sv_up σ9 a 23 0 = σ22 at hok21 hI23 hF24 ⊢
    have t25 : σ22 a 18 = v1 := by rw [← eσ22, sv_up_k (by decide)]; exact t12
    have t26 : σ22 a 17 = 0 := by rw [← eσ22, sv_up_k (by decide)]; exact t13
    have t27 : σ22 a 23 = 0 := by rw [← eσ22]; exact sv_up_s _ _ _ _
    refine sv_go C.1 C.2.1 [(.aload_n 0, 1), (.iconst (-1), 1)] (pc' := 30) (by decide +kernel) rfl (lv' := [(0, sv_r a), (1, sv_i ar1)]) (st' := [sv_i ((-1)), sv_r a]) rfl ?_
    refine sv_pf C (index := 105) (ci := 10) (k := 24) (r := (RX11, TX11, 47)) (z := (-1)) (by decide +kernel) (by rw [k_a]; rfl) rfl (by decide) rfl fl_X11_105 rfl (Or.inl rfl) ⟨by omega, by omega⟩ (hTA _ (by rw [k_a]; decide)) hok21 (fun hok28 => ?_)
    have hI30 := hI23.up (a := a) (k := 24) (z := (-1)) (by rw [k_a]; exact trivial)
    have hF31 := hF24.up (a := a) (k := 24) (z := (-1)) (Or.inr (by rw [k_a]; decide))
    generalize eσ29 : sv_up σ22 a 24 ((-1)) = σ29 at hok28 hI30 hF31 ⊢
    have t32 : σ29 a 18 = v1 := by rw [← eσ29, sv_up_k (by decide)]; exact t25
    have t33 : σ29 a 17 = 0 := by rw [← eσ29, sv_up_k (by decide)]; exact t26
    have t34 : σ29 a 23 = 0 := by rw [← eσ29, sv_up_k (by decide)]; exact t27
    have t35 : σ29 a 24 = (-1) := by rw [← eσ29]; exact sv_up_s _ _ _ _
    refine sv_go C.1 C.2.1 [(.aload_n 0, 1)] (pc' := 34) (by decide +kernel) rfl (lv' := [(0, sv_r a), (1, sv_i ar1)]) (st' := [sv_r a]) rfl ?_
    refine st_cv C (index := 280) (k := 0) (rest := []) (ci := 10) (r := (RX11, TX11, 47)) (by decide +kernel) (sf_X11_readCalendar l g A ty σ29 hok28 hTA hI30 a k_a) ⟨co_X11_readCalendar, in_X11, ⟨by decide, by decide, by decide +kernel⟩, Nat.le_of_ble_eq_true rfl, Nat.le_of_ble_eq_true rfl⟩ ml_X11_280 im_X11_readCalendar se_X11_readCalendar (by rw [k_a]; rfl) rfl rfl rfl (Nat.le_of_ble_eq_true rfl) ⟨Nat.zero_le _, Nat.zero_le _⟩ (fun r37 σ38 hpo36 hok39 => ?_) (fun xt40 σ38 hpo36 hok39 => st_caught C hT (by decide) (by decide) kl_X11_95 (by rw [hpo36.1]; rfl) rfl ?_)
    · obtain ⟨rfl, hIu41, hFu41⟩ := hpo36
      have hGu41 := hF31.tr hFu41 (by decide) (by decide)
      have t42 : σ38 a 18 = v1 := (hFu41.at k_a (by decide) (by decide)).trans t32
      have t43 : σ38 a 17 = 0 := (hFu41.at k_a (by decide) (by decide)).trans t33
      refine sv_same (st2 := []) (lv2 := [(0, sv_r a), (1, sv_i ar1)]) rfl rfl ?_
      refine sv_goto C.1 C.2.1 (off := 6) (tgt := 43) (by decide +kernel) (by decide) ?_
      refine sv_go C.1 C.2.1 [(.aload_n 0, 1), (.iload_n 1, 1), (.iconst 4, 1)] (pc' := 46) (by decide +kernel) rfl (lv' := [(0, sv_r a), (1, sv_i ar1)]) (st' := [sv_i 4, sv_i ar1, sv_r a]) rfl ?_
      refine sv_cv C (index := 283) (k := 2) (rest := []) (ci := 10) (r := (RX11, TX11, 47)) (by decide +kernel) (sf_X11_become l g A ty σ38 hok39 hTA hIu41 a k_a (ar1) ⟨by omega, by omega⟩ (4) ⟨by omega, by omega⟩) ⟨co_X11_become, in_X11, ⟨by decide, by decide, by decide +kernel⟩, Nat.le_of_ble_eq_true rfl, Nat.le_of_ble_eq_true rfl⟩ ml_X11_283 im_X11_become se_X11_become (by rw [k_a]; rfl) rfl rfl rfl (Nat.le_of_ble_eq_true rfl) ⟨Nat.zero_le _, Nat.zero_le _⟩ (fun r45 σ46 hpo44 hok47 => ?_)
      obtain ⟨rfl, hIu48, hFu48⟩ := hpo44
      have hGu48 := hGu41.tr hFu48 (by decide) (by decide)
      have t49 : σ46 a 18 = v1 := (hFu48.at k_a (by decide) (by decide)).trans t42
      have t50 : σ46 a 17 = 0 := (hFu48.at k_a (by decide) (by decide)).trans t43
      refine sv_same (st2 := []) (lv2 := [(0, sv_r a), (1, sv_i ar1)]) rfl rfl ?_
      refine sv_go C.1 C.2.1 [(.aload_n 0, 1)] (pc' := 50) (by decide +kernel) rfl (lv' := [(0, sv_r a), (1, sv_i ar1)]) (st' := [sv_r a]) rfl ?_
      obtain ⟨v51, ev51, kv51⟩ := hIu48.ref (k := 0) k_a rfl
      refine sv_gf C (index := 47) (ci := 10) (k := 0) (r := (RX11, TX11, 47)) (v := sv_r v51) (by decide +kernel) (by rw [k_a]; rfl) rfl (by decide) fl_X11_47 (congrArg sv_a ev51) ?_
      refine sv_go C.1 C.2.1 [(.iload_n 1, 1)] (pc' := 54) (by decide +kernel) rfl (lv' := [(0, sv_r a), (1, sv_i ar1)]) (st' := [sv_i ar1, sv_r v51]) rfl ?_
      refine sv_ia C (n := 5) (by decide +kernel) (by rw [kv51]; rfl) (by decide) (by omega) (by omega) ?_
      obtain ⟨v52, ev52, hv52⟩ := sv_rdn hIu48 (k := (ar1 : Int).toNat) kv51 rfl
      rw [ev52]
      exact sv_iret C hr (by decide +kernel) hok47 (⟨⟨_, rfl, ⟨by omega, by omega⟩⟩, hIu48, hGu48⟩)
    · have hGxt40 := hF31.tr hpo36.2.2 (by decide) (by decide)
      refine sv_go C.1 C.2.1 [(.astore_n 2, 1), (.iconst (-1), 1)] (pc' := 42) (by decide +kernel) rfl (lv' := [(0, sv_r a), (1, sv_i ar1), (2, sv_r xt40)]) (st' := [sv_i ((-1))]) rfl ?_
      exact sv_iret C hr (by decide +kernel) hok39 (⟨⟨_, rfl, ⟨by omega, by omega⟩⟩, hpo36.2.1, hGxt40⟩)
  · refine sv_go C.1 C.2.1 [(.bipush (-2), 2)] (pc' := 22) (by decide +kernel) rfl (lv' := [(0, sv_r a), (1, sv_i ar1)]) (st' := [sv_i ((-2))]) rfl ?_
    exact sv_iret C hr (by decide +kernel) hok17 (⟨⟨_, rfl, ⟨by omega, by omega⟩⟩, hI10, hF11⟩)

/-- a bit of a set -/
def zq_bit (v b : Int) : Int := (Int32.ofInt (Int32.ofInt v >>> (Int32.ofInt b &&& 31)).toInt &&& Int32.ofInt 1).toInt
theorem zq_some {v : Int} (h : 1 ≤ v ∧ v ≤ 1023) : ∃ b : Int, (0 ≤ b ∧ b < 10) ∧ zq_bit v b ≠ 0 := by
  have key : ∀ n : Nat, n < 1024 → n ≠ 0 → ∃ b : Nat, b < 10 ∧ zq_bit (n : Int) (b : Int) ≠ 0 := by decide +kernel
  obtain ⟨b, h1, h2⟩ := key v.toNat (by omega) (by omega)
  rw [show ((v.toNat : Nat) : Int) = v by omega] at h2
  exact ⟨(b : Int), ⟨by omega, by omega⟩, h2⟩
theorem zq_one (v b : Int) : zq_bit v b = 0 ∨ zq_bit v b = 1 := by
  have := sv_andr (Int32.ofInt v >>> (Int32.ofInt b &&& 31)).toInt 1 (by decide) (by decide)
  unfold zq_bit
  omega
/-- whether b has a quarrel with w -/
def zq_pt (σ : Nat → Nat → Int) (a : Nat) (b w : Int) : Int := if w = -1 then 0 else σ (σ a 33 - 1).toNat (10 * b + w).toNat

set_option maxHeartbeats 4000000 in
set_option maxRecDepth 100000 in
theorem sf2_X11_parts (l : Launch) (g : sv_G) (A : Nat → Prop) (ty : Nat → Nat) (σ : Nat → Nat → Int) (hok : sv_ok ty σ) (hTA : ∀ q, ty q ≠ 0 → A q) (hI : sv_inv sp_1 ty σ) (a : Nat) (k_a : ty a = 10) (v : Int) (h_v : 0 ≤ v ∧ v ≤ 9) (w : Int) (h_w : (-1) ≤ w ∧ w ≤ 9) : sv_M l yX11_parts cX11_parts 3 (some .boolean) { frames := 0, cells := 0, slots := 0, locals := 0 } g A ty σ [sv_r a, sv_i v, sv_i w] (fun r σ' => σ = σ' ∧ ∃ rv : Int, r = [sv_i rv] ∧ (0 ≤ rv ∧ rv ≤ 1) ∧ ((-2147483648) ≤ rv → rv ≤ 2147483647 → rv = zq_pt σ a v w)) := by
  refine sv_enter (by decide) (Nat.le_of_ble_eq_true rfl) ?_
  intro p e s m args below meth c C hr
  have C : sv_C g A RX11 cX11_parts 3 p s m args meth c := C
  have hr : meth.sig.returnType = (some .boolean) := hr
  have hF : sv_ofx [] [] ty σ σ := sv_ofx.rf
  refine sv_same (st2 := []) (lv2 := [(0, sv_r a), (1, sv_i v), (2, sv_i w)]) rfl rfl ?_
  refine sv_go C.1 C.2.1 [(.iload_n 2, 1), (.iconst (-1), 1)] (pc' := 2) (by decide +kernel) rfl (lv' := [(0, sv_r a), (1, sv_i v), (2, sv_i w)]) (st' := [sv_i ((-1)), sv_i w]) rfl ?_
  refine sv_icmp C.1 C.2.1 (cnd := .eq) (off := 21) (tgt := 23) (by decide +kernel) (by decide) ⟨by omega, by omega⟩ ⟨by omega, by omega⟩ (fun (h1 : w = ((-1))) => ?_) (fun (h1 : ¬ (w = ((-1)))) => ?_)
  · refine sv_go C.1 C.2.1 [(.iconst 0, 1)] (pc' := 24) (by decide +kernel) rfl (lv' := [(0, sv_r a), (1, sv_i v), (2, sv_i w)]) (st' := [sv_i 0]) rfl ?_
    exact sv_zret C hr (by omega) (by decide +kernel) hok (⟨rfl, ⟨_, rfl, ⟨by omega, by omega⟩, fun _ _ => (by unfold zq_pt; rw [if_pos (by omega)])⟩⟩)
  · refine sv_go C.1 C.2.1 [(.aload_n 0, 1)] (pc' := 6) (by decide +kernel) rfl (lv' := [(0, sv_r a), (1, sv_i v), (2, sv_i w)]) (st' := [sv_r a]) rfl ?_
    obtain ⟨v2, ev2, kv2⟩ := hI.ref (k := 33) k_a rfl
    refine sv_gf C (index := 127) (ci := 10) (k := 33) (r := (RX11, TX11, 47)) (v := sv_r v2) (by decide +kernel) (by rw [k_a]; rfl) rfl (by decide) fl_X11_127 (congrArg sv_a ev2) ?_
    refine sv_go C.1 C.2.1 [(.bipush 10, 2), (.iload_n 1, 1), (.imul, 1), (.iload_n 2, 1), (.iadd, 1)] (pc' := 15) (by decide +kernel) rfl (lv' := [(0, sv_r a), (1, sv_i v), (2, sv_i w)]) (st' := [sv_i ((10 * v) + w), sv_r v2]) rfl ?_
    refine sv_za C (n := 100) (by decide +kernel) (by rw [kv2]; rfl) (by decide) (by omega) (by omega) ?_
    obtain ⟨v3, ev3, hv3⟩ := sv_rdez hok (a := v2) (k := ((10 * v) + w : Int).toNat) (n := 100) (by rw [kv2]; rfl) (by omega)
    rw [ev3]
    refine sv_if C.1 C.2.1 (cnd := .eq) (off := 7) (tgt := 23) (by decide +kernel) (by decide) ⟨by omega, by omega⟩ (fun (h4 : v3 = 0) => ?_) (fun (h4 : ¬ (v3 = 0)) => ?_)
    · refine sv_go C.1 C.2.1 [(.iconst 0, 1)] (pc' := 24) (by decide +kernel) rfl (lv' := [(0, sv_r a), (1, sv_i v), (2, sv_i w)]) (st' := [sv_i 0]) rfl ?_
      exact sv_zret C hr (by omega) (by decide +kernel) hok (⟨rfl, ⟨_, rfl, ⟨by omega, by omega⟩, fun _ _ => (by unfold zq_pt; rw [if_neg (by omega), show (σ a 33 - 1).toNat = v2 by omega, show (10 * v + w).toNat = ((10 * v) + w : Int).toNat by omega, ev3]; omega)⟩⟩)
    · refine sv_go C.1 C.2.1 [(.iconst 1, 1)] (pc' := 20) (by decide +kernel) rfl (lv' := [(0, sv_r a), (1, sv_i v), (2, sv_i w)]) (st' := [sv_i 1]) rfl ?_
      refine sv_goto C.1 C.2.1 (off := 4) (tgt := 24) (by decide +kernel) (by decide) ?_
      exact sv_zret C hr (by omega) (by decide +kernel) hok (⟨rfl, ⟨_, rfl, ⟨by omega, by omega⟩, fun _ _ => (by unfold zq_pt; rw [if_neg (by omega), show (σ a 33 - 1).toNat = v2 by omega, show (10 * v + w).toNat = ((10 * v) + w : Int).toNat by omega, ev3]; omega)⟩⟩)

theorem zq_step {P : Int → Prop} {m X : Int} (h : 0 ≤ m ∨ ∀ b : Int, 0 ≤ b → b < X → P b) (hP : P X) : 0 ≤ m ∨ ∀ b : Int, 0 ≤ b → b < X + 1 → P b :=
  h.imp id (fun q b h1 h2 => by
    by_cases e : b = X
    · subst e; exact hP
    · exact q b h1 (by omega))
theorem zq_fin {v m X x3 w : Int} {σ : Nat → Nat → Int} {a : Nat} (hv : 1 ≤ v ∧ v ≤ 1023) (hc : 0 ≤ m ∨ ∀ b : Int, 0 ≤ b → b < X → zq_bit v b = 0 ∨ (x3 = 0 ∧ zq_pt σ a b w ≠ 0)) (hX : 10 ≤ X) (ha : x3 = 1 ∨ (x3 = 0 ∧ ∃ b : Int, (0 ≤ b ∧ b < 10) ∧ zq_bit v b ≠ 0 ∧ zq_pt σ a b w = 0)) : 0 ≤ m := by
  rcases hc with h | h
  · exact h
  · rcases ha with e | ⟨e, b, hb, h1, h2⟩
    · obtain ⟨b, hb, h1⟩ := zq_some hv
      rcases h b hb.1 (by omega) with h3 | h3
      · exact absurd h3 h1
      · omega
    · rcases h b hb.1 (by omega) with h3 | h3
      · exact absurd h3 h1
      · exact absurd h2 h3.2

theorem ml_X11_328 : Cond.methodLink RX11 328 yX11_parts ∈ lw_good := sv_mem 1432 (by decide +kernel) rfl
theorem co_X11_parts : Cond.code yX11_parts cX11_parts 3 (some .boolean) ∈ lw_good := sv_mem 1435 (by decide +kernel) rfl
theorem im_X11_parts : Cond.instanceMethod yX11_parts ∈ lw_good := sv_mem 1434 (by decide +kernel) rfl
theorem se_X11_parts : Cond.selects RX11 yX11_parts yX11_parts ∈ lw_good := sv_mem 67 (by decide +kernel) rfl
theorem fl_X11_145 : Cond.fieldLink RX11 145 "SaintsRoadModel" "lastTurn" "[I" ∈ lw_good := sv_mem 1143 (by decide +kernel) rfl
set_option maxHeartbeats 4000000 in
set_option maxRecDepth 100000 in
theorem sf_X11_carrier (l : Launch) (g : sv_G) (A : Nat → Prop) (ty : Nat → Nat) (σ : Nat → Nat → Int) (hok : sv_ok ty σ) (hTA : ∀ q, ty q ≠ 0 → A q) (hI : sv_inv sp_1 ty σ) (a : Nat) (k_a : ty a = 10) (v : Int) (h_v : 1 ≤ v ∧ v ≤ 1023) (w : Int) (h_w : (-1) ≤ w ∧ w ≤ 9) : sv_M l yX11_carrier cX11_carrier 6 (some .int) { frames := 1, cells := 0, slots := 0, locals := 22 } g A ty σ [sv_r a, sv_i v, sv_i w] (fun r σ' => σ = σ' ∧ ∃ rv : Int, r = [sv_i rv] ∧ (0 ≤ rv ∧ rv ≤ 9)) := by
  refine sv_enter (by decide) (Nat.le_of_ble_eq_true rfl) ?_
  intro p e s m args below meth c C hr
  have C : sv_C g A RX11 cX11_carrier 6 p s m args meth c := C
  have hr : meth.sig.returnType = (some .int) := hr
  have hF : sv_ofx [] [] ty σ σ := sv_ofx.rf
  refine sv_same (st2 := []) (lv2 := [(0, sv_r a), (1, sv_i v), (2, sv_i w)]) rfl rfl ?_
  refine sv_go C.1 C.2.1 [(.iconst 1, 1), (.istore_n 3, 1), (.iconst 0, 1), (.istore 4, 2)] (pc' := 5) (by decide +kernel) rfl (lv' := [(0, sv_r a), (1, sv_i v), (2, sv_i w), (3, sv_i 1), (4, sv_i 0)]) (st' := []) rfl ?_
  have L2 : ∀ (n : Nat) (Xg1_l3 : Int) (Xg1_l4 : Int), (0 ≤ Xg1_l3 ∧ Xg1_l3 ≤ 1) → (0 ≤ Xg1_l4 ∧ Xg1_l4 ≤ 10) → (Xg1_l3 = 1 ∨ (Xg1_l3 = 0 ∧ ∃ b : Int, (0 ≤ b ∧ b < 10) ∧ zq_bit v b ≠ 0 ∧ zq_pt σ a b w = 0)) → (10 - Xg1_l4) < (n : Int) → sv_E p l e { frames := 1, cells := 0, slots := 0, locals := 22 } s m args below meth c 6 g A ty (fun r σ' => σ = σ' ∧ ∃ rv : Int, r = [sv_i rv] ∧ (0 ≤ rv ∧ rv ≤ 9)) σ 5 [(0, sv_r a), (1, sv_i v), (2, sv_i w), (3, sv_i Xg1_l3), (4, sv_i Xg1_l4)] [] := by
    intro n
    induction n with
    | zero => intro Xg1_l3 Xg1_l4 hXg1_l3 hXg1_l4 za hmu; exact absurd hmu (by omega)
    | succ n ih3 =>
      intro Xg1_l3 Xg1_l4 hXg1_l3 hXg1_l4 za hmu
      refine sv_go C.1 C.2.1 [(.iload 4, 2), (.bipush 10, 2)] (pc' := 9) (by decide +kernel) rfl (lv' := [(0, sv_r a), (1, sv_i v), (2, sv_i w), (3, sv_i Xg1_l3), (4, sv_i Xg1_l4)]) (st' := [sv_i 10, sv_i Xg1_l4]) rfl ?_
      refine sv_icmp C.1 C.2.1 (cnd := .ge) (off := 31) (tgt := 40) (by decide +kernel) (by decide) ⟨by omega, by omega⟩ ⟨by omega, by omega⟩ (fun (h4 : 10 ≤ Xg1_l4) => ?_) (fun (h4 : ¬ (10 ≤ Xg1_l4)) => ?_)
      · refine sv_go C.1 C.2.1 [(.iconst (-1), 1), (.istore 4, 2), (.iconst 0, 1), (.istore 5, 2)] (pc' := 46) (by decide +kernel) rfl (lv' := [(0, sv_r a), (1, sv_i v), (2, sv_i w), (3, sv_i Xg1_l3), (4, sv_i ((-1))), (5, sv_i 0)]) (st' := []) rfl ?_
        have L6 : ∀ (n : Nat) (Xg5_l4 : Int) (Xg5_l5 : Int), ((-1) ≤ Xg5_l4 ∧ Xg5_l4 ≤ 9) → (0 ≤ Xg5_l5 ∧ Xg5_l5 ≤ 10) → (0 ≤ Xg5_l4 ∨ ∀ b : Int, 0 ≤ b → b < Xg5_l5 → zq_bit v b = 0 ∨ (Xg1_l3 = 0 ∧ zq_pt σ a b w ≠ 0)) → (10 - Xg5_l5) < (n : Int) → sv_E p l e { frames := 1, cells := 0, slots := 0, locals := 22 } s m args below meth c 6 g A ty (fun r σ' => σ = σ' ∧ ∃ rv : Int, r = [sv_i rv] ∧ (0 ≤ rv ∧ rv ≤ 9)) σ 46 [(0, sv_r a), (1, sv_i v), (2, sv_i w), (3, sv_i Xg1_l3), (4, sv_i Xg5_l4), (5, sv_i Xg5_l5)] [] := by
          intro n
          induction n with
          | zero => intro Xg5_l4 Xg5_l5 hXg5_l4 hXg5_l5 zc hmu; exact absurd hmu (by omega)
          | succ n ih7 =>
            intro Xg5_l4 Xg5_l5 hXg5_l4 hXg5_l5 zc hmu
            refine sv_go C.1 C.2.1 [(.iload 5, 2), (.bipush 10, 2)] (pc' := 50) (by decide +kernel) rfl (lv' := [(0, sv_r a), (1, sv_i v), (2, sv_i w), (3, sv_i Xg1_l3), (4, sv_i Xg5_l4), (5, sv_i Xg5_l5)]) (st' := [sv_i 10, sv_i Xg5_l5]) rfl ?_
            refine sv_icmp C.1 C.2.1 (cnd := .ge) (off := 96) (tgt := 146) (by decide +kernel) (by decide) ⟨by omega, by omega⟩ ⟨by omega, by omega⟩ (fun (h8 : 10 ≤ Xg5_l5) => ?_) (fun (h8 : ¬ (10 ≤ Xg5_l5)) => ?_)
            · refine sv_go C.1 C.2.1 [(.iload 4, 2)] (pc' := 148) (by decide +kernel) rfl (lv' := [(0, sv_r a), (1, sv_i v), (2, sv_i w), (3, sv_i Xg1_l3), (4, sv_i Xg5_l4), (5, sv_i Xg5_l5)]) (st' := [sv_i Xg5_l4]) rfl ?_
              have hfin : 0 ≤ Xg5_l4 := zq_fin h_v zc (by omega) za
              exact sv_iret C hr (by decide +kernel) hok (⟨rfl, ⟨_, rfl, ⟨by omega, by omega⟩⟩⟩)
            · refine sv_go C.1 C.2.1 [(.iload_n 1, 1), (.iload 5, 2), (.ishr, 1), (.iconst 1, 1), (.iand, 1)] (pc' := 59) (by decide +kernel) rfl (lv' := [(0, sv_r a), (1, sv_i v), (2, sv_i w), (3, sv_i Xg1_l3), (4, sv_i Xg5_l4), (5, sv_i Xg5_l5)]) (st' := [sv_i ((Int32.ofInt ((Int32.ofInt v >>> (Int32.ofInt Xg5_l5 &&& 31)).toInt) &&& Int32.ofInt 1).toInt)]) rfl ?_
              have hb9 : (-2147483648) ≤ (Int32.ofInt v >>> (Int32.ofInt Xg5_l5 &&& 31)).toInt ∧ (Int32.ofInt v >>> (Int32.ofInt Xg5_l5 &&& 31)).toInt ≤ 2147483647 := sv_ioin2 (Int32.ofInt v >>> (Int32.ofInt Xg5_l5 &&& 31))
              have hb10 : 0 ≤ (Int32.ofInt ((Int32.ofInt v >>> (Int32.ofInt Xg5_l5 &&& 31)).toInt) &&& Int32.ofInt 1).toInt ∧ (Int32.ofInt ((Int32.ofInt v >>> (Int32.ofInt Xg5_l5 &&& 31)).toInt) &&& Int32.ofInt 1).toInt ≤ 1 := sv_andr ((Int32.ofInt v >>> (Int32.ofInt Xg5_l5 &&& 31)).toInt) 1 (by decide) (by decide)
              have J13 : ∀ (Jg12_l4 : Int), ((-1) ≤ Jg12_l4 ∧ Jg12_l4 ≤ 9) → (0 ≤ Jg12_l4 ∨ ∀ b : Int, 0 ≤ b → b < Xg5_l5 + 1 → zq_bit v b = 0 ∨ (Xg1_l3 = 0 ∧ zq_pt σ a b w ≠ 0)) → sv_E p l e { frames := 1, cells := 0, slots := 0, locals := 22 } s m args below meth c 6 g A ty (fun r σ' => σ = σ' ∧ ∃ rv : Int, r = [sv_i rv] ∧ (0 ≤ rv ∧ rv ≤ 9)) σ 140 [(0, sv_r a), (1, sv_i v), (2, sv_i w), (3, sv_i Xg1_l3), (4, sv_i Jg12_l4), (5, sv_i Xg5_l5)] [] := by
                intro Jg12_l4 hJg12_l4 zd
                refine sv_go C.1 C.2.1 [(.iinc 5 1, 3)] (pc' := 143) (by decide +kernel) rfl (lv' := [(0, sv_r a), (1, sv_i v), (2, sv_i w), (3, sv_i Xg1_l3), (4, sv_i Jg12_l4), (5, sv_i (Xg5_l5 + 1))]) (st' := []) rfl ?_
                refine sv_goto C.1 C.2.1 (off := (-97)) (tgt := 46) (by decide +kernel) (by decide) ?_
                exact ih7 Jg12_l4 (Xg5_l5 + 1) ⟨by omega, by omega⟩ ⟨by omega, by omega⟩ (by first | exact Or.inl (by omega) | exact zd | exact Or.inr (fun b h1 h2 => absurd h2 (by omega)) | exact zq_step (P := fun b => zq_bit v b = 0 ∨ (Xg1_l3 = 0 ∧ zq_pt σ a b w ≠ 0)) zc (Or.inl (by unfold zq_bit; omega)) | exact zq_step (P := fun b => zq_bit v b = 0 ∨ (Xg1_l3 = 0 ∧ zq_pt σ a b w ≠ 0)) zc (Or.inr ⟨by omega, by omega⟩)) (by omega)
              refine sv_if C.1 C.2.1 (cnd := .eq) (off := 81) (tgt := 140) (by decide +kernel) (by decide) ⟨by omega, by omega⟩ (fun (h11 : ((Int32.ofInt ((Int32.ofInt v >>> (Int32.ofInt Xg5_l5 &&& 31)).toInt) &&& Int32.ofInt 1).toInt) = 0) => ?_) (fun (h11 : ¬ (((Int32.ofInt ((Int32.ofInt v >>> (Int32.ofInt Xg5_l5 &&& 31)).toInt) &&& Int32.ofInt 1).toInt) = 0)) => ?_)
              · exact J13 Xg5_l4 ⟨by omega, by omega⟩ (by first | exact Or.inl (by omega) | exact zd | exact Or.inr (fun b h1 h2 => absurd h2 (by omega)) | exact zq_step (P := fun b => zq_bit v b = 0 ∨ (Xg1_l3 = 0 ∧ zq_pt σ a b w ≠ 0)) zc (Or.inl (by unfold zq_bit; omega)) | exact zq_step (P := fun b => zq_bit v b = 0 ∨ (Xg1_l3 = 0 ∧ zq_pt σ a b w ≠ 0)) zc (Or.inr ⟨by omega, by omega⟩))
              · refine sv_go C.1 C.2.1 [(.iload_n 3, 1)] (pc' := 63) (by decide +kernel) rfl (lv' := [(0, sv_r a), (1, sv_i v), (2, sv_i w), (3, sv_i Xg1_l3), (4, sv_i Xg5_l4), (5, sv_i Xg5_l5)]) (st' := [sv_i Xg1_l3]) rfl ?_
                refine sv_if C.1 C.2.1 (cnd := .ne) (off := 16) (tgt := 79) (by decide +kernel) (by decide) ⟨by omega, by omega⟩ (fun (h14 : Xg1_l3 ≠ 0) => ?_) (fun (h14 : ¬ (Xg1_l3 ≠ 0)) => ?_)
                · refine sv_go C.1 C.2.1 [(.iload 4, 2), (.iconst (-1), 1)] (pc' := 82) (by decide +kernel) rfl (lv' := [(0, sv_r a), (1, sv_i v), (2, sv_i w), (3, sv_i Xg1_l3), (4, sv_i Xg5_l4), (5, sv_i Xg5_l5)]) (st' := [sv_i ((-1)), sv_i Xg5_l4]) rfl ?_
                  refine sv_icmp C.1 C.2.1 (cnd := .eq) (off := 54) (tgt := 136) (by decide +kernel) (by decide) ⟨by omega, by omega⟩ ⟨by omega, by omega⟩ (fun (h15 : Xg5_l4 = ((-1))) => ?_) (fun (h15 : ¬ (Xg5_l4 = ((-1)))) => ?_)
                  · refine sv_go C.1 C.2.1 [(.iload 5, 2), (.istore 4, 2)] (pc' := 140) (by decide +kernel) rfl (lv' := [(0, sv_r a), (1, sv_i v), (2, sv_i w), (3, sv_i Xg1_l3), (4, sv_i Xg5_l5), (5, sv_i Xg5_l5)]) (st' := []) rfl ?_
                    exact J13 Xg5_l5 ⟨by omega, by omega⟩ (by first | exact Or.inl (by omega) | exact zd | exact Or.inr (fun b h1 h2 => absurd h2 (by omega)) | exact zq_step (P := fun b => zq_bit v b = 0 ∨ (Xg1_l3 = 0 ∧ zq_pt σ a b w ≠ 0)) zc (Or.inl (by unfold zq_bit; omega)) | exact zq_step (P := fun b => zq_bit v b = 0 ∨ (Xg1_l3 = 0 ∧ zq_pt σ a b w ≠ 0)) zc (Or.inr ⟨by omega, by omega⟩))
                  · refine sv_go C.1 C.2.1 [(.aload_n 0, 1)] (pc' := 86) (by decide +kernel) rfl (lv' := [(0, sv_r a), (1, sv_i v), (2, sv_i w), (3, sv_i Xg1_l3), (4, sv_i Xg5_l4), (5, sv_i Xg5_l5)]) (st' := [sv_r a]) rfl ?_
                    obtain ⟨v16, ev16, kv16⟩ := hI.ref (k := 38) k_a rfl
                    refine sv_gf C (index := 142) (ci := 10) (k := 38) (r := (RX11, TX11, 47)) (v := sv_r v16) (by decide +kernel) (by rw [k_a]; rfl) rfl (by decide) fl_X11_142 (congrArg sv_a ev16) ?_
                    refine sv_go C.1 C.2.1 [(.iload 5, 2)] (pc' := 91) (by decide +kernel) rfl (lv' := [(0, sv_r a), (1, sv_i v), (2, sv_i w), (3, sv_i Xg1_l3), (4, sv_i Xg5_l4), (5, sv_i Xg5_l5)]) (st' := [sv_i Xg5_l5, sv_r v16]) rfl ?_
                    refine sv_ia C (n := 10) (by decide +kernel) (by rw [kv16]; rfl) (by decide) (by omega) (by omega) ?_
                    obtain ⟨v17, ev17, hv17⟩ := sv_rde hok (a := v16) (k := (Xg5_l5 : Int).toNat) (n := 10) (by rw [kv16]; rfl) (by omega)
                    rw [ev17]
                    refine sv_go C.1 C.2.1 [(.aload_n 0, 1)] (pc' := 93) (by decide +kernel) rfl (lv' := [(0, sv_r a), (1, sv_i v), (2, sv_i w), (3, sv_i Xg1_l3), (4, sv_i Xg5_l4), (5, sv_i Xg5_l5)]) (st' := [sv_r a, sv_i v17]) rfl ?_
                    refine sv_gf C (index := 142) (ci := 10) (k := 38) (r := (RX11, TX11, 47)) (v := sv_r v16) (by decide +kernel) (by rw [k_a]; rfl) rfl (by decide) fl_X11_142 (congrArg sv_a ev16) ?_
                    refine sv_go C.1 C.2.1 [(.iload 4, 2)] (pc' := 98) (by decide +kernel) rfl (lv' := [(0, sv_r a), (1, sv_i v), (2, sv_i w), (3, sv_i Xg1_l3), (4, sv_i Xg5_l4), (5, sv_i Xg5_l5)]) (st' := [sv_i Xg5_l4, sv_r v16, sv_i v17]) rfl ?_
                    refine sv_ia C (n := 10) (by decide +kernel) (by rw [kv16]; rfl) (by decide) (by omega) (by omega) ?_
                    obtain ⟨v18, ev18, hv18⟩ := sv_rde hok (a := v16) (k := (Xg5_l4 : Int).toNat) (n := 10) (by rw [kv16]; rfl) (by omega)
                    rw [ev18]
                    refine sv_icmp C.1 C.2.1 (cnd := .lt) (off := 37) (tgt := 136) (by decide +kernel) (by decide) ⟨by omega, by omega⟩ ⟨by omega, by omega⟩ (fun (h19 : v17 < v18) => ?_) (fun (h19 : ¬ (v17 < v18)) => ?_)
                    · refine sv_go C.1 C.2.1 [(.iload 5, 2), (.istore 4, 2)] (pc' := 140) (by decide +kernel) rfl (lv' := [(0, sv_r a), (1, sv_i v), (2, sv_i w), (3, sv_i Xg1_l3), (4, sv_i Xg5_l5), (5, sv_i Xg5_l5)]) (st' := []) rfl ?_
                      exact J13 Xg5_l5 ⟨by omega, by omega⟩ (by first | exact Or.inl (by omega) | exact zd | exact Or.inr (fun b h1 h2 => absurd h2 (by omega)) | exact zq_step (P := fun b => zq_bit v b = 0 ∨ (Xg1_l3 = 0 ∧ zq_pt σ a b w ≠ 0)) zc (Or.inl (by unfold zq_bit; omega)) | exact zq_step (P := fun b => zq_bit v b = 0 ∨ (Xg1_l3 = 0 ∧ zq_pt σ a b w ≠ 0)) zc (Or.inr ⟨by omega, by omega⟩))
                    · refine sv_go C.1 C.2.1 [(.aload_n 0, 1)] (pc' := 103) (by decide +kernel) rfl (lv' := [(0, sv_r a), (1, sv_i v), (2, sv_i w), (3, sv_i Xg1_l3), (4, sv_i Xg5_l4), (5, sv_i Xg5_l5)]) (st' := [sv_r a]) rfl ?_
                      refine sv_gf C (index := 142) (ci := 10) (k := 38) (r := (RX11, TX11, 47)) (v := sv_r v16) (by decide +kernel) (by rw [k_a]; rfl) rfl (by decide) fl_X11_142 (congrArg sv_a ev16) ?_
                      refine sv_go C.1 C.2.1 [(.iload 5, 2)] (pc' := 108) (by decide +kernel) rfl (lv' := [(0, sv_r a), (1, sv_i v), (2, sv_i w), (3, sv_i Xg1_l3), (4, sv_i Xg5_l4), (5, sv_i Xg5_l5)]) (st' := [sv_i Xg5_l5, sv_r v16]) rfl ?_
                      refine sv_ia C (n := 10) (by decide +kernel) (by rw [kv16]; rfl) (by decide) (by omega) (by omega) ?_
                      rw [ev17]
                      refine sv_go C.1 C.2.1 [(.aload_n 0, 1)] (pc' := 110) (by decide +kernel) rfl (lv' := [(0, sv_r a), (1, sv_i v), (2, sv_i w), (3, sv_i Xg1_l3), (4, sv_i Xg5_l4), (5, sv_i Xg5_l5)]) (st' := [sv_r a, sv_i v17]) rfl ?_
                      refine sv_gf C (index := 142) (ci := 10) (k := 38) (r := (RX11, TX11, 47)) (v := sv_r v16) (by decide +kernel) (by rw [k_a]; rfl) rfl (by decide) fl_X11_142 (congrArg sv_a ev16) ?_
                      refine sv_go C.1 C.2.1 [(.iload 4, 2)] (pc' := 115) (by decide +kernel) rfl (lv' := [(0, sv_r a), (1, sv_i v), (2, sv_i w), (3, sv_i Xg1_l3), (4, sv_i Xg5_l4), (5, sv_i Xg5_l5)]) (st' := [sv_i Xg5_l4, sv_r v16, sv_i v17]) rfl ?_
                      refine sv_ia C (n := 10) (by decide +kernel) (by rw [kv16]; rfl) (by decide) (by omega) (by omega) ?_
                      rw [ev18]
                      refine sv_icmp C.1 C.2.1 (cnd := .ne) (off := 24) (tgt := 140) (by decide +kernel) (by decide) ⟨by omega, by omega⟩ ⟨by omega, by omega⟩ (fun (h20 : v17 ≠ v18) => ?_) (fun (h20 : ¬ (v17 ≠ v18)) => ?_)
                      · exact J13 Xg5_l4 ⟨by omega, by omega⟩ (by first | exact Or.inl (by omega) | exact zd | exact Or.inr (fun b h1 h2 => absurd h2 (by omega)) | exact zq_step (P := fun b => zq_bit v b = 0 ∨ (Xg1_l3 = 0 ∧ zq_pt σ a b w ≠ 0)) zc (Or.inl (by unfold zq_bit; omega)) | exact zq_step (P := fun b => zq_bit v b = 0 ∨ (Xg1_l3 = 0 ∧ zq_pt σ a b w ≠ 0)) zc (Or.inr ⟨by omega, by omega⟩))
                      · refine sv_go C.1 C.2.1 [(.aload_n 0, 1)] (pc' := 120) (by decide +kernel) rfl (lv' := [(0, sv_r a), (1, sv_i v), (2, sv_i w), (3, sv_i Xg1_l3), (4, sv_i Xg5_l4), (5, sv_i Xg5_l5)]) (st' := [sv_r a]) rfl ?_
                        obtain ⟨v21, ev21, kv21⟩ := hI.ref (k := 39) k_a rfl
                        refine sv_gf C (index := 145) (ci := 10) (k := 39) (r := (RX11, TX11, 47)) (v := sv_r v21) (by decide +kernel) (by rw [k_a]; rfl) rfl (by decide) fl_X11_145 (congrArg sv_a ev21) ?_
                        refine sv_go C.1 C.2.1 [(.iload 5, 2)] (pc' := 125) (by decide +kernel) rfl (lv' := [(0, sv_r a), (1, sv_i v), (2, sv_i w), (3, sv_i Xg1_l3), (4, sv_i Xg5_l4), (5, sv_i Xg5_l5)]) (st' := [sv_i Xg5_l5, sv_r v21]) rfl ?_
                        refine sv_ia C (n := 10) (by decide +kernel) (by rw [kv21]; rfl) (by decide) (by omega) (by omega) ?_
                        obtain ⟨v22, ev22, hv22⟩ := sv_rde hok (a := v21) (k := (Xg5_l5 : Int).toNat) (n := 10) (by rw [kv21]; rfl) (by omega)
                        rw [ev22]
                        refine sv_go C.1 C.2.1 [(.aload_n 0, 1)] (pc' := 127) (by decide +kernel) rfl (lv' := [(0, sv_r a), (1, sv_i v), (2, sv_i w), (3, sv_i Xg1_l3), (4, sv_i Xg5_l4), (5, sv_i Xg5_l5)]) (st' := [sv_r a, sv_i v22]) rfl ?_
                        refine sv_gf C (index := 145) (ci := 10) (k := 39) (r := (RX11, TX11, 47)) (v := sv_r v21) (by decide +kernel) (by rw [k_a]; rfl) rfl (by decide) fl_X11_145 (congrArg sv_a ev21) ?_
                        refine sv_go C.1 C.2.1 [(.iload 4, 2)] (pc' := 132) (by decide +kernel) rfl (lv' := [(0, sv_r a), (1, sv_i v), (2, sv_i w), (3, sv_i Xg1_l3), (4, sv_i Xg5_l4), (5, sv_i Xg5_l5)]) (st' := [sv_i Xg5_l4, sv_r v21, sv_i v22]) rfl ?_
                        refine sv_ia C (n := 10) (by decide +kernel) (by rw [kv21]; rfl) (by decide) (by omega) (by omega) ?_
                        obtain ⟨v23, ev23, hv23⟩ := sv_rde hok (a := v21) (k := (Xg5_l4 : Int).toNat) (n := 10) (by rw [kv21]; rfl) (by omega)
                        rw [ev23]
                        refine sv_icmp C.1 C.2.1 (cnd := .ge) (off := 7) (tgt := 140) (by decide +kernel) (by decide) ⟨by omega, by omega⟩ ⟨by omega, by omega⟩ (fun (h24 : v23 ≤ v22) => ?_) (fun (h24 : ¬ (v23 ≤ v22)) => ?_)
                        · exact J13 Xg5_l4 ⟨by omega, by omega⟩ (by first | exact Or.inl (by omega) | exact zd | exact Or.inr (fun b h1 h2 => absurd h2 (by omega)) | exact zq_step (P := fun b => zq_bit v b = 0 ∨ (Xg1_l3 = 0 ∧ zq_pt σ a b w ≠ 0)) zc (Or.inl (by unfold zq_bit; omega)) | exact zq_step (P := fun b => zq_bit v b = 0 ∨ (Xg1_l3 = 0 ∧ zq_pt σ a b w ≠ 0)) zc (Or.inr ⟨by omega, by omega⟩))
                        · refine sv_go C.1 C.2.1 [(.iload 5, 2), (.istore 4, 2)] (pc' := 140) (by decide +kernel) rfl (lv' := [(0, sv_r a), (1, sv_i v), (2, sv_i w), (3, sv_i Xg1_l3), (4, sv_i Xg5_l5), (5, sv_i Xg5_l5)]) (st' := []) rfl ?_
                          exact J13 Xg5_l5 ⟨by omega, by omega⟩ (by first | exact Or.inl (by omega) | exact zd | exact Or.inr (fun b h1 h2 => absurd h2 (by omega)) | exact zq_step (P := fun b => zq_bit v b = 0 ∨ (Xg1_l3 = 0 ∧ zq_pt σ a b w ≠ 0)) zc (Or.inl (by unfold zq_bit; omega)) | exact zq_step (P := fun b => zq_bit v b = 0 ∨ (Xg1_l3 = 0 ∧ zq_pt σ a b w ≠ 0)) zc (Or.inr ⟨by omega, by omega⟩))
                · refine sv_go C.1 C.2.1 [(.aload_n 0, 1), (.iload 5, 2), (.iload_n 2, 1)] (pc' := 70) (by decide +kernel) rfl (lv' := [(0, sv_r a), (1, sv_i v), (2, sv_i w), (3, sv_i Xg1_l3), (4, sv_i Xg5_l4), (5, sv_i Xg5_l5)]) (st' := [sv_i w, sv_i Xg5_l5, sv_r a]) rfl ?_
                  refine sv_cv C (index := 328) (k := 2) (rest := []) (ci := 10) (r := (RX11, TX11, 47)) (by decide +kernel) (sf2_X11_parts l g A ty σ hok hTA hI a k_a (Xg5_l5) ⟨by omega, by omega⟩ (w) ⟨by omega, by omega⟩) ⟨co_X11_parts, in_X11, ⟨by decide, by decide, by decide +kernel⟩, Nat.le_of_ble_eq_true rfl, Nat.le_of_ble_eq_true rfl⟩ ml_X11_328 im_X11_parts se_X11_parts (by rw [k_a]; rfl) rfl rfl rfl (Nat.le_of_ble_eq_true rfl) ⟨Nat.zero_le _, Nat.zero_le _⟩ (fun r26 σ27 hpo25 hok28 => ?_)
                  obtain ⟨rfl, ⟨vu29, rfl, hvu29, ivu29_0⟩⟩ := hpo25
                  have hp30 := ivu29_0 (by omega) (by omega)
                  refine sv_same (st2 := [sv_i vu29]) (lv2 := [(0, sv_r a), (1, sv_i v), (2, sv_i w), (3, sv_i Xg1_l3), (4, sv_i Xg5_l4), (5, sv_i Xg5_l5)]) rfl rfl ?_
                  refine sv_if C.1 C.2.1 (cnd := .eq) (off := 6) (tgt := 79) (by decide +kernel) (by decide) ⟨by omega, by omega⟩ (fun (h31 : vu29 = 0) => ?_) (fun (h31 : ¬ (vu29 = 0)) => ?_)
                  · refine sv_go C.1 C.2.1 [(.iload 4, 2), (.iconst (-1), 1)] (pc' := 82) (by decide +kernel) rfl (lv' := [(0, sv_r a), (1, sv_i v), (2, sv_i w), (3, sv_i Xg1_l3), (4, sv_i Xg5_l4), (5, sv_i Xg5_l5)]) (st' := [sv_i ((-1)), sv_i Xg5_l4]) rfl ?_
                    refine sv_icmp C.1 C.2.1 (cnd := .eq) (off := 54) (tgt := 136) (by decide +kernel) (by decide) ⟨by omega, by omega⟩ ⟨by omega, by omega⟩ (fun (h32 : Xg5_l4 = ((-1))) => ?_) (fun (h32 : ¬ (Xg5_l4 = ((-1)))) => ?_)
                    · refine sv_go C.1 C.2.1 [(.iload 5, 2), (.istore 4, 2)] (pc' := 140) (by decide +kernel) rfl (lv' := [(0, sv_r a), (1, sv_i v), (2, sv_i w), (3, sv_i Xg1_l3), (4, sv_i Xg5_l5), (5, sv_i Xg5_l5)]) (st' := []) rfl ?_
                      exact J13 Xg5_l5 ⟨by omega, by omega⟩ (by first | exact Or.inl (by omega) | exact zd | exact Or.inr (fun b h1 h2 => absurd h2 (by omega)) | exact zq_step (P := fun b => zq_bit v b = 0 ∨ (Xg1_l3 = 0 ∧ zq_pt σ a b w ≠ 0)) zc (Or.inl (by unfold zq_bit; omega)) | exact zq_step (P := fun b => zq_bit v b = 0 ∨ (Xg1_l3 = 0 ∧ zq_pt σ a b w ≠ 0)) zc (Or.inr ⟨by omega, by omega⟩))
                    · refine sv_go C.1 C.2.1 [(.aload_n 0, 1)] (pc' := 86) (by decide +kernel) rfl (lv' := [(0, sv_r a), (1, sv_i v), (2, sv_i w), (3, sv_i Xg1_l3), (4, sv_i Xg5_l4), (5, sv_i Xg5_l5)]) (st' := [sv_r a]) rfl ?_
                      obtain ⟨v33, ev33, kv33⟩ := hI.ref (k := 38) k_a rfl
                      refine sv_gf C (index := 142) (ci := 10) (k := 38) (r := (RX11, TX11, 47)) (v := sv_r v33) (by decide +kernel) (by rw [k_a]; rfl) rfl (by decide) fl_X11_142 (congrArg sv_a ev33) ?_
                      refine sv_go C.1 C.2.1 [(.iload 5, 2)] (pc' := 91) (by decide +kernel) rfl (lv' := [(0, sv_r a), (1, sv_i v), (2, sv_i w), (3, sv_i Xg1_l3), (4, sv_i Xg5_l4), (5, sv_i Xg5_l5)]) (st' := [sv_i Xg5_l5, sv_r v33]) rfl ?_
                      refine sv_ia C (n := 10) (by decide +kernel) (by rw [kv33]; rfl) (by decide) (by omega) (by omega) ?_
                      obtain ⟨v34, ev34, hv34⟩ := sv_rde hok28 (a := v33) (k := (Xg5_l5 : Int).toNat) (n := 10) (by rw [kv33]; rfl) (by omega)
                      rw [ev34]
                      refine sv_go C.1 C.2.1 [(.aload_n 0, 1)] (pc' := 93) (by decide +kernel) rfl (lv' := [(0, sv_r a), (1, sv_i v), (2, sv_i w), (3, sv_i Xg1_l3), (4, sv_i Xg5_l4), (5, sv_i Xg5_l5)]) (st' := [sv_r a, sv_i v34]) rfl ?_
                      refine sv_gf C (index := 142) (ci := 10) (k := 38) (r := (RX11, TX11, 47)) (v := sv_r v33) (by decide +kernel) (by rw [k_a]; rfl) rfl (by decide) fl_X11_142 (congrArg sv_a ev33) ?_
                      refine sv_go C.1 C.2.1 [(.iload 4, 2)] (pc' := 98) (by decide +kernel) rfl (lv' := [(0, sv_r a), (1, sv_i v), (2, sv_i w), (3, sv_i Xg1_l3), (4, sv_i Xg5_l4), (5, sv_i Xg5_l5)]) (st' := [sv_i Xg5_l4, sv_r v33, sv_i v34]) rfl ?_
                      refine sv_ia C (n := 10) (by decide +kernel) (by rw [kv33]; rfl) (by decide) (by omega) (by omega) ?_
                      obtain ⟨v35, ev35, hv35⟩ := sv_rde hok28 (a := v33) (k := (Xg5_l4 : Int).toNat) (n := 10) (by rw [kv33]; rfl) (by omega)
                      rw [ev35]
                      refine sv_icmp C.1 C.2.1 (cnd := .lt) (off := 37) (tgt := 136) (by decide +kernel) (by decide) ⟨by omega, by omega⟩ ⟨by omega, by omega⟩ (fun (h36 : v34 < v35) => ?_) (fun (h36 : ¬ (v34 < v35)) => ?_)
                      · refine sv_go C.1 C.2.1 [(.iload 5, 2), (.istore 4, 2)] (pc' := 140) (by decide +kernel) rfl (lv' := [(0, sv_r a), (1, sv_i v), (2, sv_i w), (3, sv_i Xg1_l3), (4, sv_i Xg5_l5), (5, sv_i Xg5_l5)]) (st' := []) rfl ?_
                        exact J13 Xg5_l5 ⟨by omega, by omega⟩ (by first | exact Or.inl (by omega) | exact zd | exact Or.inr (fun b h1 h2 => absurd h2 (by omega)) | exact zq_step (P := fun b => zq_bit v b = 0 ∨ (Xg1_l3 = 0 ∧ zq_pt σ a b w ≠ 0)) zc (Or.inl (by unfold zq_bit; omega)) | exact zq_step (P := fun b => zq_bit v b = 0 ∨ (Xg1_l3 = 0 ∧ zq_pt σ a b w ≠ 0)) zc (Or.inr ⟨by omega, by omega⟩))
                      · refine sv_go C.1 C.2.1 [(.aload_n 0, 1)] (pc' := 103) (by decide +kernel) rfl (lv' := [(0, sv_r a), (1, sv_i v), (2, sv_i w), (3, sv_i Xg1_l3), (4, sv_i Xg5_l4), (5, sv_i Xg5_l5)]) (st' := [sv_r a]) rfl ?_
                        refine sv_gf C (index := 142) (ci := 10) (k := 38) (r := (RX11, TX11, 47)) (v := sv_r v33) (by decide +kernel) (by rw [k_a]; rfl) rfl (by decide) fl_X11_142 (congrArg sv_a ev33) ?_
                        refine sv_go C.1 C.2.1 [(.iload 5, 2)] (pc' := 108) (by decide +kernel) rfl (lv' := [(0, sv_r a), (1, sv_i v), (2, sv_i w), (3, sv_i Xg1_l3), (4, sv_i Xg5_l4), (5, sv_i Xg5_l5)]) (st' := [sv_i Xg5_l5, sv_r v33]) rfl ?_
                        refine sv_ia C (n := 10) (by decide +kernel) (by rw [kv33]; rfl) (by decide) (by omega) (by omega) ?_
                        rw [ev34]
                        refine sv_go C.1 C.2.1 [(.aload_n 0, 1)] (pc' := 110) (by decide +kernel) rfl (lv' := [(0, sv_r a), (1, sv_i v), (2, sv_i w), (3, sv_i Xg1_l3), (4, sv_i Xg5_l4), (5, sv_i Xg5_l5)]) (st' := [sv_r a, sv_i v34]) rfl ?_
                        refine sv_gf C (index := 142) (ci := 10) (k := 38) (r := (RX11, TX11, 47)) (v := sv_r v33) (by decide +kernel) (by rw [k_a]; rfl) rfl (by decide) fl_X11_142 (congrArg sv_a ev33) ?_
                        refine sv_go C.1 C.2.1 [(.iload 4, 2)] (pc' := 115) (by decide +kernel) rfl (lv' := [(0, sv_r a), (1, sv_i v), (2, sv_i w), (3, sv_i Xg1_l3), (4, sv_i Xg5_l4), (5, sv_i Xg5_l5)]) (st' := [sv_i Xg5_l4, sv_r v33, sv_i v34]) rfl ?_
                        refine sv_ia C (n := 10) (by decide +kernel) (by rw [kv33]; rfl) (by decide) (by omega) (by omega) ?_
                        rw [ev35]
                        refine sv_icmp C.1 C.2.1 (cnd := .ne) (off := 24) (tgt := 140) (by decide +kernel) (by decide) ⟨by omega, by omega⟩ ⟨by omega, by omega⟩ (fun (h37 : v34 ≠ v35) => ?_) (fun (h37 : ¬ (v34 ≠ v35)) => ?_)
                        · exact J13 Xg5_l4 ⟨by omega, by omega⟩ (by first | exact Or.inl (by omega) | exact zd | exact Or.inr (fun b h1 h2 => absurd h2 (by omega)) | exact zq_step (P := fun b => zq_bit v b = 0 ∨ (Xg1_l3 = 0 ∧ zq_pt σ a b w ≠ 0)) zc (Or.inl (by unfold zq_bit; omega)) | exact zq_step (P := fun b => zq_bit v b = 0 ∨ (Xg1_l3 = 0 ∧ zq_pt σ a b w ≠ 0)) zc (Or.inr ⟨by omega, by omega⟩))
                        · refine sv_go C.1 C.2.1 [(.aload_n 0, 1)] (pc' := 120) (by decide +kernel) rfl (lv' := [(0, sv_r a), (1, sv_i v), (2, sv_i w), (3, sv_i Xg1_l3), (4, sv_i Xg5_l4), (5, sv_i Xg5_l5)]) (st' := [sv_r a]) rfl ?_
                          obtain ⟨v38, ev38, kv38⟩ := hI.ref (k := 39) k_a rfl
                          refine sv_gf C (index := 145) (ci := 10) (k := 39) (r := (RX11, TX11, 47)) (v := sv_r v38) (by decide +kernel) (by rw [k_a]; rfl) rfl (by decide) fl_X11_145 (congrArg sv_a ev38) ?_
                          refine sv_go C.1 C.2.1 [(.iload 5, 2)] (pc' := 125) (by decide +kernel) rfl (lv' := [(0, sv_r a), (1, sv_i v), (2, sv_i w), (3, sv_i Xg1_l3), (4, sv_i Xg5_l4), (5, sv_i Xg5_l5)]) (st' := [sv_i Xg5_l5, sv_r v38]) rfl ?_
                          refine sv_ia C (n := 10) (by decide +kernel) (by rw [kv38]; rfl) (by decide) (by omega) (by omega) ?_
                          obtain ⟨v39, ev39, hv39⟩ := sv_rde hok28 (a := v38) (k := (Xg5_l5 : Int).toNat) (n := 10) (by rw [kv38]; rfl) (by omega)
                          rw [ev39]
                          refine sv_go C.1 C.2.1 [(.aload_n 0, 1)] (pc' := 127) (by decide +kernel) rfl (lv' := [(0, sv_r a), (1, sv_i v), (2, sv_i w), (3, sv_i Xg1_l3), (4, sv_i Xg5_l4), (5, sv_i Xg5_l5)]) (st' := [sv_r a, sv_i v39]) rfl ?_
                          refine sv_gf C (index := 145) (ci := 10) (k := 39) (r := (RX11, TX11, 47)) (v := sv_r v38) (by decide +kernel) (by rw [k_a]; rfl) rfl (by decide) fl_X11_145 (congrArg sv_a ev38) ?_
                          refine sv_go C.1 C.2.1 [(.iload 4, 2)] (pc' := 132) (by decide +kernel) rfl (lv' := [(0, sv_r a), (1, sv_i v), (2, sv_i w), (3, sv_i Xg1_l3), (4, sv_i Xg5_l4), (5, sv_i Xg5_l5)]) (st' := [sv_i Xg5_l4, sv_r v38, sv_i v39]) rfl ?_
                          refine sv_ia C (n := 10) (by decide +kernel) (by rw [kv38]; rfl) (by decide) (by omega) (by omega) ?_
                          obtain ⟨v40, ev40, hv40⟩ := sv_rde hok28 (a := v38) (k := (Xg5_l4 : Int).toNat) (n := 10) (by rw [kv38]; rfl) (by omega)
                          rw [ev40]
                          refine sv_icmp C.1 C.2.1 (cnd := .ge) (off := 7) (tgt := 140) (by decide +kernel) (by decide) ⟨by omega, by omega⟩ ⟨by omega, by omega⟩ (fun (h41 : v40 ≤ v39) => ?_) (fun (h41 : ¬ (v40 ≤ v39)) => ?_)
                          · exact J13 Xg5_l4 ⟨by omega, by omega⟩ (by first | exact Or.inl (by omega) | exact zd | exact Or.inr (fun b h1 h2 => absurd h2 (by omega)) | exact zq_step (P := fun b => zq_bit v b = 0 ∨ (Xg1_l3 = 0 ∧ zq_pt σ a b w ≠ 0)) zc (Or.inl (by unfold zq_bit; omega)) | exact zq_step (P := fun b => zq_bit v b = 0 ∨ (Xg1_l3 = 0 ∧ zq_pt σ a b w ≠ 0)) zc (Or.inr ⟨by omega, by omega⟩))
                          · refine sv_go C.1 C.2.1 [(.iload 5, 2), (.istore 4, 2)] (pc' := 140) (by decide +kernel) rfl (lv' := [(0, sv_r a), (1, sv_i v), (2, sv_i w), (3, sv_i Xg1_l3), (4, sv_i Xg5_l5), (5, sv_i Xg5_l5)]) (st' := []) rfl ?_
                            exact J13 Xg5_l5 ⟨by omega, by omega⟩ (by first | exact Or.inl (by omega) | exact zd | exact Or.inr (fun b h1 h2 => absurd h2 (by omega)) | exact zq_step (P := fun b => zq_bit v b = 0 ∨ (Xg1_l3 = 0 ∧ zq_pt σ a b w ≠ 0)) zc (Or.inl (by unfold zq_bit; omega)) | exact zq_step (P := fun b => zq_bit v b = 0 ∨ (Xg1_l3 = 0 ∧ zq_pt σ a b w ≠ 0)) zc (Or.inr ⟨by omega, by omega⟩))
                  · refine sv_goto C.1 C.2.1 (off := 64) (tgt := 140) (by decide +kernel) (by decide) ?_
                    exact J13 Xg5_l4 ⟨by omega, by omega⟩ (by first | exact Or.inl (by omega) | exact zd | exact Or.inr (fun b h1 h2 => absurd h2 (by omega)) | exact zq_step (P := fun b => zq_bit v b = 0 ∨ (Xg1_l3 = 0 ∧ zq_pt σ a b w ≠ 0)) zc (Or.inl (by unfold zq_bit; omega)) | exact zq_step (P := fun b => zq_bit v b = 0 ∨ (Xg1_l3 = 0 ∧ zq_pt σ a b w ≠ 0)) zc (Or.inr ⟨by omega, by omega⟩))
        exact L6 (((10 - 0 : Int)).toNat + 1) ((-1)) 0 ⟨by omega, by omega⟩ ⟨by omega, by omega⟩ (by first | exact Or.inl (by omega) | exact zd | exact Or.inr (fun b h1 h2 => absurd h2 (by omega)) | exact zq_step (P := fun b => zq_bit v b = 0 ∨ (Xg1_l3 = 0 ∧ zq_pt σ a b w ≠ 0)) zc (Or.inl (by unfold zq_bit; omega)) | exact zq_step (P := fun b => zq_bit v b = 0 ∨ (Xg1_l3 = 0 ∧ zq_pt σ a b w ≠ 0)) zc (Or.inr ⟨by omega, by omega⟩)) (by omega)
      · refine sv_go C.1 C.2.1 [(.iload_n 1, 1), (.iload 4, 2), (.ishr, 1), (.iconst 1, 1), (.iand, 1), (.iconst 1, 1)] (pc' := 19) (by decide +kernel) rfl (lv' := [(0, sv_r a), (1, sv_i v), (2, sv_i w), (3, sv_i Xg1_l3), (4, sv_i Xg1_l4)]) (st' := [sv_i 1, sv_i ((Int32.ofInt ((Int32.ofInt v >>> (Int32.ofInt Xg1_l4 &&& 31)).toInt) &&& Int32.ofInt 1).toInt)]) rfl ?_
        have hb42 : (-2147483648) ≤ (Int32.ofInt v >>> (Int32.ofInt Xg1_l4 &&& 31)).toInt ∧ (Int32.ofInt v >>> (Int32.ofInt Xg1_l4 &&& 31)).toInt ≤ 2147483647 := sv_ioin2 (Int32.ofInt v >>> (Int32.ofInt Xg1_l4 &&& 31))
        have hb43 : 0 ≤ (Int32.ofInt ((Int32.ofInt v >>> (Int32.ofInt Xg1_l4 &&& 31)).toInt) &&& Int32.ofInt 1).toInt ∧ (Int32.ofInt ((Int32.ofInt v >>> (Int32.ofInt Xg1_l4 &&& 31)).toInt) &&& Int32.ofInt 1).toInt ≤ 1 := sv_andr ((Int32.ofInt v >>> (Int32.ofInt Xg1_l4 &&& 31)).toInt) 1 (by decide) (by decide)
        have J46 : ∀ (Jg45_l3 : Int), (0 ≤ Jg45_l3 ∧ Jg45_l3 ≤ 1) → (Jg45_l3 = 1 ∨ (Jg45_l3 = 0 ∧ ∃ b : Int, (0 ≤ b ∧ b < 10) ∧ zq_bit v b ≠ 0 ∧ zq_pt σ a b w = 0)) → sv_E p l e { frames := 1, cells := 0, slots := 0, locals := 22 } s m args below meth c 6 g A ty (fun r σ' => σ = σ' ∧ ∃ rv : Int, r = [sv_i rv] ∧ (0 ≤ rv ∧ rv ≤ 9)) σ 34 [(0, sv_r a), (1, sv_i v), (2, sv_i w), (3, sv_i Jg45_l3), (4, sv_i Xg1_l4)] [] := by
          intro Jg45_l3 hJg45_l3 zb
          refine sv_go C.1 C.2.1 [(.iinc 4 1, 3)] (pc' := 37) (by decide +kernel) rfl (lv' := [(0, sv_r a), (1, sv_i v), (2, sv_i w), (3, sv_i Jg45_l3), (4, sv_i (Xg1_l4 + 1))]) (st' := []) rfl ?_
          refine sv_goto C.1 C.2.1 (off := (-32)) (tgt := 5) (by decide +kernel) (by decide) ?_
          exact ih3 Jg45_l3 (Xg1_l4 + 1) ⟨by omega, by omega⟩ ⟨by omega, by omega⟩ (by first | exact Or.inl rfl | exact za | exact zb | exact Or.inr ⟨rfl, Xg1_l4 + 1, ⟨by omega, by omega⟩, by unfold zq_bit; omega, by omega⟩) (by omega)
        refine sv_icmp C.1 C.2.1 (cnd := .ne) (off := 15) (tgt := 34) (by decide +kernel) (by decide) ⟨by omega, by omega⟩ ⟨by omega, by omega⟩ (fun (h44 : ((Int32.ofInt ((Int32.ofInt v >>> (Int32.ofInt Xg1_l4 &&& 31)).toInt) &&& Int32.ofInt 1).toInt) ≠ 1) => ?_) (fun (h44 : ¬ (((Int32.ofInt ((Int32.ofInt v >>> (Int32.ofInt Xg1_l4 &&& 31)).toInt) &&& Int32.ofInt 1).toInt) ≠ 1)) => ?_)
        · exact J46 Xg1_l3 ⟨by omega, by omega⟩ (by first | exact Or.inl rfl | exact za | exact zb | exact Or.inr ⟨rfl, Xg1_l4, ⟨by omega, by omega⟩, by unfold zq_bit; omega, by omega⟩)
        · refine sv_go C.1 C.2.1 [(.aload_n 0, 1), (.iload 4, 2), (.iload_n 2, 1)] (pc' := 26) (by decide +kernel) rfl (lv' := [(0, sv_r a), (1, sv_i v), (2, sv_i w), (3, sv_i Xg1_l3), (4, sv_i Xg1_l4)]) (st' := [sv_i w, sv_i Xg1_l4, sv_r a]) rfl ?_
          refine sv_cv C (index := 328) (k := 2) (rest := []) (ci := 10) (r := (RX11, TX11, 47)) (by decide +kernel) (sf2_X11_parts l g A ty σ hok hTA hI a k_a (Xg1_l4) ⟨by omega, by omega⟩ (w) ⟨by omega, by omega⟩) ⟨co_X11_parts, in_X11, ⟨by decide, by decide, by decide +kernel⟩, Nat.le_of_ble_eq_true rfl, Nat.le_of_ble_eq_true rfl⟩ ml_X11_328 im_X11_parts se_X11_parts (by rw [k_a]; rfl) rfl rfl rfl (Nat.le_of_ble_eq_true rfl) ⟨Nat.zero_le _, Nat.zero_le _⟩ (fun r48 σ49 hpo47 hok50 => ?_)
          obtain ⟨rfl, ⟨vu51, rfl, hvu51, ivu51_0⟩⟩ := hpo47
          have hp52 := ivu51_0 (by omega) (by omega)
          refine sv_same (st2 := [sv_i vu51]) (lv2 := [(0, sv_r a), (1, sv_i v), (2, sv_i w), (3, sv_i Xg1_l3), (4, sv_i Xg1_l4)]) rfl rfl ?_
          refine sv_if C.1 C.2.1 (cnd := .ne) (off := 5) (tgt := 34) (by decide +kernel) (by decide) ⟨by omega, by omega⟩ (fun (h53 : vu51 ≠ 0) => ?_) (fun (h53 : ¬ (vu51 ≠ 0)) => ?_)
          · exact J46 Xg1_l3 ⟨by omega, by omega⟩ (by first | exact Or.inl rfl | exact za | exact zb | exact Or.inr ⟨rfl, Xg1_l4, ⟨by omega, by omega⟩, by unfold zq_bit; omega, by omega⟩)
          · refine sv_go C.1 C.2.1 [(.iconst 0, 1), (.istore_n 3, 1)] (pc' := 34) (by decide +kernel) rfl (lv' := [(0, sv_r a), (1, sv_i v), (2, sv_i w), (3, sv_i 0), (4, sv_i Xg1_l4)]) (st' := []) rfl ?_
            exact J46 0 ⟨by omega, by omega⟩ (by first | exact Or.inl rfl | exact za | exact zb | exact Or.inr ⟨rfl, Xg1_l4, ⟨by omega, by omega⟩, by unfold zq_bit; omega, by omega⟩)
  exact L2 (((10 - 0 : Int)).toNat + 1) 1 0 ⟨by omega, by omega⟩ ⟨by omega, by omega⟩ (by first | exact Or.inl rfl | exact za | exact zb | exact Or.inr ⟨rfl, 0, ⟨by omega, by omega⟩, by unfold zq_bit; omega, by omega⟩) (by omega)

theorem cl_X11_319 : Cond.constantLong RX11 319 (1023) ∈ lw_good := sv_mem 1426 (by decide +kernel) rfl
theorem ci_X11_324 : Cond.constant RX11 324 (-268435456) ∈ lw_good := sv_mem 1427 (by decide +kernel) rfl
theorem ml_X11_325 : Cond.methodLink RX11 325 yX11_carrier ∈ lw_good := sv_mem 1428 (by decide +kernel) rfl
theorem co_X11_carrier : Cond.code yX11_carrier cX11_carrier 6 (some .int) ∈ lw_good := sv_mem 1431 (by decide +kernel) rfl
theorem im_X11_carrier : Cond.instanceMethod yX11_carrier ∈ lw_good := sv_mem 1430 (by decide +kernel) rfl
theorem se_X11_carrier : Cond.selects RX11 yX11_carrier yX11_carrier ∈ lw_good := sv_mem 66 (by decide +kernel) rfl
set_option maxHeartbeats 4000000 in
set_option maxRecDepth 100000 in
theorem sf_X11_rota (l : Launch) (g : sv_G) (A : Nat → Prop) (ty : Nat → Nat) (σ : Nat → Nat → Int) (hok : sv_ok ty σ) (hTA : ∀ q, ty q ≠ 0 → A q) (hI : sv_inv sp_1 ty σ) (a : Nat) (k_a : ty a = 10) (ar1 : Int) (h_ar1 : (-2147483648) ≤ ar1 ∧ ar1 ≤ 2147483647) (ar2 : Int) (h_ar2 : (-2147483648) ≤ ar2 ∧ ar2 ≤ 2147483647) (ar3 : Int) (h_ar3 : (-2147483648) ≤ ar3 ∧ ar3 ≤ 2147483647) (ar4 : Int) (h_ar4 : (-2147483648) ≤ ar4 ∧ ar4 ≤ 2147483647) (ar5 : Int) (h_ar5 : (-2147483648) ≤ ar5 ∧ ar5 ≤ 2147483647) : sv_M l yX11_rota cX11_rota 12 (some .int) { frames := 6, cells := 0, slots := 0, locals := 138 } g A ty σ [sv_r a, sv_i ar1, sv_i ar2, sv_i ar3, sv_i ar4, sv_i ar5] (fun r σ' => (∃ rv : Int, r = [sv_i rv] ∧ ((-2) ≤ rv ∧ rv ≤ 732000)) ∧ sv_inv sp_1 ty σ' ∧ sv_ofx [(10, 40)] [88, 89, 90, 91, 94, 95, 96, 97, 98, 99] ty σ σ') := by
  refine sv_enter (by decide) (Nat.le_of_ble_eq_true rfl) ?_
  intro p e s m args below meth c C hr
  have C : sv_C g A RX11 cX11_rota 12 p s m args meth c := C
  have hr : meth.sig.returnType = (some .int) := hr
  have hF : sv_ofx [(10, 40)] [88, 89, 90, 91, 94, 95, 96, 97, 98, 99] ty σ σ := sv_ofx.rf
  refine sv_same (st2 := []) (lv2 := [(0, sv_r a), (1, sv_i ar1), (2, sv_i ar2), (3, sv_i ar3), (4, sv_i ar4), (5, sv_i ar5)]) rfl rfl ?_
  refine sv_go C.1 C.2.1 [(.iload_n 1, 1)] (pc' := 1) (by decide +kernel) rfl (lv' := [(0, sv_r a), (1, sv_i ar1), (2, sv_i ar2), (3, sv_i ar3), (4, sv_i ar4), (5, sv_i ar5)]) (st' := [sv_i ar1]) rfl ?_
  refine sv_cs C (index := 277) (k := 1) (rest := []) (by decide +kernel) (sf_X11_isPlace l g A ty σ hok hTA hI (ar1) ⟨by omega, by omega⟩) ⟨co_X11_isPlace, in_X11, ⟨by decide, by decide, by decide +kernel⟩, Nat.le_of_ble_eq_true rfl, Nat.le_of_ble_eq_true rfl⟩ ml_X11_277 st_X11_isPlace rfl rfl (Nat.le_of_ble_eq_true rfl) ⟨Nat.zero_le _, Nat.zero_le _⟩ (fun r2 σ3 hpo1 hok4 => ?_)
  obtain ⟨rfl, ⟨vu5, rfl, hvu5, ivu5_0⟩⟩ := hpo1
  refine sv_same (st2 := [sv_i vu5]) (lv2 := [(0, sv_r a), (1, sv_i ar1), (2, sv_i ar2), (3, sv_i ar3), (4, sv_i ar4), (5, sv_i ar5)]) rfl rfl ?_
  refine sv_if C.1 C.2.1 (cnd := .eq) (off := 57) (tgt := 61) (by decide +kernel) (by decide) ⟨by omega, by omega⟩ (fun (h6 : vu5 = 0) => ?_) (fun (h6 : ¬ (vu5 = 0)) => ?_)
  · refine sv_go C.1 C.2.1 [(.bipush (-2), 2)] (pc' := 63) (by decide +kernel) rfl (lv' := [(0, sv_r a), (1, sv_i ar1), (2, sv_i ar2), (3, sv_i ar3), (4, sv_i ar4), (5, sv_i ar5)]) (st' := [sv_i ((-2))]) rfl ?_
    exact sv_iret C hr (by decide +kernel) hok4 (⟨⟨_, rfl, ⟨by omega, by omega⟩⟩, hI, hF⟩)
  · have hp7 := ivu5_0 (by omega) (by omega)
    refine sv_go C.1 C.2.1 [(.iload_n 2, 1)] (pc' := 8) (by decide +kernel) rfl (lv' := [(0, sv_r a), (1, sv_i ar1), (2, sv_i ar2), (3, sv_i ar3), (4, sv_i ar4), (5, sv_i ar5)]) (st' := [sv_i ar2]) rfl ?_
    refine sv_cs C (index := 13) (k := 1) (rest := []) (by decide +kernel) (ct_X11_isYear l g A ty σ hok4 (ar2) ⟨by omega, by omega⟩) ⟨co_X11_isYear, in_X11, ⟨by decide, by decide, by decide +kernel⟩, Nat.le_of_ble_eq_true rfl, Nat.le_of_ble_eq_true rfl⟩ ml_X11_13 st_X11_isYear rfl rfl (Nat.le_of_ble_eq_true rfl) ⟨Nat.zero_le _, Nat.zero_le _⟩ (fun r9 σ10 hpo8 hok11 => ?_)
    obtain ⟨rfl, ⟨h12, rfl⟩ | ⟨h12, rfl⟩⟩ := hpo8
    · refine sv_same (st2 := [sv_i 1]) (lv2 := [(0, sv_r a), (1, sv_i ar1), (2, sv_i ar2), (3, sv_i ar3), (4, sv_i ar4), (5, sv_i ar5)]) rfl rfl ?_
      refine sv_if_f C.1 C.2.1 (cnd := .eq) (off := 50) (tgt := 61) (by decide +kernel) (by decide) ⟨by omega, by omega⟩ (show ¬ (1 = 0) by omega) ?_
      refine sv_go C.1 C.2.1 [(.iload_n 3, 1)] (pc' := 15) (by decide +kernel) rfl (lv' := [(0, sv_r a), (1, sv_i ar1), (2, sv_i ar2), (3, sv_i ar3), (4, sv_i ar4), (5, sv_i ar5)]) (st' := [sv_i ar3]) rfl ?_
      refine sv_i2l C.1 C.2.1 (by decide +kernel) ⟨by omega, by omega⟩ ?_
      refine sv_go C.1 C.2.1 [(.iload_n 2, 1)] (pc' := 17) (by decide +kernel) rfl (lv' := [(0, sv_r a), (1, sv_i ar1), (2, sv_i ar2), (3, sv_i ar3), (4, sv_i ar4), (5, sv_i ar5)]) (st' := [sv_i ar2, sv_l ar3]) rfl ?_
      refine sv_i2l C.1 C.2.1 (by decide +kernel) ⟨by omega, by omega⟩ ?_
      refine sv_ldc2 C (index := 7) (z := 2000) (by decide +kernel) cl_X11_7 (by decide) ?_
      refine sv_cs C (index := 9) (k := 3) (rest := []) (by decide +kernel) (ct_X11_in l g A ty σ hok11 (ar3) ⟨by omega, by omega⟩ (ar2) ⟨by omega, by omega⟩ (2000) ⟨by omega, by omega⟩) ⟨co_X11_in, in_X11, ⟨by decide, by decide, by decide +kernel⟩, Nat.le_of_ble_eq_true rfl, Nat.le_of_ble_eq_true rfl⟩ ml_X11_9 st_X11_in rfl rfl (Nat.le_of_ble_eq_true rfl) ⟨Nat.zero_le _, Nat.zero_le _⟩ (fun r14 σ15 hpo13 hok16 => ?_)
      obtain ⟨rfl, ⟨h17, rfl⟩ | ⟨h17, rfl⟩⟩ := hpo13
      · refine sv_same (st2 := [sv_i 1]) (lv2 := [(0, sv_r a), (1, sv_i ar1), (2, sv_i ar2), (3, sv_i ar3), (4, sv_i ar4), (5, sv_i ar5)]) rfl rfl ?_
        refine sv_if_f C.1 C.2.1 (cnd := .eq) (off := 37) (tgt := 61) (by decide +kernel) (by decide) ⟨by omega, by omega⟩ (show ¬ (1 = 0) by omega) ?_
        refine sv_go C.1 C.2.1 [(.iload_n 3, 1), (.iload_n 2, 1), (.isub, 1), (.bipush 19, 2)] (pc' := 32) (by decide +kernel) rfl (lv' := [(0, sv_r a), (1, sv_i ar1), (2, sv_i ar2), (3, sv_i ar3), (4, sv_i ar4), (5, sv_i ar5)]) (st' := [sv_i 19, sv_i (ar3 - ar2)]) rfl ?_
        refine sv_icmp C.1 C.2.1 (cnd := .gt) (off := 29) (tgt := 61) (by decide +kernel) (by decide) ⟨by omega, by omega⟩ ⟨by omega, by omega⟩ (fun (h18 : 19 < (ar3 - ar2)) => ?_) (fun (h18 : ¬ (19 < (ar3 - ar2))) => ?_)
        · refine sv_go C.1 C.2.1 [(.bipush (-2), 2)] (pc' := 63) (by decide +kernel) rfl (lv' := [(0, sv_r a), (1, sv_i ar1), (2, sv_i ar2), (3, sv_i ar3), (4, sv_i ar4), (5, sv_i ar5)]) (st' := [sv_i ((-2))]) rfl ?_
          exact sv_iret C hr (by decide +kernel) hok16 (⟨⟨_, rfl, ⟨by omega, by omega⟩⟩, hI, hF⟩)
        · refine sv_go C.1 C.2.1 [(.iload 4, 2)] (pc' := 37) (by decide +kernel) rfl (lv' := [(0, sv_r a), (1, sv_i ar1), (2, sv_i ar2), (3, sv_i ar3), (4, sv_i ar4), (5, sv_i ar5)]) (st' := [sv_i ar4]) rfl ?_
          refine sv_i2l C.1 C.2.1 (by decide +kernel) ⟨by omega, by omega⟩ ?_
          refine sv_go C.1 C.2.1 [(.lconst 1, 1)] (pc' := 39) (by decide +kernel) rfl (lv' := [(0, sv_r a), (1, sv_i ar1), (2, sv_i ar2), (3, sv_i ar3), (4, sv_i ar4), (5, sv_i ar5)]) (st' := [sv_l 1, sv_l ar4]) rfl ?_
          refine sv_ldc2 C (index := 310) (z := 8) (by decide +kernel) cl_X11_310 (by decide) ?_
          refine sv_cs C (index := 9) (k := 3) (rest := []) (by decide +kernel) (ct_X11_in l g A ty σ hok16 (ar4) ⟨by omega, by omega⟩ (1) ⟨by omega, by omega⟩ (8) ⟨by omega, by omega⟩) ⟨co_X11_in, in_X11, ⟨by decide, by decide, by decide +kernel⟩, Nat.le_of_ble_eq_true rfl, Nat.le_of_ble_eq_true rfl⟩ ml_X11_9 st_X11_in rfl rfl (Nat.le_of_ble_eq_true rfl) ⟨Nat.zero_le _, Nat.zero_le _⟩ (fun r20 σ21 hpo19 hok22 => ?_)
          obtain ⟨rfl, ⟨h23, rfl⟩ | ⟨h23, rfl⟩⟩ := hpo19
          · refine sv_same (st2 := [sv_i 1]) (lv2 := [(0, sv_r a), (1, sv_i ar1), (2, sv_i ar2), (3, sv_i ar3), (4, sv_i ar4), (5, sv_i ar5)]) rfl rfl ?_
            refine sv_if_f C.1 C.2.1 (cnd := .eq) (off := 16) (tgt := 61) (by decide +kernel) (by decide) ⟨by omega, by omega⟩ (show ¬ (1 = 0) by omega) ?_
            refine sv_go C.1 C.2.1 [(.iload 5, 2)] (pc' := 50) (by decide +kernel) rfl (lv' := [(0, sv_r a), (1, sv_i ar1), (2, sv_i ar2), (3, sv_i ar3), (4, sv_i ar4), (5, sv_i ar5)]) (st' := [sv_i ar5]) rfl ?_
            refine sv_i2l C.1 C.2.1 (by decide +kernel) ⟨by omega, by omega⟩ ?_
            refine sv_go C.1 C.2.1 [(.lconst 1, 1)] (pc' := 52) (by decide +kernel) rfl (lv' := [(0, sv_r a), (1, sv_i ar1), (2, sv_i ar2), (3, sv_i ar3), (4, sv_i ar4), (5, sv_i ar5)]) (st' := [sv_l 1, sv_l ar5]) rfl ?_
            refine sv_ldc2 C (index := 319) (z := 1023) (by decide +kernel) cl_X11_319 (by decide) ?_
            refine sv_cs C (index := 9) (k := 3) (rest := []) (by decide +kernel) (ct_X11_in l g A ty σ hok22 (ar5) ⟨by omega, by omega⟩ (1) ⟨by omega, by omega⟩ (1023) ⟨by omega, by omega⟩) ⟨co_X11_in, in_X11, ⟨by decide, by decide, by decide +kernel⟩, Nat.le_of_ble_eq_true rfl, Nat.le_of_ble_eq_true rfl⟩ ml_X11_9 st_X11_in rfl rfl (Nat.le_of_ble_eq_true rfl) ⟨Nat.zero_le _, Nat.zero_le _⟩ (fun r25 σ26 hpo24 hok27 => ?_)
            obtain ⟨rfl, ⟨h28, rfl⟩ | ⟨h28, rfl⟩⟩ := hpo24
            · refine sv_same (st2 := [sv_i 1]) (lv2 := [(0, sv_r a), (1, sv_i ar1), (2, sv_i ar2), (3, sv_i ar3), (4, sv_i ar4), (5, sv_i ar5)]) rfl rfl ?_
              refine sv_if_t C.1 C.2.1 (cnd := .ne) (off := 6) (tgt := 64) (by decide +kernel) (by decide) ⟨by omega, by omega⟩ (show 1 ≠ 0 by omega) ?_
              refine sv_go C.1 C.2.1 [(.aload_n 0, 1), (.iconst 0, 1)] (pc' := 66) (by decide +kernel) rfl (lv' := [(0, sv_r a), (1, sv_i ar1), (2, sv_i ar2), (3, sv_i ar3), (4, sv_i ar4), (5, sv_i ar5)]) (st' := [sv_i 0, sv_r a]) rfl ?_
              refine sv_pf C (index := 321) (ci := 10) (k := 40) (r := (RX11, TX11, 47)) (z := 0) (by decide +kernel) (by rw [k_a]; rfl) rfl (by decide) rfl fl_X11_321 rfl (Or.inl rfl) ⟨by omega, by omega⟩ (hTA _ (by rw [k_a]; decide)) hok27 (fun hok29 => ?_)
              have hI31 := hI.up (a := a) (k := 40) (z := 0) (by rw [k_a]; exact ⟨by omega, by omega⟩)
              have hF32 := hF.up (a := a) (k := 40) (z := 0) (Or.inr (by rw [k_a]; decide))
              generalize eσ30 : sv_up σ a 40 0 = σ30 at hok29 hI31 hF32 ⊢
              have t33 : σ30 a 40 = 0 := by rw [← eσ30]; exact sv_up_s _ _ _ _
              refine sv_go C.1 C.2.1 [(.iconst 0, 1), (.istore 6, 2)] (pc' := 72) (by decide +kernel) rfl (lv' := [(0, sv_r a), (1, sv_i ar1), (2, sv_i ar2), (3, sv_i ar3), (4, sv_i ar4), (5, sv_i ar5), (6, sv_i 0)]) (st' := []) rfl ?_
              have L36 : ∀ (n : Nat) (Xg34_l6 : Int) (σ35 : Nat → Nat → Int), (0 ≤ Xg34_l6 ∧ Xg34_l6 ≤ 10) → (sv_ok ty σ35) → (sv_inv sp_1 ty σ35) → (sv_ofx [(10, 40)] [88, 89, 90, 91, 94, 95, 96, 97, 98, 99] ty σ σ35) → (σ35 a 40 = 0) → (10 - Xg34_l6) < (n : Int) → sv_E p l e { frames := 6, cells := 0, slots := 0, locals := 138 } s m args below meth c 12 g A ty (fun r σ' => (∃ rv : Int, r = [sv_i rv] ∧ ((-2) ≤ rv ∧ rv ≤ 732000)) ∧ sv_inv sp_1 ty σ' ∧ sv_ofx [(10, 40)] [88, 89, 90, 91, 94, 95, 96, 97, 98, 99] ty σ σ') σ35 72 [(0, sv_r a), (1, sv_i ar1), (2, sv_i ar2), (3, sv_i ar3), (4, sv_i ar4), (5, sv_i ar5), (6, sv_i Xg34_l6)] [] := by
                intro n
                induction n with
                | zero => intro Xg34_l6 σ35 hXg34_l6 okσ35 Iσ35 Fσ35 eσ35_0 hmu; exact absurd hmu (by omega)
                | succ n ih37 =>
                  intro Xg34_l6 σ35 hXg34_l6 okσ35 Iσ35 Fσ35 eσ35_0 hmu
                  refine sv_go C.1 C.2.1 [(.iload 6, 2), (.bipush 10, 2)] (pc' := 76) (by decide +kernel) rfl (lv' := [(0, sv_r a), (1, sv_i ar1), (2, sv_i ar2), (3, sv_i ar3), (4, sv_i ar4), (5, sv_i ar5), (6, sv_i Xg34_l6)]) (st' := [sv_i 10, sv_i Xg34_l6]) rfl ?_
                  refine sv_icmp C.1 C.2.1 (cnd := .ge) (off := 25) (tgt := 101) (by decide +kernel) (by decide) ⟨by omega, by omega⟩ ⟨by omega, by omega⟩ (fun (h38 : 10 ≤ Xg34_l6) => ?_) (fun (h38 : ¬ (10 ≤ Xg34_l6)) => ?_)
                  · refine sv_go C.1 C.2.1 [(.iconst (-1), 1), (.istore 6, 2)] (pc' := 104) (by decide +kernel) rfl (lv' := [(0, sv_r a), (1, sv_i ar1), (2, sv_i ar2), (3, sv_i ar3), (4, sv_i ar4), (5, sv_i ar5), (6, sv_i ((-1)))]) (st' := []) rfl ?_
                    refine sv_ldc_w C (index := 324) (z := -268435456) (by decide +kernel) ci_X11_324 (by decide) ?_
                    refine sv_go C.1 C.2.1 [(.istore 7, 2), (.iload_n 2, 1), (.istore 8, 2)] (pc' := 112) (by decide +kernel) rfl (lv' := [(0, sv_r a), (1, sv_i ar1), (2, sv_i ar2), (3, sv_i ar3), (4, sv_i ar4), (5, sv_i ar5), (6, sv_i ((-1))), (7, sv_i ((-268435456))), (8, sv_i ar2)]) (st' := []) rfl ?_
                    have L41 : ∀ (n : Nat) (Xg39_l6 : Int) (Xg39_l7 : Int) (Xg39_l8 : Int) (Xg39_fa_40 : Int) (σ40 : Nat → Nat → Int), ((-1) ≤ Xg39_l6 ∧ Xg39_l6 ≤ 9) → ((-268435456) ≤ Xg39_l7 ∧ Xg39_l7 ≤ 735000) → (1 ≤ Xg39_l8 ∧ Xg39_l8 ≤ 2001) → (0 ≤ Xg39_fa_40 ∧ Xg39_fa_40 ≤ 732000) → (sv_ok ty σ40) → (sv_inv sp_1 ty σ40) → (sv_ofx [(10, 40)] [88, 89, 90, 91, 94, 95, 96, 97, 98, 99] ty σ σ40) → (σ40 a 40 = Xg39_fa_40) → (Xg39_fa_40 ≤ 366 * (Xg39_l8 - ar2)) → (2001 - Xg39_l8) < (n : Int) → sv_E p l e { frames := 6, cells := 0, slots := 0, locals := 138 } s m args below meth c 12 g A ty (fun r σ' => (∃ rv : Int, r = [sv_i rv] ∧ ((-2) ≤ rv ∧ rv ≤ 732000)) ∧ sv_inv sp_1 ty σ' ∧ sv_ofx [(10, 40)] [88, 89, 90, 91, 94, 95, 96, 97, 98, 99] ty σ σ') σ40 112 [(0, sv_r a), (1, sv_i ar1), (3, sv_i ar3), (4, sv_i ar4), (5, sv_i ar5), (6, sv_i Xg39_l6), (7, sv_i Xg39_l7), (8, sv_i Xg39_l8)] [] := by
                      intro n
                      induction n with
                      | zero => intro Xg39_l6 Xg39_l7 Xg39_l8 Xg39_fa_40 σ40 hXg39_l6 hXg39_l7 hXg39_l8 hXg39_fa_40 okσ40 Iσ40 Fσ40 eσ40_0 zr hmu; exact absurd hmu (by omega)
                      | succ n ih42 =>
                        intro Xg39_l6 Xg39_l7 Xg39_l8 Xg39_fa_40 σ40 hXg39_l6 hXg39_l7 hXg39_l8 hXg39_fa_40 okσ40 Iσ40 Fσ40 eσ40_0 zr hmu
                        refine sv_go C.1 C.2.1 [(.iload 8, 2), (.iload_n 3, 1)] (pc' := 115) (by decide +kernel) rfl (lv' := [(0, sv_r a), (1, sv_i ar1), (3, sv_i ar3), (4, sv_i ar4), (5, sv_i ar5), (6, sv_i Xg39_l6), (7, sv_i Xg39_l7), (8, sv_i Xg39_l8)]) (st' := [sv_i ar3, sv_i Xg39_l8]) rfl ?_
                        refine sv_icmp C.1 C.2.1 (cnd := .gt) (off := 220) (tgt := 335) (by decide +kernel) (by decide) ⟨by omega, by omega⟩ ⟨by omega, by omega⟩ (fun (h43 : ar3 < Xg39_l8) => ?_) (fun (h43 : ¬ (ar3 < Xg39_l8)) => ?_)
                        · refine sv_go C.1 C.2.1 [(.aload_n 0, 1)] (pc' := 336) (by decide +kernel) rfl (lv' := [(0, sv_r a), (1, sv_i ar1), (3, sv_i ar3), (4, sv_i ar4), (5, sv_i ar5), (6, sv_i Xg39_l6), (7, sv_i Xg39_l7), (8, sv_i Xg39_l8)]) (st' := [sv_r a]) rfl ?_
                          refine sv_gf C (index := 321) (ci := 10) (k := 40) (r := (RX11, TX11, 47)) (v := sv_i Xg39_fa_40) (by decide +kernel) (by rw [k_a]; rfl) rfl (by decide) fl_X11_321 (congrArg sv_i eσ40_0) ?_
                          exact sv_iret C hr (by decide +kernel) okσ40 (⟨⟨_, rfl, ⟨by omega, by omega⟩⟩, Iσ40, Fσ40⟩)
                        · refine sv_go C.1 C.2.1 [(.aload_n 0, 1), (.iload_n 1, 1), (.iload 8, 2)] (pc' := 122) (by decide +kernel) rfl (lv' := [(0, sv_r a), (1, sv_i ar1), (3, sv_i ar3), (4, sv_i ar4), (5, sv_i ar5), (6, sv_i Xg39_l6), (7, sv_i Xg39_l7), (8, sv_i Xg39_l8)]) (st' := [sv_i Xg39_l8, sv_i ar1, sv_r a]) rfl ?_
                          refine sv_cv C (index := 301) (k := 2) (rest := []) (ci := 10) (r := (RX11, TX11, 47)) (by decide +kernel) (sf_X11_lead l g A ty σ40 okσ40 hTA Iσ40 a k_a (ar1) ⟨by omega, by omega⟩ (Xg39_l8) ⟨by omega, by omega⟩) ⟨co_X11_lead, in_X11, ⟨by decide, by decide, by decide +kernel⟩, Nat.le_of_ble_eq_true rfl, Nat.le_of_ble_eq_true rfl⟩ ml_X11_301 im_X11_lead se_X11_lead (by rw [k_a]; rfl) rfl rfl rfl (Nat.le_of_ble_eq_true rfl) ⟨Nat.zero_le _, Nat.zero_le _⟩ (fun r45 σ46 hpo44 hok47 => ?_)
                          obtain ⟨rfl, hIu48, hFu48⟩ := hpo44
                          have hGu48 := Fσ40.tr hFu48 (by decide) (by decide)
                          have t49 : σ46 a 40 = Xg39_fa_40 := (hFu48.at k_a (by decide) (by decide)).trans eσ40_0
                          refine sv_same (st2 := []) (lv2 := [(0, sv_r a), (1, sv_i ar1), (3, sv_i ar3), (4, sv_i ar4), (5, sv_i ar5), (6, sv_i Xg39_l6), (7, sv_i Xg39_l7), (8, sv_i Xg39_l8)]) rfl rfl ?_
                          refine sv_go C.1 C.2.1 [(.iconst 0, 1), (.istore 9, 2)] (pc' := 128) (by decide +kernel) rfl (lv' := [(0, sv_r a), (1, sv_i ar1), (3, sv_i ar3), (4, sv_i ar4), (5, sv_i ar5), (6, sv_i Xg39_l6), (7, sv_i Xg39_l7), (8, sv_i Xg39_l8), (9, sv_i 0)]) (st' := []) rfl ?_
                          have L52 : ∀ (n : Nat) (Xg50_l6 : Int) (Xg50_l7 : Int) (Xg50_l9 : Int) (Xg50_fa_40 : Int) (σ51 : Nat → Nat → Int), ((-1) ≤ Xg50_l6 ∧ Xg50_l6 ≤ 9) → ((-268435456) ≤ Xg50_l7 ∧ Xg50_l7 ≤ 735000) → (0 ≤ Xg50_l9 ∧ Xg50_l9 ≤ 366) → (0 ≤ Xg50_fa_40 ∧ Xg50_fa_40 ≤ 732000) → (sv_ok ty σ51) → (sv_inv sp_1 ty σ51) → (sv_ofx [(10, 40)] [88, 89, 90, 91, 94, 95, 96, 97, 98, 99] ty σ σ51) → (σ51 a 40 = Xg50_fa_40) → (Xg50_fa_40 ≤ 366 * (Xg39_l8 - ar2) + Xg50_l9) → (366 - Xg50_l9) < (n : Int) → sv_E p l e { frames := 6, cells := 0, slots := 0, locals := 138 } s m args below meth c 12 g A ty (fun r σ' => (∃ rv : Int, r = [sv_i rv] ∧ ((-2) ≤ rv ∧ rv ≤ 732000)) ∧ sv_inv sp_1 ty σ' ∧ sv_ofx [(10, 40)] [88, 89, 90, 91, 94, 95, 96, 97, 98, 99] ty σ σ') σ51 128 [(0, sv_r a), (1, sv_i ar1), (3, sv_i ar3), (4, sv_i ar4), (5, sv_i ar5), (6, sv_i Xg50_l6), (7, sv_i Xg50_l7), (8, sv_i Xg39_l8), (9, sv_i Xg50_l9)] [] := by
                            intro n
                            induction n with
                            | zero => intro Xg50_l6 Xg50_l7 Xg50_l9 Xg50_fa_40 σ51 hXg50_l6 hXg50_l7 hXg50_l9 hXg50_fa_40 okσ51 Iσ51 Fσ51 eσ51_0 zs hmu; exact absurd hmu (by omega)
                            | succ n ih53 =>
                              intro Xg50_l6 Xg50_l7 Xg50_l9 Xg50_fa_40 σ51 hXg50_l6 hXg50_l7 hXg50_l9 hXg50_fa_40 okσ51 Iσ51 Fσ51 eσ51_0 zs hmu
                              refine sv_go C.1 C.2.1 [(.iload 9, 2), (.iload 8, 2)] (pc' := 132) (by decide +kernel) rfl (lv' := [(0, sv_r a), (1, sv_i ar1), (3, sv_i ar3), (4, sv_i ar4), (5, sv_i ar5), (6, sv_i Xg50_l6), (7, sv_i Xg50_l7), (8, sv_i Xg39_l8), (9, sv_i Xg50_l9)]) (st' := [sv_i Xg39_l8, sv_i Xg50_l9]) rfl ?_
                              refine sv_cs C (index := 16) (k := 1) (rest := [sv_i Xg50_l9]) (by decide +kernel) (ct_X11_daysOf l g A ty σ51 okσ51 (Xg39_l8) ⟨by omega, by omega⟩) ⟨co_X11_daysOf, in_X11, ⟨by decide, by decide, by decide +kernel⟩, Nat.le_of_ble_eq_true rfl, Nat.le_of_ble_eq_true rfl⟩ ml_X11_16 st_X11_daysOf rfl rfl (Nat.le_of_ble_eq_true rfl) ⟨Nat.zero_le _, Nat.zero_le _⟩ (fun r55 σ56 hpo54 hok57 => ?_)
                              obtain ⟨rfl, rfl⟩ := hpo54
                              have hn59 := dy_lp_in Xg39_l8
                              refine sv_same (st2 := [sv_i (365 + dy_lp Xg39_l8), sv_i Xg50_l9]) (lv2 := [(0, sv_r a), (1, sv_i ar1), (3, sv_i ar3), (4, sv_i ar4), (5, sv_i ar5), (6, sv_i Xg50_l6), (7, sv_i Xg50_l7), (8, sv_i Xg39_l8), (9, sv_i Xg50_l9)]) rfl rfl ?_
                              refine sv_icmp C.1 C.2.1 (cnd := .ge) (off := 194) (tgt := 329) (by decide +kernel) (by decide) ⟨by omega, by omega⟩ ⟨by omega, by omega⟩ (fun (h60 : (365 + dy_lp Xg39_l8) ≤ Xg50_l9) => ?_) (fun (h60 : ¬ ((365 + dy_lp Xg39_l8) ≤ Xg50_l9)) => ?_)
                              · refine sv_go C.1 C.2.1 [(.iinc 8 1, 3)] (pc' := 332) (by decide +kernel) rfl (lv' := [(0, sv_r a), (1, sv_i ar1), (3, sv_i ar3), (4, sv_i ar4), (5, sv_i ar5), (6, sv_i Xg50_l6), (7, sv_i Xg50_l7), (8, sv_i (Xg39_l8 + 1)), (9, sv_i Xg50_l9)]) (st' := []) rfl ?_
                                refine sv_goto C.1 C.2.1 (off := (-220)) (tgt := 112) (by decide +kernel) (by decide) ?_
                                refine sv_pick [0, 1, 2, 3, 4, 5, 6, 7] (lv2 := [(0, sv_r a), (1, sv_i ar1), (3, sv_i ar3), (4, sv_i ar4), (5, sv_i ar5), (6, sv_i Xg50_l6), (7, sv_i Xg50_l7), (8, sv_i (Xg39_l8 + 1))]) rfl ?_
                                exact ih42 Xg50_l6 Xg50_l7 (Xg39_l8 + 1) Xg50_fa_40 σ51 ⟨by omega, by omega⟩ ⟨by omega, by omega⟩ ⟨by omega, by omega⟩ ⟨by omega, by omega⟩ hok57 Iσ51 Fσ51 eσ51_0 (by omega) (by omega)
                              · refine sv_go C.1 C.2.1 [(.aload_n 0, 1)] (pc' := 139) (by decide +kernel) rfl (lv' := [(0, sv_r a), (1, sv_i ar1), (3, sv_i ar3), (4, sv_i ar4), (5, sv_i ar5), (6, sv_i Xg50_l6), (7, sv_i Xg50_l7), (8, sv_i Xg39_l8), (9, sv_i Xg50_l9)]) (st' := [sv_r a]) rfl ?_
                                obtain ⟨v61, ev61, kv61⟩ := Iσ51.ref (k := 31) k_a rfl
                                refine sv_gf C (index := 121) (ci := 10) (k := 31) (r := (RX11, TX11, 47)) (v := sv_r v61) (by decide +kernel) (by rw [k_a]; rfl) rfl (by decide) fl_X11_121 (congrArg sv_a ev61) ?_
                                refine sv_go C.1 C.2.1 [(.iload 9, 2)] (pc' := 144) (by decide +kernel) rfl (lv' := [(0, sv_r a), (1, sv_i ar1), (3, sv_i ar3), (4, sv_i ar4), (5, sv_i ar5), (6, sv_i Xg50_l6), (7, sv_i Xg50_l7), (8, sv_i Xg39_l8), (9, sv_i Xg50_l9)]) (st' := [sv_i Xg50_l9, sv_r v61]) rfl ?_
                                refine sv_ia C (n := 366) (by decide +kernel) (by rw [kv61]; rfl) (by decide) (by omega) (by omega) ?_
                                obtain ⟨v62, ev62, hv62⟩ := sv_rdn Iσ51 (k := (Xg50_l9 : Int).toNat) kv61 rfl
                                rw [ev62]
                                have J66 : ∀ (Jg64_l6 : Int) (Jg64_l7 : Int) (Jg64_fa_40 : Int) (σ65 : Nat → Nat → Int), ((-1) ≤ Jg64_l6 ∧ Jg64_l6 ≤ 9) → ((-268435456) ≤ Jg64_l7 ∧ Jg64_l7 ≤ 735000) → (0 ≤ Jg64_fa_40 ∧ Jg64_fa_40 ≤ 732000) → (sv_ok ty σ65) → (sv_inv sp_1 ty σ65) → (sv_ofx [(10, 40)] [88, 89, 90, 91, 94, 95, 96, 97, 98, 99] ty σ σ65) → (σ65 a 40 = Jg64_fa_40) → (σ65 a 31 = (v61 : Int) + 1) → (σ65 v61 (Xg50_l9 : Int).toNat = v62) → (Jg64_fa_40 ≤ 366 * (Xg39_l8 - ar2) + Xg50_l9 + 1) → sv_E p l e { frames := 6, cells := 0, slots := 0, locals := 138 } s m args below meth c 12 g A ty (fun r σ' => (∃ rv : Int, r = [sv_i rv] ∧ ((-2) ≤ rv ∧ rv ≤ 732000)) ∧ sv_inv sp_1 ty σ' ∧ sv_ofx [(10, 40)] [88, 89, 90, 91, 94, 95, 96, 97, 98, 99] ty σ σ') σ65 323 [(0, sv_r a), (1, sv_i ar1), (3, sv_i ar3), (4, sv_i ar4), (5, sv_i ar5), (6, sv_i Jg64_l6), (7, sv_i Jg64_l7), (8, sv_i Xg39_l8), (9, sv_i Xg50_l9)] [] := by
                                  intro Jg64_l6 Jg64_l7 Jg64_fa_40 σ65 hJg64_l6 hJg64_l7 hJg64_fa_40 okσ65 Iσ65 Fσ65 eσ65_0 eσ65_1 eσ65_2 zt
                                  refine sv_go C.1 C.2.1 [(.iinc 9 1, 3)] (pc' := 326) (by decide +kernel) rfl (lv' := [(0, sv_r a), (1, sv_i ar1), (3, sv_i ar3), (4, sv_i ar4), (5, sv_i ar5), (6, sv_i Jg64_l6), (7, sv_i Jg64_l7), (8, sv_i Xg39_l8), (9, sv_i (Xg50_l9 + 1))]) (st' := []) rfl ?_
                                  refine sv_goto C.1 C.2.1 (off := (-198)) (tgt := 128) (by decide +kernel) (by decide) ?_
                                  exact ih53 Jg64_l6 Jg64_l7 (Xg50_l9 + 1) Jg64_fa_40 σ65 ⟨by omega, by omega⟩ ⟨by omega, by omega⟩ ⟨by omega, by omega⟩ ⟨by omega, by omega⟩ okσ65 Iσ65 Fσ65 eσ65_0 (by omega) (by omega)
                                refine sv_if C.1 C.2.1 (cnd := .lt) (off := 178) (tgt := 323) (by decide +kernel) (by decide) ⟨by omega, by omega⟩ (fun (h63 : v62 < 0) => ?_) (fun (h63 : ¬ (v62 < 0)) => ?_)
                                · exact J66 Xg50_l6 Xg50_l7 Xg50_fa_40 σ51 ⟨by omega, by omega⟩ ⟨by omega, by omega⟩ ⟨by omega, by omega⟩ hok57 Iσ51 Fσ51 eσ51_0 ev61 ev62 (by omega)
                                · refine sv_go C.1 C.2.1 [(.aload_n 0, 1)] (pc' := 149) (by decide +kernel) rfl (lv' := [(0, sv_r a), (1, sv_i ar1), (3, sv_i ar3), (4, sv_i ar4), (5, sv_i ar5), (6, sv_i Xg50_l6), (7, sv_i Xg50_l7), (8, sv_i Xg39_l8), (9, sv_i Xg50_l9)]) (st' := [sv_r a]) rfl ?_
                                  obtain ⟨v67, ev67, kv67⟩ := Iσ51.ref (k := 8) k_a rfl
                                  refine sv_gf C (index := 72) (ci := 10) (k := 8) (r := (RX11, TX11, 47)) (v := sv_r v67) (by decide +kernel) (by rw [k_a]; rfl) rfl (by decide) fl_X11_72 (congrArg sv_a ev67) ?_
                                  refine sv_go C.1 C.2.1 [(.iload_n 1, 1), (.aload_n 0, 1)] (pc' := 154) (by decide +kernel) rfl (lv' := [(0, sv_r a), (1, sv_i ar1), (3, sv_i ar3), (4, sv_i ar4), (5, sv_i ar5), (6, sv_i Xg50_l6), (7, sv_i Xg50_l7), (8, sv_i Xg39_l8), (9, sv_i Xg50_l9)]) (st' := [sv_r a, sv_i ar1, sv_r v67]) rfl ?_
                                  refine sv_gf C (index := 121) (ci := 10) (k := 31) (r := (RX11, TX11, 47)) (v := sv_r v61) (by decide +kernel) (by rw [k_a]; rfl) rfl (by decide) fl_X11_121 (congrArg sv_a ev61) ?_
                                  refine sv_go C.1 C.2.1 [(.iload 9, 2)] (pc' := 159) (by decide +kernel) rfl (lv' := [(0, sv_r a), (1, sv_i ar1), (3, sv_i ar3), (4, sv_i ar4), (5, sv_i ar5), (6, sv_i Xg50_l6), (7, sv_i Xg50_l7), (8, sv_i Xg39_l8), (9, sv_i Xg50_l9)]) (st' := [sv_i Xg50_l9, sv_r v61, sv_i ar1, sv_r v67]) rfl ?_
                                  refine sv_ia C (n := 366) (by decide +kernel) (by rw [kv61]; rfl) (by decide) (by omega) (by omega) ?_
                                  rw [ev62]
                                  refine sv_cs C (index := 166) (k := 2) (rest := [sv_r v67]) (by decide +kernel) (sf_X11_at l g A ty σ51 hok57 hTA Iσ51 (ar1) ⟨by omega, by omega⟩ (v62) ⟨by omega, by omega⟩) ⟨co_X11_at, in_X11, ⟨by decide, by decide, by decide +kernel⟩, Nat.le_of_ble_eq_true rfl, Nat.le_of_ble_eq_true rfl⟩ ml_X11_166 st_X11_at rfl rfl (Nat.le_of_ble_eq_true rfl) ⟨Nat.zero_le _, Nat.zero_le _⟩ (fun r69 σ70 hpo68 hok71 => ?_)
                                  obtain ⟨rfl, ⟨vu72, rfl, hvu72⟩⟩ := hpo68
                                  refine sv_same (st2 := [sv_i vu72, sv_r v67]) (lv2 := [(0, sv_r a), (1, sv_i ar1), (3, sv_i ar3), (4, sv_i ar4), (5, sv_i ar5), (6, sv_i Xg50_l6), (7, sv_i Xg50_l7), (8, sv_i Xg39_l8), (9, sv_i Xg50_l9)]) rfl rfl ?_
                                  refine sv_ia C (n := 300) (by decide +kernel) (by rw [kv67]; rfl) (by decide) (by omega) (by omega) ?_
                                  obtain ⟨v73, ev73, hv73⟩ := sv_rdn Iσ51 (k := (vu72 : Int).toNat) kv67 rfl
                                  rw [ev73]
                                  refine sv_go C.1 C.2.1 [(.iload 4, 2)] (pc' := 166) (by decide +kernel) rfl (lv' := [(0, sv_r a), (1, sv_i ar1), (3, sv_i ar3), (4, sv_i ar4), (5, sv_i ar5), (6, sv_i Xg50_l6), (7, sv_i Xg50_l7), (8, sv_i Xg39_l8), (9, sv_i Xg50_l9)]) (st' := [sv_i ar4, sv_i v73]) rfl ?_
                                  refine sv_icmp C.1 C.2.1 (cnd := .le) (off := 6) (tgt := 172) (by decide +kernel) (by decide) ⟨by omega, by omega⟩ ⟨by omega, by omega⟩ (fun (h74 : v73 ≤ ar4) => ?_) (fun (h74 : ¬ (v73 ≤ ar4)) => ?_)
                                  · refine sv_go C.1 C.2.1 [(.iload 6, 2), (.iconst (-1), 1)] (pc' := 175) (by decide +kernel) rfl (lv' := [(0, sv_r a), (1, sv_i ar1), (3, sv_i ar3), (4, sv_i ar4), (5, sv_i ar5), (6, sv_i Xg50_l6), (7, sv_i Xg50_l7), (8, sv_i Xg39_l8), (9, sv_i Xg50_l9)]) (st' := [sv_i ((-1)), sv_i Xg50_l6]) rfl ?_
                                    have J77 : ∀ (Jg76_s0 : Int), (0 ≤ Jg76_s0 ∧ Jg76_s0 ≤ 1) → sv_E p l e { frames := 6, cells := 0, slots := 0, locals := 138 } s m args below meth c 12 g A ty (fun r σ' => (∃ rv : Int, r = [sv_i rv] ∧ ((-2) ≤ rv ∧ rv ≤ 732000)) ∧ sv_inv sp_1 ty σ' ∧ sv_ofx [(10, 40)] [88, 89, 90, 91, 94, 95, 96, 97, 98, 99] ty σ σ') σ51 198 [(0, sv_r a), (1, sv_i ar1), (3, sv_i ar3), (4, sv_i ar4), (5, sv_i ar5), (6, sv_i Xg50_l6), (8, sv_i Xg39_l8), (9, sv_i Xg50_l9)] [sv_i Jg76_s0] := by
                                      intro Jg76_s0 hJg76_s0
                                      refine sv_go C.1 C.2.1 [(.istore 10, 2), (.aload_n 0, 1), (.iload 5, 2), (.iload 10, 2)] (pc' := 205) (by decide +kernel) rfl (lv' := [(0, sv_r a), (1, sv_i ar1), (3, sv_i ar3), (4, sv_i ar4), (5, sv_i ar5), (6, sv_i Xg50_l6), (8, sv_i Xg39_l8), (9, sv_i Xg50_l9), (10, sv_i Jg76_s0)]) (st' := [sv_i Jg76_s0, sv_i ar5, sv_r a]) rfl ?_
                                      have J80 : ∀ (Jg79_s0 : Int), ((-1) ≤ Jg79_s0 ∧ Jg79_s0 ≤ 9) → sv_E p l e { frames := 6, cells := 0, slots := 0, locals := 138 } s m args below meth c 12 g A ty (fun r σ' => (∃ rv : Int, r = [sv_i rv] ∧ ((-2) ≤ rv ∧ rv ≤ 732000)) ∧ sv_inv sp_1 ty σ' ∧ sv_ofx [(10, 40)] [88, 89, 90, 91, 94, 95, 96, 97, 98, 99] ty σ σ') σ51 214 [(0, sv_r a), (1, sv_i ar1), (3, sv_i ar3), (4, sv_i ar4), (5, sv_i ar5), (8, sv_i Xg39_l8), (9, sv_i Xg50_l9)] [sv_i Jg79_s0, sv_i ar5, sv_r a] := by
                                        intro Jg79_s0 hJg79_s0
                                        refine sv_cv C (index := 325) (k := 2) (rest := []) (ci := 10) (r := (RX11, TX11, 47)) (by decide +kernel) (sf_X11_carrier l g A ty σ51 hok71 hTA Iσ51 a k_a (ar5) ⟨by omega, by omega⟩ (Jg79_s0) ⟨by omega, by omega⟩) ⟨co_X11_carrier, in_X11, ⟨by decide, by decide, by decide +kernel⟩, Nat.le_of_ble_eq_true rfl, Nat.le_of_ble_eq_true rfl⟩ ml_X11_325 im_X11_carrier se_X11_carrier (by rw [k_a]; rfl) rfl rfl rfl (Nat.le_of_ble_eq_true rfl) ⟨Nat.zero_le _, Nat.zero_le _⟩ (fun r82 σ83 hpo81 hok84 => ?_)
                                        obtain ⟨rfl, ⟨vu85, rfl, hvu85⟩⟩ := hpo81
                                        refine sv_same (st2 := [sv_i vu85]) (lv2 := [(0, sv_r a), (1, sv_i ar1), (3, sv_i ar3), (4, sv_i ar4), (5, sv_i ar5), (8, sv_i Xg39_l8), (9, sv_i Xg50_l9)]) rfl rfl ?_
                                        refine sv_go C.1 C.2.1 [(.istore 11, 2), (.aload_n 0, 1)] (pc' := 220) (by decide +kernel) rfl (lv' := [(0, sv_r a), (1, sv_i ar1), (3, sv_i ar3), (4, sv_i ar4), (5, sv_i ar5), (8, sv_i Xg39_l8), (9, sv_i Xg50_l9), (11, sv_i vu85)]) (st' := [sv_r a]) rfl ?_
                                        refine sv_gf C (index := 321) (ci := 10) (k := 40) (r := (RX11, TX11, 47)) (v := sv_i Xg50_fa_40) (by decide +kernel) (by rw [k_a]; rfl) rfl (by decide) fl_X11_321 (congrArg sv_i eσ51_0) ?_
                                        refine sv_go C.1 C.2.1 [(.sipush 600, 3)] (pc' := 226) (by decide +kernel) rfl (lv' := [(0, sv_r a), (1, sv_i ar1), (3, sv_i ar3), (4, sv_i ar4), (5, sv_i ar5), (8, sv_i Xg39_l8), (9, sv_i Xg50_l9), (11, sv_i vu85)]) (st' := [sv_i 600, sv_i Xg50_fa_40]) rfl ?_
                                        have J89 : ∀  (σ88 : Nat → Nat → Int), (sv_ok ty σ88) → (sv_inv sp_1 ty σ88) → (sv_ofx [(10, 40)] [88, 89, 90, 91, 94, 95, 96, 97, 98, 99] ty σ σ88) → (σ88 a 40 = Xg50_fa_40) → (σ88 a 31 = (v61 : Int) + 1) → (σ88 v61 (Xg50_l9 : Int).toNat = v62) → (σ88 a 8 = (v67 : Int) + 1) → (σ88 v67 (vu72 : Int).toNat = v73) → sv_E p l e { frames := 6, cells := 0, slots := 0, locals := 138 } s m args below meth c 12 g A ty (fun r σ' => (∃ rv : Int, r = [sv_i rv] ∧ ((-2) ≤ rv ∧ rv ≤ 732000)) ∧ sv_inv sp_1 ty σ' ∧ sv_ofx [(10, 40)] [88, 89, 90, 91, 94, 95, 96, 97, 98, 99] ty σ σ') σ88 278 [(0, sv_r a), (1, sv_i ar1), (3, sv_i ar3), (4, sv_i ar4), (5, sv_i ar5), (8, sv_i Xg39_l8), (9, sv_i Xg50_l9), (11, sv_i vu85)] [] := by
                                          intro σ88 okσ88 Iσ88 Fσ88 eσ88_0 eσ88_1 eσ88_2 eσ88_3 eσ88_4
                                          refine sv_go C.1 C.2.1 [(.aload_n 0, 1)] (pc' := 279) (by decide +kernel) rfl (lv' := [(0, sv_r a), (1, sv_i ar1), (3, sv_i ar3), (4, sv_i ar4), (5, sv_i ar5), (8, sv_i Xg39_l8), (9, sv_i Xg50_l9), (11, sv_i vu85)]) (st' := [sv_r a]) rfl ?_
                                          obtain ⟨v90, ev90, kv90⟩ := Iσ88.ref (k := 38) k_a rfl
                                          refine sv_gf C (index := 142) (ci := 10) (k := 38) (r := (RX11, TX11, 47)) (v := sv_r v90) (by decide +kernel) (by rw [k_a]; rfl) rfl (by decide) fl_X11_142 (congrArg sv_a ev90) ?_
                                          refine sv_go C.1 C.2.1 [(.iload 11, 2), (.dup2, 1)] (pc' := 285) (by decide +kernel) rfl (lv' := [(0, sv_r a), (1, sv_i ar1), (3, sv_i ar3), (4, sv_i ar4), (5, sv_i ar5), (8, sv_i Xg39_l8), (9, sv_i Xg50_l9), (11, sv_i vu85)]) (st' := [sv_i vu85, sv_r v90, sv_i vu85, sv_r v90]) rfl ?_
                                          refine sv_ia C (n := 10) (by decide +kernel) (by rw [kv90]; rfl) (by decide) (by omega) (by omega) ?_
                                          obtain ⟨v91, ev91, hv91⟩ := sv_rde okσ88 (a := v90) (k := (vu85 : Int).toNat) (n := 10) (by rw [kv90]; rfl) (by omega)
                                          rw [ev91]
                                          refine sv_go C.1 C.2.1 [(.iconst 1, 1), (.iadd, 1)] (pc' := 288) (by decide +kernel) rfl (lv' := [(0, sv_r a), (1, sv_i ar1), (3, sv_i ar3), (4, sv_i ar4), (5, sv_i ar5), (8, sv_i Xg39_l8), (9, sv_i Xg50_l9), (11, sv_i vu85)]) (st' := [sv_i (v91 + 1), sv_i vu85, sv_r v90]) rfl ?_
                                          obtain ⟨w92, hw92, ew92⟩ := sv_wr (v91 + 1)
                                          refine sv_sameD (st2 := [sv_i w92, sv_i vu85, sv_r v90]) (lv2 := [(0, sv_r a), (1, sv_i ar1), (3, sv_i ar3), (4, sv_i ar4), (5, sv_i ar5), (8, sv_i Xg39_l8), (9, sv_i Xg50_l9), (11, sv_i vu85)]) (by simp only [List.map_cons, List.map_nil, sv_den_i, ew92]) rfl ?_
                                          refine sv_is C (n := 10) (by decide +kernel) (by rw [kv90]; rfl) (by decide) (by omega) (by omega) ⟨by omega, by omega⟩ (hTA _ (by rw [kv90]; decide)) okσ88 (fun hok93 => ?_)
                                          have hI95 := Iσ88.up (a := v90) (k := (vu85 : Int).toNat) (z := w92) (by rw [kv90]; exact trivial)
                                          have hF96 := Fσ88.up (a := v90) (k := (vu85 : Int).toNat) (z := w92) (Or.inl (by rw [kv90]; decide))
                                          generalize eσ94 : sv_up σ88 v90 (vu85 : Int).toNat w92 = σ94 at hok93 hI95 hF96 ⊢
                                          have t97 : σ94 a 40 = Xg50_fa_40 := by rw [← eσ94, sv_up_a (sv_ne k_a kv90 (by decide))]; exact eσ88_0
                                          have t98 : σ94 a 31 = (v61 : Int) + 1 := by rw [← eσ94, sv_up_a (sv_ne k_a kv90 (by decide))]; exact eσ88_1
                                          have t99 : σ94 v61 (Xg50_l9 : Int).toNat = v62 := by rw [← eσ94, sv_up_a (sv_ne kv61 kv90 (by decide))]; exact eσ88_2
                                          have t100 : σ94 a 8 = (v67 : Int) + 1 := by rw [← eσ94, sv_up_a (sv_ne k_a kv90 (by decide))]; exact eσ88_3
                                          have t101 : σ94 v67 (vu72 : Int).toNat = v73 := by rw [← eσ94, sv_up_a (sv_ne kv67 kv90 (by decide))]; exact eσ88_4
                                          have t102 : σ94 a 38 = (v90 : Int) + 1 := by rw [← eσ94, sv_up_a (sv_ne k_a kv90 (by decide))]; exact ev90
                                          have t104 : σ94 v90 (vu85 : Int).toNat = w92 := by rw [← eσ94]; exact sv_up_s _ _ _ _
                                          refine sv_go C.1 C.2.1 [(.aload_n 0, 1)] (pc' := 290) (by decide +kernel) rfl (lv' := [(0, sv_r a), (1, sv_i ar1), (3, sv_i ar3), (4, sv_i ar4), (5, sv_i ar5), (8, sv_i Xg39_l8), (9, sv_i Xg50_l9), (11, sv_i vu85)]) (st' := [sv_r a]) rfl ?_
                                          obtain ⟨v105, ev105, kv105⟩ := hI95.ref (k := 39) k_a rfl
                                          refine sv_gf C (index := 145) (ci := 10) (k := 39) (r := (RX11, TX11, 47)) (v := sv_r v105) (by decide +kernel) (by rw [k_a]; rfl) rfl (by decide) fl_X11_145 (congrArg sv_a ev105) ?_
                                          refine sv_go C.1 C.2.1 [(.iload 11, 2), (.aload_n 0, 1)] (pc' := 296) (by decide +kernel) rfl (lv' := [(0, sv_r a), (1, sv_i ar1), (3, sv_i ar3), (4, sv_i ar4), (5, sv_i ar5), (8, sv_i Xg39_l8), (9, sv_i Xg50_l9), (11, sv_i vu85)]) (st' := [sv_r a, sv_i vu85, sv_r v105]) rfl ?_
                                          refine sv_gf C (index := 321) (ci := 10) (k := 40) (r := (RX11, TX11, 47)) (v := sv_i Xg50_fa_40) (by decide +kernel) (by rw [k_a]; rfl) rfl (by decide) fl_X11_321 (congrArg sv_i t97) ?_
                                          refine sv_is C (n := 10) (by decide +kernel) (by rw [kv105]; rfl) (by decide) (by omega) (by omega) ⟨by omega, by omega⟩ (hTA _ (by rw [kv105]; decide)) hok93 (fun hok106 => ?_)
                                          have hI108 := hI95.up (a := v105) (k := (vu85 : Int).toNat) (z := Xg50_fa_40) (by rw [kv105]; exact trivial)
                                          have hF109 := hF96.up (a := v105) (k := (vu85 : Int).toNat) (z := Xg50_fa_40) (Or.inl (by rw [kv105]; decide))
                                          generalize eσ107 : sv_up σ94 v105 (vu85 : Int).toNat Xg50_fa_40 = σ107 at hok106 hI108 hF109 ⊢
                                          have t110 : σ107 a 40 = Xg50_fa_40 := by rw [← eσ107, sv_up_a (sv_ne k_a kv105 (by decide))]; exact t97
                                          have t111 : σ107 a 31 = (v61 : Int) + 1 := by rw [← eσ107, sv_up_a (sv_ne k_a kv105 (by decide))]; exact t98
                                          have t112 : σ107 v61 (Xg50_l9 : Int).toNat = v62 := by rw [← eσ107, sv_up_a (sv_ne kv61 kv105 (by decide))]; exact t99
                                          have t113 : σ107 a 8 = (v67 : Int) + 1 := by rw [← eσ107, sv_up_a (sv_ne k_a kv105 (by decide))]; exact t100
                                          have t114 : σ107 v67 (vu72 : Int).toNat = v73 := by rw [← eσ107, sv_up_a (sv_ne kv67 kv105 (by decide))]; exact t101
                                          have t115 : σ107 a 38 = (v90 : Int) + 1 := by rw [← eσ107, sv_up_a (sv_ne k_a kv105 (by decide))]; exact t102
                                          have t116 : σ107 v90 (vu85 : Int).toNat = w92 := by rw [← eσ107, sv_up_a (sv_ne kv90 kv105 (by decide))]; exact t104
                                          have t117 : σ107 a 39 = (v105 : Int) + 1 := by rw [← eσ107, sv_up_a (sv_ne k_a kv105 (by decide))]; exact ev105
                                          have t118 : σ107 v105 (vu85 : Int).toNat = Xg50_fa_40 := by rw [← eσ107]; exact sv_up_s _ _ _ _
                                          refine sv_go C.1 C.2.1 [(.aload_n 0, 1), (.dup, 1)] (pc' := 302) (by decide +kernel) rfl (lv' := [(0, sv_r a), (1, sv_i ar1), (3, sv_i ar3), (4, sv_i ar4), (5, sv_i ar5), (8, sv_i Xg39_l8), (9, sv_i Xg50_l9), (11, sv_i vu85)]) (st' := [sv_r a, sv_r a]) rfl ?_
                                          refine sv_gf C (index := 321) (ci := 10) (k := 40) (r := (RX11, TX11, 47)) (v := sv_i Xg50_fa_40) (by decide +kernel) (by rw [k_a]; rfl) rfl (by decide) fl_X11_321 (congrArg sv_i t110) ?_
                                          refine sv_go C.1 C.2.1 [(.iconst 1, 1), (.iadd, 1)] (pc' := 307) (by decide +kernel) rfl (lv' := [(0, sv_r a), (1, sv_i ar1), (3, sv_i ar3), (4, sv_i ar4), (5, sv_i ar5), (8, sv_i Xg39_l8), (9, sv_i Xg50_l9), (11, sv_i vu85)]) (st' := [sv_i (Xg50_fa_40 + 1), sv_r a]) rfl ?_
                                          refine sv_pf C (index := 321) (ci := 10) (k := 40) (r := (RX11, TX11, 47)) (z := Xg50_fa_40 + 1) (by decide +kernel) (by rw [k_a]; rfl) rfl (by decide) rfl fl_X11_321 rfl (Or.inl rfl) ⟨by omega, by omega⟩ (hTA _ (by rw [k_a]; decide)) hok106 (fun hok119 => ?_)
                                          have hI121 := hI108.up (a := a) (k := 40) (z := Xg50_fa_40 + 1) (by rw [k_a]; exact ⟨by omega, by omega⟩)
                                          have hF122 := hF109.up (a := a) (k := 40) (z := Xg50_fa_40 + 1) (Or.inr (by rw [k_a]; decide))
                                          generalize eσ120 : sv_up σ107 a 40 (Xg50_fa_40 + 1) = σ120 at hok119 hI121 hF122 ⊢
                                          have t123 : σ120 a 31 = (v61 : Int) + 1 := by rw [← eσ120, sv_up_k (by decide)]; exact t111
                                          have t124 : σ120 v61 (Xg50_l9 : Int).toNat = v62 := by rw [← eσ120, sv_up_a (sv_ne kv61 k_a (by decide))]; exact t112
                                          have t125 : σ120 a 8 = (v67 : Int) + 1 := by rw [← eσ120, sv_up_k (by decide)]; exact t113
                                          have t126 : σ120 v67 (vu72 : Int).toNat = v73 := by rw [← eσ120, sv_up_a (sv_ne kv67 k_a (by decide))]; exact t114
                                          have t127 : σ120 a 38 = (v90 : Int) + 1 := by rw [← eσ120, sv_up_k (by decide)]; exact t115
                                          have t128 : σ120 v90 (vu85 : Int).toNat = w92 := by rw [← eσ120, sv_up_a (sv_ne kv90 k_a (by decide))]; exact t116
                                          have t129 : σ120 a 39 = (v105 : Int) + 1 := by rw [← eσ120, sv_up_k (by decide)]; exact t117
                                          have t130 : σ120 v105 (vu85 : Int).toNat = Xg50_fa_40 := by rw [← eσ120, sv_up_a (sv_ne kv105 k_a (by decide))]; exact t118
                                          have t131 : σ120 a 40 = Xg50_fa_40 + 1 := by rw [← eσ120]; exact sv_up_s _ _ _ _
                                          refine sv_go C.1 C.2.1 [(.iload 11, 2), (.istore 6, 2), (.iload 8, 2), (.iload 9, 2)] (pc' := 318) (by decide +kernel) rfl (lv' := [(0, sv_r a), (1, sv_i ar1), (3, sv_i ar3), (4, sv_i ar4), (5, sv_i ar5), (6, sv_i vu85), (8, sv_i Xg39_l8), (9, sv_i Xg50_l9), (11, sv_i vu85)]) (st' := [sv_i Xg50_l9, sv_i Xg39_l8]) rfl ?_
                                          refine sv_cs C (index := 20) (k := 2) (rest := []) (by decide +kernel) (ct_X11_dayCount l g A ty σ120 hok119 (Xg39_l8) ⟨by omega, by omega⟩ (Xg50_l9) ⟨by omega, by omega⟩) ⟨co_X11_dayCount, in_X11, ⟨by decide, by decide, by decide +kernel⟩, Nat.le_of_ble_eq_true rfl, Nat.le_of_ble_eq_true rfl⟩ ml_X11_20 st_X11_dayCount rfl rfl (Nat.le_of_ble_eq_true rfl) ⟨Nat.zero_le _, Nat.zero_le _⟩ (fun r133 σ134 hpo132 hok135 => ?_)
                                          obtain ⟨rfl, rfl⟩ := hpo132
                                          refine sv_same (st2 := [sv_i (365 * (Xg39_l8 - 1) + (Xg39_l8 - 1) / 4 + Xg50_l9)]) (lv2 := [(0, sv_r a), (1, sv_i ar1), (3, sv_i ar3), (4, sv_i ar4), (5, sv_i ar5), (6, sv_i vu85), (8, sv_i Xg39_l8), (9, sv_i Xg50_l9), (11, sv_i vu85)]) rfl rfl ?_
                                          refine sv_go C.1 C.2.1 [(.istore 7, 2)] (pc' := 323) (by decide +kernel) rfl (lv' := [(0, sv_r a), (1, sv_i ar1), (3, sv_i ar3), (4, sv_i ar4), (5, sv_i ar5), (6, sv_i vu85), (7, sv_i (365 * (Xg39_l8 - 1) + (Xg39_l8 - 1) / 4 + Xg50_l9)), (8, sv_i Xg39_l8), (9, sv_i Xg50_l9), (11, sv_i vu85)]) (st' := []) rfl ?_
                                          refine sv_pick [0, 1, 2, 3, 4, 5, 6, 7, 8] (lv2 := [(0, sv_r a), (1, sv_i ar1), (3, sv_i ar3), (4, sv_i ar4), (5, sv_i ar5), (6, sv_i vu85), (7, sv_i (365 * (Xg39_l8 - 1) + (Xg39_l8 - 1) / 4 + Xg50_l9)), (8, sv_i Xg39_l8), (9, sv_i Xg50_l9)]) rfl ?_
                                          exact J66 vu85 (365 * (Xg39_l8 - 1) + (Xg39_l8 - 1) / 4 + Xg50_l9) (Xg50_fa_40 + 1) σ120 ⟨by omega, by omega⟩ ⟨by omega, by omega⟩ ⟨by omega, by omega⟩ hok135 hI121 hF122 t131 t123 t124 (by omega)
                                        refine sv_icmp C.1 C.2.1 (cnd := .ge) (off := 52) (tgt := 278) (by decide +kernel) (by decide) ⟨by omega, by omega⟩ ⟨by omega, by omega⟩ (fun (h86 : 600 ≤ Xg50_fa_40) => ?_) (fun (h86 : ¬ (600 ≤ Xg50_fa_40)) => ?_)
                                        · exact J89 σ51 hok84 Iσ51 Fσ51 eσ51_0 ev61 ev62 ev67 ev73
                                        · refine sv_go C.1 C.2.1 [(.aload_n 0, 1)] (pc' := 230) (by decide +kernel) rfl (lv' := [(0, sv_r a), (1, sv_i ar1), (3, sv_i ar3), (4, sv_i ar4), (5, sv_i ar5), (8, sv_i Xg39_l8), (9, sv_i Xg50_l9), (11, sv_i vu85)]) (st' := [sv_r a]) rfl ?_
                                          obtain ⟨v137, ev137, kv137⟩ := Iσ51.ref (k := 34) k_a rfl
                                          refine sv_gf C (index := 130) (ci := 10) (k := 34) (r := (RX11, TX11, 47)) (v := sv_r v137) (by decide +kernel) (by rw [k_a]; rfl) rfl (by decide) fl_X11_130 (congrArg sv_a ev137) ?_
                                          refine sv_go C.1 C.2.1 [(.aload_n 0, 1)] (pc' := 234) (by decide +kernel) rfl (lv' := [(0, sv_r a), (1, sv_i ar1), (3, sv_i ar3), (4, sv_i ar4), (5, sv_i ar5), (8, sv_i Xg39_l8), (9, sv_i Xg50_l9), (11, sv_i vu85)]) (st' := [sv_r a, sv_r v137]) rfl ?_
                                          refine sv_gf C (index := 321) (ci := 10) (k := 40) (r := (RX11, TX11, 47)) (v := sv_i Xg50_fa_40) (by decide +kernel) (by rw [k_a]; rfl) rfl (by decide) fl_X11_321 (congrArg sv_i eσ51_0) ?_
                                          refine sv_go C.1 C.2.1 [(.iload 8, 2)] (pc' := 239) (by decide +kernel) rfl (lv' := [(0, sv_r a), (1, sv_i ar1), (3, sv_i ar3), (4, sv_i ar4), (5, sv_i ar5), (8, sv_i Xg39_l8), (9, sv_i Xg50_l9), (11, sv_i vu85)]) (st' := [sv_i Xg39_l8, sv_i Xg50_fa_40, sv_r v137]) rfl ?_
                                          refine sv_is C (n := 600) (by decide +kernel) (by rw [kv137]; rfl) (by decide) (by omega) (by omega) ⟨by omega, by omega⟩ (hTA _ (by rw [kv137]; decide)) hok84 (fun hok138 => ?_)
                                          have hI140 := Iσ51.up (a := v137) (k := (Xg50_fa_40 : Int).toNat) (z := Xg39_l8) (by rw [kv137]; exact trivial)
                                          have hF141 := Fσ51.up (a := v137) (k := (Xg50_fa_40 : Int).toNat) (z := Xg39_l8) (Or.inl (by rw [kv137]; decide))
                                          generalize eσ139 : sv_up σ51 v137 (Xg50_fa_40 : Int).toNat Xg39_l8 = σ139 at hok138 hI140 hF141 ⊢
                                          have t142 : σ139 a 40 = Xg50_fa_40 := by rw [← eσ139, sv_up_a (sv_ne k_a kv137 (by decide))]; exact eσ51_0
                                          have t143 : σ139 a 31 = (v61 : Int) + 1 := by rw [← eσ139, sv_up_a (sv_ne k_a kv137 (by decide))]; exact ev61
                                          have t144 : σ139 v61 (Xg50_l9 : Int).toNat = v62 := by rw [← eσ139, sv_up_a (sv_ne kv61 kv137 (by decide))]; exact ev62
                                          have t145 : σ139 a 8 = (v67 : Int) + 1 := by rw [← eσ139, sv_up_a (sv_ne k_a kv137 (by decide))]; exact ev67
                                          have t146 : σ139 v67 (vu72 : Int).toNat = v73 := by rw [← eσ139, sv_up_a (sv_ne kv67 kv137 (by decide))]; exact ev73
                                          have t147 : σ139 a 34 = (v137 : Int) + 1 := by rw [← eσ139, sv_up_a (sv_ne k_a kv137 (by decide))]; exact ev137
                                          have t148 : σ139 v137 (Xg50_fa_40 : Int).toNat = Xg39_l8 := by rw [← eσ139]; exact sv_up_s _ _ _ _
                                          refine sv_go C.1 C.2.1 [(.aload_n 0, 1)] (pc' := 241) (by decide +kernel) rfl (lv' := [(0, sv_r a), (1, sv_i ar1), (3, sv_i ar3), (4, sv_i ar4), (5, sv_i ar5), (8, sv_i Xg39_l8), (9, sv_i Xg50_l9), (11, sv_i vu85)]) (st' := [sv_r a]) rfl ?_
                                          obtain ⟨v149, ev149, kv149⟩ := hI140.ref (k := 35) k_a rfl
                                          refine sv_gf C (index := 133) (ci := 10) (k := 35) (r := (RX11, TX11, 47)) (v := sv_r v149) (by decide +kernel) (by rw [k_a]; rfl) rfl (by decide) fl_X11_133 (congrArg sv_a ev149) ?_
                                          refine sv_go C.1 C.2.1 [(.aload_n 0, 1)] (pc' := 245) (by decide +kernel) rfl (lv' := [(0, sv_r a), (1, sv_i ar1), (3, sv_i ar3), (4, sv_i ar4), (5, sv_i ar5), (8, sv_i Xg39_l8), (9, sv_i Xg50_l9), (11, sv_i vu85)]) (st' := [sv_r a, sv_r v149]) rfl ?_
                                          refine sv_gf C (index := 321) (ci := 10) (k := 40) (r := (RX11, TX11, 47)) (v := sv_i Xg50_fa_40) (by decide +kernel) (by rw [k_a]; rfl) rfl (by decide) fl_X11_321 (congrArg sv_i t142) ?_
                                          refine sv_go C.1 C.2.1 [(.iload 9, 2)] (pc' := 250) (by decide +kernel) rfl (lv' := [(0, sv_r a), (1, sv_i ar1), (3, sv_i ar3), (4, sv_i ar4), (5, sv_i ar5), (8, sv_i Xg39_l8), (9, sv_i Xg50_l9), (11, sv_i vu85)]) (st' := [sv_i Xg50_l9, sv_i Xg50_fa_40, sv_r v149]) rfl ?_
                                          refine sv_is C (n := 600) (by decide +kernel) (by rw [kv149]; rfl) (by decide) (by omega) (by omega) ⟨by omega, by omega⟩ (hTA _ (by rw [kv149]; decide)) hok138 (fun hok150 => ?_)
                                          have hI152 := hI140.up (a := v149) (k := (Xg50_fa_40 : Int).toNat) (z := Xg50_l9) (by rw [kv149]; exact trivial)
                                          have hF153 := hF141.up (a := v149) (k := (Xg50_fa_40 : Int).toNat) (z := Xg50_l9) (Or.inl (by rw [kv149]; decide))
                                          generalize eσ151 : sv_up σ139 v149 (Xg50_fa_40 : Int).toNat Xg50_l9 = σ151 at hok150 hI152 hF153 ⊢
                                          have t154 : σ151 a 40 = Xg50_fa_40 := by rw [← eσ151, sv_up_a (sv_ne k_a kv149 (by decide))]; exact t142
                                          have t155 : σ151 a 31 = (v61 : Int) + 1 := by rw [← eσ151, sv_up_a (sv_ne k_a kv149 (by decide))]; exact t143
                                          have t156 : σ151 v61 (Xg50_l9 : Int).toNat = v62 := by rw [← eσ151, sv_up_a (sv_ne kv61 kv149 (by decide))]; exact t144
                                          have t157 : σ151 a 8 = (v67 : Int) + 1 := by rw [← eσ151, sv_up_a (sv_ne k_a kv149 (by decide))]; exact t145
                                          have t158 : σ151 v67 (vu72 : Int).toNat = v73 := by rw [← eσ151, sv_up_a (sv_ne kv67 kv149 (by decide))]; exact t146
                                          have t159 : σ151 a 34 = (v137 : Int) + 1 := by rw [← eσ151, sv_up_a (sv_ne k_a kv149 (by decide))]; exact t147
                                          have t160 : σ151 v137 (Xg50_fa_40 : Int).toNat = Xg39_l8 := by rw [← eσ151, sv_up_a (sv_ne kv137 kv149 (by decide))]; exact t148
                                          have t161 : σ151 a 35 = (v149 : Int) + 1 := by rw [← eσ151, sv_up_a (sv_ne k_a kv149 (by decide))]; exact ev149
                                          have t162 : σ151 v149 (Xg50_fa_40 : Int).toNat = Xg50_l9 := by rw [← eσ151]; exact sv_up_s _ _ _ _
                                          refine sv_go C.1 C.2.1 [(.aload_n 0, 1)] (pc' := 252) (by decide +kernel) rfl (lv' := [(0, sv_r a), (1, sv_i ar1), (3, sv_i ar3), (4, sv_i ar4), (5, sv_i ar5), (8, sv_i Xg39_l8), (9, sv_i Xg50_l9), (11, sv_i vu85)]) (st' := [sv_r a]) rfl ?_
                                          obtain ⟨v163, ev163, kv163⟩ := hI152.ref (k := 36) k_a rfl
                                          refine sv_gf C (index := 136) (ci := 10) (k := 36) (r := (RX11, TX11, 47)) (v := sv_r v163) (by decide +kernel) (by rw [k_a]; rfl) rfl (by decide) fl_X11_136 (congrArg sv_a ev163) ?_
                                          refine sv_go C.1 C.2.1 [(.aload_n 0, 1)] (pc' := 256) (by decide +kernel) rfl (lv' := [(0, sv_r a), (1, sv_i ar1), (3, sv_i ar3), (4, sv_i ar4), (5, sv_i ar5), (8, sv_i Xg39_l8), (9, sv_i Xg50_l9), (11, sv_i vu85)]) (st' := [sv_r a, sv_r v163]) rfl ?_
                                          refine sv_gf C (index := 321) (ci := 10) (k := 40) (r := (RX11, TX11, 47)) (v := sv_i Xg50_fa_40) (by decide +kernel) (by rw [k_a]; rfl) rfl (by decide) fl_X11_321 (congrArg sv_i t154) ?_
                                          refine sv_go C.1 C.2.1 [(.aload_n 0, 1)] (pc' := 260) (by decide +kernel) rfl (lv' := [(0, sv_r a), (1, sv_i ar1), (3, sv_i ar3), (4, sv_i ar4), (5, sv_i ar5), (8, sv_i Xg39_l8), (9, sv_i Xg50_l9), (11, sv_i vu85)]) (st' := [sv_r a, sv_i Xg50_fa_40, sv_r v163]) rfl ?_
                                          refine sv_gf C (index := 121) (ci := 10) (k := 31) (r := (RX11, TX11, 47)) (v := sv_r v61) (by decide +kernel) (by rw [k_a]; rfl) rfl (by decide) fl_X11_121 (congrArg sv_a t155) ?_
                                          refine sv_go C.1 C.2.1 [(.iload 9, 2)] (pc' := 265) (by decide +kernel) rfl (lv' := [(0, sv_r a), (1, sv_i ar1), (3, sv_i ar3), (4, sv_i ar4), (5, sv_i ar5), (8, sv_i Xg39_l8), (9, sv_i Xg50_l9), (11, sv_i vu85)]) (st' := [sv_i Xg50_l9, sv_r v61, sv_i Xg50_fa_40, sv_r v163]) rfl ?_
                                          refine sv_ia C (n := 366) (by decide +kernel) (by rw [kv61]; rfl) (by decide) (by omega) (by omega) ?_
                                          rw [t156]
                                          refine sv_is C (n := 600) (by decide +kernel) (by rw [kv163]; rfl) (by decide) (by omega) (by omega) ⟨by omega, by omega⟩ (hTA _ (by rw [kv163]; decide)) hok150 (fun hok164 => ?_)
                                          have hI166 := hI152.up (a := v163) (k := (Xg50_fa_40 : Int).toNat) (z := v62) (by rw [kv163]; exact trivial)
                                          have hF167 := hF153.up (a := v163) (k := (Xg50_fa_40 : Int).toNat) (z := v62) (Or.inl (by rw [kv163]; decide))
                                          generalize eσ165 : sv_up σ151 v163 (Xg50_fa_40 : Int).toNat v62 = σ165 at hok164 hI166 hF167 ⊢
                                          have t168 : σ165 a 40 = Xg50_fa_40 := by rw [← eσ165, sv_up_a (sv_ne k_a kv163 (by decide))]; exact t154
                                          have t169 : σ165 a 31 = (v61 : Int) + 1 := by rw [← eσ165, sv_up_a (sv_ne k_a kv163 (by decide))]; exact t155
                                          have t170 : σ165 v61 (Xg50_l9 : Int).toNat = v62 := by rw [← eσ165, sv_up_a (sv_ne kv61 kv163 (by decide))]; exact t156
                                          have t171 : σ165 a 8 = (v67 : Int) + 1 := by rw [← eσ165, sv_up_a (sv_ne k_a kv163 (by decide))]; exact t157
                                          have t172 : σ165 v67 (vu72 : Int).toNat = v73 := by rw [← eσ165, sv_up_a (sv_ne kv67 kv163 (by decide))]; exact t158
                                          have t173 : σ165 a 34 = (v137 : Int) + 1 := by rw [← eσ165, sv_up_a (sv_ne k_a kv163 (by decide))]; exact t159
                                          have t174 : σ165 v137 (Xg50_fa_40 : Int).toNat = Xg39_l8 := by rw [← eσ165, sv_up_a (sv_ne kv137 kv163 (by decide))]; exact t160
                                          have t175 : σ165 a 35 = (v149 : Int) + 1 := by rw [← eσ165, sv_up_a (sv_ne k_a kv163 (by decide))]; exact t161
                                          have t176 : σ165 v149 (Xg50_fa_40 : Int).toNat = Xg50_l9 := by rw [← eσ165, sv_up_a (sv_ne kv149 kv163 (by decide))]; exact t162
                                          have t177 : σ165 a 36 = (v163 : Int) + 1 := by rw [← eσ165, sv_up_a (sv_ne k_a kv163 (by decide))]; exact ev163
                                          have t178 : σ165 v163 (Xg50_fa_40 : Int).toNat = v62 := by rw [← eσ165]; exact sv_up_s _ _ _ _
                                          refine sv_go C.1 C.2.1 [(.aload_n 0, 1)] (pc' := 268) (by decide +kernel) rfl (lv' := [(0, sv_r a), (1, sv_i ar1), (3, sv_i ar3), (4, sv_i ar4), (5, sv_i ar5), (8, sv_i Xg39_l8), (9, sv_i Xg50_l9), (11, sv_i vu85)]) (st' := [sv_r a]) rfl ?_
                                          obtain ⟨v179, ev179, kv179⟩ := hI166.ref (k := 37) k_a rfl
                                          refine sv_gf C (index := 139) (ci := 10) (k := 37) (r := (RX11, TX11, 47)) (v := sv_r v179) (by decide +kernel) (by rw [k_a]; rfl) rfl (by decide) fl_X11_139 (congrArg sv_a ev179) ?_
                                          refine sv_go C.1 C.2.1 [(.aload_n 0, 1)] (pc' := 272) (by decide +kernel) rfl (lv' := [(0, sv_r a), (1, sv_i ar1), (3, sv_i ar3), (4, sv_i ar4), (5, sv_i ar5), (8, sv_i Xg39_l8), (9, sv_i Xg50_l9), (11, sv_i vu85)]) (st' := [sv_r a, sv_r v179]) rfl ?_
                                          refine sv_gf C (index := 321) (ci := 10) (k := 40) (r := (RX11, TX11, 47)) (v := sv_i Xg50_fa_40) (by decide +kernel) (by rw [k_a]; rfl) rfl (by decide) fl_X11_321 (congrArg sv_i t168) ?_
                                          refine sv_go C.1 C.2.1 [(.iload 11, 2)] (pc' := 277) (by decide +kernel) rfl (lv' := [(0, sv_r a), (1, sv_i ar1), (3, sv_i ar3), (4, sv_i ar4), (5, sv_i ar5), (8, sv_i Xg39_l8), (9, sv_i Xg50_l9), (11, sv_i vu85)]) (st' := [sv_i vu85, sv_i Xg50_fa_40, sv_r v179]) rfl ?_
                                          refine sv_is C (n := 600) (by decide +kernel) (by rw [kv179]; rfl) (by decide) (by omega) (by omega) ⟨by omega, by omega⟩ (hTA _ (by rw [kv179]; decide)) hok164 (fun hok180 => ?_)
                                          have hI182 := hI166.up (a := v179) (k := (Xg50_fa_40 : Int).toNat) (z := vu85) (by rw [kv179]; exact trivial)
                                          have hF183 := hF167.up (a := v179) (k := (Xg50_fa_40 : Int).toNat) (z := vu85) (Or.inl (by rw [kv179]; decide))
                                          generalize eσ181 : sv_up σ165 v179 (Xg50_fa_40 : Int).toNat vu85 = σ181 at hok180 hI182 hF183 ⊢
                                          have t184 : σ181 a 40 = Xg50_fa_40 := by rw [← eσ181, sv_up_a (sv_ne k_a kv179 (by decide))]; exact t168
                                          have t185 : σ181 a 31 = (v61 : Int) + 1 := by rw [← eσ181, sv_up_a (sv_ne k_a kv179 (by decide))]; exact t169
                                          have t186 : σ181 v61 (Xg50_l9 : Int).toNat = v62 := by rw [← eσ181, sv_up_a (sv_ne kv61 kv179 (by decide))]; exact t170
                                          have t187 : σ181 a 8 = (v67 : Int) + 1 := by rw [← eσ181, sv_up_a (sv_ne k_a kv179 (by decide))]; exact t171
                                          have t188 : σ181 v67 (vu72 : Int).toNat = v73 := by rw [← eσ181, sv_up_a (sv_ne kv67 kv179 (by decide))]; exact t172
                                          have t189 : σ181 a 34 = (v137 : Int) + 1 := by rw [← eσ181, sv_up_a (sv_ne k_a kv179 (by decide))]; exact t173
                                          have t190 : σ181 v137 (Xg50_fa_40 : Int).toNat = Xg39_l8 := by rw [← eσ181, sv_up_a (sv_ne kv137 kv179 (by decide))]; exact t174
                                          have t191 : σ181 a 35 = (v149 : Int) + 1 := by rw [← eσ181, sv_up_a (sv_ne k_a kv179 (by decide))]; exact t175
                                          have t192 : σ181 v149 (Xg50_fa_40 : Int).toNat = Xg50_l9 := by rw [← eσ181, sv_up_a (sv_ne kv149 kv179 (by decide))]; exact t176
                                          have t193 : σ181 a 36 = (v163 : Int) + 1 := by rw [← eσ181, sv_up_a (sv_ne k_a kv179 (by decide))]; exact t177
                                          have t194 : σ181 v163 (Xg50_fa_40 : Int).toNat = v62 := by rw [← eσ181, sv_up_a (sv_ne kv163 kv179 (by decide))]; exact t178
                                          have t195 : σ181 a 37 = (v179 : Int) + 1 := by rw [← eσ181, sv_up_a (sv_ne k_a kv179 (by decide))]; exact ev179
                                          have t196 : σ181 v179 (Xg50_fa_40 : Int).toNat = vu85 := by rw [← eσ181]; exact sv_up_s _ _ _ _
                                          exact J89 σ181 hok180 hI182 hF183 t184 t185 t186 t187 t188
                                      refine sv_if C.1 C.2.1 (cnd := .eq) (off := 8) (tgt := 213) (by decide +kernel) (by decide) ⟨by omega, by omega⟩ (fun (h78 : Jg76_s0 = 0) => ?_) (fun (h78 : ¬ (Jg76_s0 = 0)) => ?_)
                                      · refine sv_go C.1 C.2.1 [(.iconst (-1), 1)] (pc' := 214) (by decide +kernel) rfl (lv' := [(0, sv_r a), (1, sv_i ar1), (3, sv_i ar3), (4, sv_i ar4), (5, sv_i ar5), (6, sv_i Xg50_l6), (8, sv_i Xg39_l8), (9, sv_i Xg50_l9), (10, sv_i Jg76_s0)]) (st' := [sv_i ((-1)), sv_i ar5, sv_r a]) rfl ?_
                                        refine sv_pick [0, 1, 2, 3, 4, 6, 7] (lv2 := [(0, sv_r a), (1, sv_i ar1), (3, sv_i ar3), (4, sv_i ar4), (5, sv_i ar5), (8, sv_i Xg39_l8), (9, sv_i Xg50_l9)]) rfl ?_
                                        exact J80 ((-1)) ⟨by omega, by omega⟩
                                      · refine sv_go C.1 C.2.1 [(.iload 6, 2)] (pc' := 210) (by decide +kernel) rfl (lv' := [(0, sv_r a), (1, sv_i ar1), (3, sv_i ar3), (4, sv_i ar4), (5, sv_i ar5), (6, sv_i Xg50_l6), (8, sv_i Xg39_l8), (9, sv_i Xg50_l9), (10, sv_i Jg76_s0)]) (st' := [sv_i Xg50_l6, sv_i ar5, sv_r a]) rfl ?_
                                        refine sv_goto C.1 C.2.1 (off := 4) (tgt := 214) (by decide +kernel) (by decide) ?_
                                        refine sv_pick [0, 1, 2, 3, 4, 6, 7] (lv2 := [(0, sv_r a), (1, sv_i ar1), (3, sv_i ar3), (4, sv_i ar4), (5, sv_i ar5), (8, sv_i Xg39_l8), (9, sv_i Xg50_l9)]) rfl ?_
                                        exact J80 Xg50_l6 ⟨by omega, by omega⟩
                                    refine sv_icmp C.1 C.2.1 (cnd := .eq) (off := 22) (tgt := 197) (by decide +kernel) (by decide) ⟨by omega, by omega⟩ ⟨by omega, by omega⟩ (fun (h75 : Xg50_l6 = ((-1))) => ?_) (fun (h75 : ¬ (Xg50_l6 = ((-1)))) => ?_)
                                    · refine sv_go C.1 C.2.1 [(.iconst 0, 1)] (pc' := 198) (by decide +kernel) rfl (lv' := [(0, sv_r a), (1, sv_i ar1), (3, sv_i ar3), (4, sv_i ar4), (5, sv_i ar5), (6, sv_i Xg50_l6), (7, sv_i Xg50_l7), (8, sv_i Xg39_l8), (9, sv_i Xg50_l9)]) (st' := [sv_i 0]) rfl ?_
                                      refine sv_pick [0, 1, 2, 3, 4, 5, 7, 8] (lv2 := [(0, sv_r a), (1, sv_i ar1), (3, sv_i ar3), (4, sv_i ar4), (5, sv_i ar5), (6, sv_i Xg50_l6), (8, sv_i Xg39_l8), (9, sv_i Xg50_l9)]) rfl ?_
                                      exact J77 0 ⟨by omega, by omega⟩
                                    · refine sv_go C.1 C.2.1 [(.iload 8, 2), (.iload 9, 2)] (pc' := 182) (by decide +kernel) rfl (lv' := [(0, sv_r a), (1, sv_i ar1), (3, sv_i ar3), (4, sv_i ar4), (5, sv_i ar5), (6, sv_i Xg50_l6), (7, sv_i Xg50_l7), (8, sv_i Xg39_l8), (9, sv_i Xg50_l9)]) (st' := [sv_i Xg50_l9, sv_i Xg39_l8]) rfl ?_
                                      refine sv_cs C (index := 20) (k := 2) (rest := []) (by decide +kernel) (ct_X11_dayCount l g A ty σ51 hok71 (Xg39_l8) ⟨by omega, by omega⟩ (Xg50_l9) ⟨by omega, by omega⟩) ⟨co_X11_dayCount, in_X11, ⟨by decide, by decide, by decide +kernel⟩, Nat.le_of_ble_eq_true rfl, Nat.le_of_ble_eq_true rfl⟩ ml_X11_20 st_X11_dayCount rfl rfl (Nat.le_of_ble_eq_true rfl) ⟨Nat.zero_le _, Nat.zero_le _⟩ (fun r198 σ199 hpo197 hok200 => ?_)
                                      obtain ⟨rfl, rfl⟩ := hpo197
                                      refine sv_same (st2 := [sv_i (365 * (Xg39_l8 - 1) + (Xg39_l8 - 1) / 4 + Xg50_l9)]) (lv2 := [(0, sv_r a), (1, sv_i ar1), (3, sv_i ar3), (4, sv_i ar4), (5, sv_i ar5), (6, sv_i Xg50_l6), (7, sv_i Xg50_l7), (8, sv_i Xg39_l8), (9, sv_i Xg50_l9)]) rfl rfl ?_
                                      refine sv_go C.1 C.2.1 [(.iload 7, 2), (.isub, 1), (.bipush 7, 2)] (pc' := 190) (by decide +kernel) rfl (lv' := [(0, sv_r a), (1, sv_i ar1), (3, sv_i ar3), (4, sv_i ar4), (5, sv_i ar5), (6, sv_i Xg50_l6), (7, sv_i Xg50_l7), (8, sv_i Xg39_l8), (9, sv_i Xg50_l9)]) (st' := [sv_i 7, sv_i ((365 * (Xg39_l8 - 1) + (Xg39_l8 - 1) / 4 + Xg50_l9) - Xg50_l7)]) rfl ?_
                                      refine sv_icmp C.1 C.2.1 (cnd := .gt) (off := 7) (tgt := 197) (by decide +kernel) (by decide) ⟨by omega, by omega⟩ ⟨by omega, by omega⟩ (fun (h202 : 7 < ((365 * (Xg39_l8 - 1) + (Xg39_l8 - 1) / 4 + Xg50_l9) - Xg50_l7)) => ?_) (fun (h202 : ¬ (7 < ((365 * (Xg39_l8 - 1) + (Xg39_l8 - 1) / 4 + Xg50_l9) - Xg50_l7))) => ?_)
                                      · refine sv_go C.1 C.2.1 [(.iconst 0, 1)] (pc' := 198) (by decide +kernel) rfl (lv' := [(0, sv_r a), (1, sv_i ar1), (3, sv_i ar3), (4, sv_i ar4), (5, sv_i ar5), (6, sv_i Xg50_l6), (7, sv_i Xg50_l7), (8, sv_i Xg39_l8), (9, sv_i Xg50_l9)]) (st' := [sv_i 0]) rfl ?_
                                        refine sv_pick [0, 1, 2, 3, 4, 5, 7, 8] (lv2 := [(0, sv_r a), (1, sv_i ar1), (3, sv_i ar3), (4, sv_i ar4), (5, sv_i ar5), (6, sv_i Xg50_l6), (8, sv_i Xg39_l8), (9, sv_i Xg50_l9)]) rfl ?_
                                        exact J77 0 ⟨by omega, by omega⟩
                                      · refine sv_go C.1 C.2.1 [(.iconst 1, 1)] (pc' := 194) (by decide +kernel) rfl (lv' := [(0, sv_r a), (1, sv_i ar1), (3, sv_i ar3), (4, sv_i ar4), (5, sv_i ar5), (6, sv_i Xg50_l6), (7, sv_i Xg50_l7), (8, sv_i Xg39_l8), (9, sv_i Xg50_l9)]) (st' := [sv_i 1]) rfl ?_
                                        refine sv_goto C.1 C.2.1 (off := 4) (tgt := 198) (by decide +kernel) (by decide) ?_
                                        refine sv_pick [0, 1, 2, 3, 4, 5, 7, 8] (lv2 := [(0, sv_r a), (1, sv_i ar1), (3, sv_i ar3), (4, sv_i ar4), (5, sv_i ar5), (6, sv_i Xg50_l6), (8, sv_i Xg39_l8), (9, sv_i Xg50_l9)]) rfl ?_
                                        exact J77 1 ⟨by omega, by omega⟩
                                  · refine sv_goto C.1 C.2.1 (off := 154) (tgt := 323) (by decide +kernel) (by decide) ?_
                                    exact J66 Xg50_l6 Xg50_l7 Xg50_fa_40 σ51 ⟨by omega, by omega⟩ ⟨by omega, by omega⟩ ⟨by omega, by omega⟩ hok71 Iσ51 Fσ51 eσ51_0 ev61 ev62 (by omega)
                          exact L52 (((366 - 0 : Int)).toNat + 1) Xg39_l6 Xg39_l7 0 Xg39_fa_40 σ46 ⟨by omega, by omega⟩ ⟨by omega, by omega⟩ ⟨by omega, by omega⟩ ⟨by omega, by omega⟩ hok47 hIu48 hGu48 t49 (by omega) (by omega)
                    refine sv_pick [0, 1, 3, 4, 5, 6, 7, 8] (lv2 := [(0, sv_r a), (1, sv_i ar1), (3, sv_i ar3), (4, sv_i ar4), (5, sv_i ar5), (6, sv_i ((-1))), (7, sv_i ((-268435456))), (8, sv_i ar2)]) rfl ?_
                    exact L41 (((2001 - ar2 : Int)).toNat + 1) ((-1)) ((-268435456)) ar2 0 σ35 ⟨by omega, by omega⟩ ⟨by omega, by omega⟩ ⟨by omega, by omega⟩ ⟨by omega, by omega⟩ okσ35 Iσ35 Fσ35 eσ35_0 (by omega) (by omega)
                  · refine sv_go C.1 C.2.1 [(.aload_n 0, 1)] (pc' := 80) (by decide +kernel) rfl (lv' := [(0, sv_r a), (1, sv_i ar1), (2, sv_i ar2), (3, sv_i ar3), (4, sv_i ar4), (5, sv_i ar5), (6, sv_i Xg34_l6)]) (st' := [sv_r a]) rfl ?_
                    obtain ⟨v203, ev203, kv203⟩ := Iσ35.ref (k := 38) k_a rfl
                    refine sv_gf C (index := 142) (ci := 10) (k := 38) (r := (RX11, TX11, 47)) (v := sv_r v203) (by decide +kernel) (by rw [k_a]; rfl) rfl (by decide) fl_X11_142 (congrArg sv_a ev203) ?_
                    refine sv_go C.1 C.2.1 [(.iload 6, 2), (.iconst 0, 1)] (pc' := 86) (by decide +kernel) rfl (lv' := [(0, sv_r a), (1, sv_i ar1), (2, sv_i ar2), (3, sv_i ar3), (4, sv_i ar4), (5, sv_i ar5), (6, sv_i Xg34_l6)]) (st' := [sv_i 0, sv_i Xg34_l6, sv_r v203]) rfl ?_
                    refine sv_is C (n := 10) (by decide +kernel) (by rw [kv203]; rfl) (by decide) (by omega) (by omega) ⟨by omega, by omega⟩ (hTA _ (by rw [kv203]; decide)) okσ35 (fun hok204 => ?_)
                    have hI206 := Iσ35.up (a := v203) (k := (Xg34_l6 : Int).toNat) (z := 0) (by rw [kv203]; exact trivial)
                    have hF207 := Fσ35.up (a := v203) (k := (Xg34_l6 : Int).toNat) (z := 0) (Or.inl (by rw [kv203]; decide))
                    generalize eσ205 : sv_up σ35 v203 (Xg34_l6 : Int).toNat 0 = σ205 at hok204 hI206 hF207 ⊢
                    have t208 : σ205 a 40 = 0 := by rw [← eσ205, sv_up_a (sv_ne k_a kv203 (by decide))]; exact eσ35_0
                    have t209 : σ205 a 38 = (v203 : Int) + 1 := by rw [← eσ205, sv_up_a (sv_ne k_a kv203 (by decide))]; exact ev203
                    have t210 : σ205 v203 (Xg34_l6 : Int).toNat = 0 := by rw [← eσ205]; exact sv_up_s _ _ _ _
                    refine sv_go C.1 C.2.1 [(.aload_n 0, 1)] (pc' := 88) (by decide +kernel) rfl (lv' := [(0, sv_r a), (1, sv_i ar1), (2, sv_i ar2), (3, sv_i ar3), (4, sv_i ar4), (5, sv_i ar5), (6, sv_i Xg34_l6)]) (st' := [sv_r a]) rfl ?_
                    obtain ⟨v211, ev211, kv211⟩ := hI206.ref (k := 39) k_a rfl
                    refine sv_gf C (index := 145) (ci := 10) (k := 39) (r := (RX11, TX11, 47)) (v := sv_r v211) (by decide +kernel) (by rw [k_a]; rfl) rfl (by decide) fl_X11_145 (congrArg sv_a ev211) ?_
                    refine sv_go C.1 C.2.1 [(.iload 6, 2), (.iconst (-1), 1)] (pc' := 94) (by decide +kernel) rfl (lv' := [(0, sv_r a), (1, sv_i ar1), (2, sv_i ar2), (3, sv_i ar3), (4, sv_i ar4), (5, sv_i ar5), (6, sv_i Xg34_l6)]) (st' := [sv_i ((-1)), sv_i Xg34_l6, sv_r v211]) rfl ?_
                    refine sv_is C (n := 10) (by decide +kernel) (by rw [kv211]; rfl) (by decide) (by omega) (by omega) ⟨by omega, by omega⟩ (hTA _ (by rw [kv211]; decide)) hok204 (fun hok212 => ?_)
                    have hI214 := hI206.up (a := v211) (k := (Xg34_l6 : Int).toNat) (z := (-1)) (by rw [kv211]; exact trivial)
                    have hF215 := hF207.up (a := v211) (k := (Xg34_l6 : Int).toNat) (z := (-1)) (Or.inl (by rw [kv211]; decide))
                    generalize eσ213 : sv_up σ205 v211 (Xg34_l6 : Int).toNat ((-1)) = σ213 at hok212 hI214 hF215 ⊢
                    have t216 : σ213 a 40 = 0 := by rw [← eσ213, sv_up_a (sv_ne k_a kv211 (by decide))]; exact t208
                    have t217 : σ213 a 38 = (v203 : Int) + 1 := by rw [← eσ213, sv_up_a (sv_ne k_a kv211 (by decide))]; exact t209
                    have t218 : σ213 v203 (Xg34_l6 : Int).toNat = 0 := by rw [← eσ213, sv_up_a (sv_ne kv203 kv211 (by decide))]; exact t210
                    have t219 : σ213 a 39 = (v211 : Int) + 1 := by rw [← eσ213, sv_up_a (sv_ne k_a kv211 (by decide))]; exact ev211
                    have t220 : σ213 v211 (Xg34_l6 : Int).toNat = (-1) := by rw [← eσ213]; exact sv_up_s _ _ _ _
                    refine sv_go C.1 C.2.1 [(.iinc 6 1, 3)] (pc' := 98) (by decide +kernel) rfl (lv' := [(0, sv_r a), (1, sv_i ar1), (2, sv_i ar2), (3, sv_i ar3), (4, sv_i ar4), (5, sv_i ar5), (6, sv_i (Xg34_l6 + 1))]) (st' := []) rfl ?_
                    refine sv_goto C.1 C.2.1 (off := (-26)) (tgt := 72) (by decide +kernel) (by decide) ?_
                    exact ih37 (Xg34_l6 + 1) σ213 ⟨by omega, by omega⟩ hok212 hI214 hF215 t216 (by omega)
              exact L36 (((10 - 0 : Int)).toNat + 1) 0 σ30 ⟨by omega, by omega⟩ hok29 hI31 hF32 t33 (by omega)
            · refine sv_same (st2 := [sv_i 0]) (lv2 := [(0, sv_r a), (1, sv_i ar1), (2, sv_i ar2), (3, sv_i ar3), (4, sv_i ar4), (5, sv_i ar5)]) rfl rfl ?_
              refine sv_if_f C.1 C.2.1 (cnd := .ne) (off := 6) (tgt := 64) (by decide +kernel) (by decide) ⟨by omega, by omega⟩ (show ¬ (0 ≠ 0) by omega) ?_
              refine sv_go C.1 C.2.1 [(.bipush (-2), 2)] (pc' := 63) (by decide +kernel) rfl (lv' := [(0, sv_r a), (1, sv_i ar1), (2, sv_i ar2), (3, sv_i ar3), (4, sv_i ar4), (5, sv_i ar5)]) (st' := [sv_i ((-2))]) rfl ?_
              exact sv_iret C hr (by decide +kernel) hok27 (⟨⟨_, rfl, ⟨by omega, by omega⟩⟩, hI, hF⟩)
          · refine sv_same (st2 := [sv_i 0]) (lv2 := [(0, sv_r a), (1, sv_i ar1), (2, sv_i ar2), (3, sv_i ar3), (4, sv_i ar4), (5, sv_i ar5)]) rfl rfl ?_
            refine sv_if_t C.1 C.2.1 (cnd := .eq) (off := 16) (tgt := 61) (by decide +kernel) (by decide) ⟨by omega, by omega⟩ (show 0 = 0 by omega) ?_
            refine sv_go C.1 C.2.1 [(.bipush (-2), 2)] (pc' := 63) (by decide +kernel) rfl (lv' := [(0, sv_r a), (1, sv_i ar1), (2, sv_i ar2), (3, sv_i ar3), (4, sv_i ar4), (5, sv_i ar5)]) (st' := [sv_i ((-2))]) rfl ?_
            exact sv_iret C hr (by decide +kernel) hok22 (⟨⟨_, rfl, ⟨by omega, by omega⟩⟩, hI, hF⟩)
      · refine sv_same (st2 := [sv_i 0]) (lv2 := [(0, sv_r a), (1, sv_i ar1), (2, sv_i ar2), (3, sv_i ar3), (4, sv_i ar4), (5, sv_i ar5)]) rfl rfl ?_
        refine sv_if_t C.1 C.2.1 (cnd := .eq) (off := 37) (tgt := 61) (by decide +kernel) (by decide) ⟨by omega, by omega⟩ (show 0 = 0 by omega) ?_
        refine sv_go C.1 C.2.1 [(.bipush (-2), 2)] (pc' := 63) (by decide +kernel) rfl (lv' := [(0, sv_r a), (1, sv_i ar1), (2, sv_i ar2), (3, sv_i ar3), (4, sv_i ar4), (5, sv_i ar5)]) (st' := [sv_i ((-2))]) rfl ?_
        exact sv_iret C hr (by decide +kernel) hok16 (⟨⟨_, rfl, ⟨by omega, by omega⟩⟩, hI, hF⟩)
    · refine sv_same (st2 := [sv_i 0]) (lv2 := [(0, sv_r a), (1, sv_i ar1), (2, sv_i ar2), (3, sv_i ar3), (4, sv_i ar4), (5, sv_i ar5)]) rfl rfl ?_
      refine sv_if_t C.1 C.2.1 (cnd := .eq) (off := 50) (tgt := 61) (by decide +kernel) (by decide) ⟨by omega, by omega⟩ (show 0 = 0 by omega) ?_
      refine sv_go C.1 C.2.1 [(.bipush (-2), 2)] (pc' := 63) (by decide +kernel) rfl (lv' := [(0, sv_r a), (1, sv_i ar1), (2, sv_i ar2), (3, sv_i ar3), (4, sv_i ar4), (5, sv_i ar5)]) (st' := [sv_i ((-2))]) rfl ?_
      exact sv_iret C hr (by decide +kernel) hok11 (⟨⟨_, rfl, ⟨by omega, by omega⟩⟩, hI, hF⟩)
