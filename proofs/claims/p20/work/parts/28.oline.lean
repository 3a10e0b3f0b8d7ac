set_option maxRecDepth 100000 in
theorem co_X11_readFeast : Cond.code yX11_readFeast cX11_readFeast 7 none ∈ lw_good := by
  refine List.mem_filter.mpr ⟨?_, rfl⟩
  have h : Cond.code yX11_readFeast cX11_readFeast 7 none ∈ tables_1_6 := List.mem_of_getElem? (i := 45) rfl
  exact (List.mem_append_right _ (List.mem_append_right _ (List.mem_append_right _ (List.mem_append_right _ (List.mem_append_right _ (List.mem_append_right _ (List.mem_append_left _ h)))))))
theorem ml_X11_255 : Cond.methodLink RX11 255 yX11_readFeast ∈ lw_good := sv_mem 1313 (by decide +kernel) rfl
theorem im_X11_readFeast : Cond.instanceMethod yX11_readFeast ∈ lw_good := sv_mem 1315 (by decide +kernel) rfl
theorem se_X11_readFeast : Cond.selects RX11 yX11_readFeast yX11_readFeast ∈ lw_good := sv_mem 53 (by decide +kernel) rfl
theorem fl_X11_109 : Cond.fieldLink RX11 109 "SaintsRoadModel" "hasWax" "[Z" ∈ lw_good := sv_mem 1131 (by decide +kernel) rfl
theorem fl_X11_243 : Cond.fieldLink RX11 243 "SaintsRoadModel" "hasLent" "Z" ∈ lw_good := sv_mem 1130 (by decide +kernel) rfl
theorem fl_X11_239 : Cond.fieldLink RX11 239 "SaintsRoadModel" "hasYield" "Z" ∈ lw_good := sv_mem 1129 (by decide +kernel) rfl
set_option maxHeartbeats 4000000 in
set_option maxRecDepth 100000 in
theorem sf_X11_readLine (l : Launch) (g : sv_G) (A : Nat → Prop) (ty : Nat → Nat) (σ : Nat → Nat → Int) (hok : sv_ok ty σ) (hTA : ∀ q, ty q ≠ 0 → A q) (hI : sv_inv sp_1 ty σ) (a : Nat) (k_a : ty a = 10) (n18 : Int) (h_n18 : 0 ≤ n18 ∧ n18 ≤ 4000) (b1 : Int) (h_b1 : 0 ≤ b1 ∧ b1 ≤ 4000) (b2 : Int) (h_b2 : 0 ≤ b2 ∧ b2 ≤ 4000) (hh : Int) (h_hh : 0 ≤ hh ∧ hh ≤ 4) (e18 : σ a 18 = n18) (e19 : σ a 19 = b1) (e20 : σ a 20 = b2) (e21 : σ a 21 = hh) (hJ1 : b1 ≤ b2 ∧ b2 ≤ n18) (hJ2 : hh = 0 ∨ b1 < b2) (hJ3 : hh ≠ 1 ∨ b2 ≤ b1 + 12) : st_M l yX11_readLine cX11_readLine 2 none { frames := 7, cells := 0, slots := 0, locals := 155 } g A ty σ [sv_r a] (fun r σ' => (r = []) ∧ sv_inv sp_1 ty σ' ∧ sv_ofx [(10, 19), (10, 20), (10, 21), (10, 22), (10, 23), (10, 24), (10, 25), (10, 26)] [60, 61, 62, 63, 64, 65, 66, 67, 68, 69, 70, 71, 72, 73, 74, 87] ty σ σ' ∧ ∃ c1 c2 hc : Int, σ' a 19 = c1 ∧ σ' a 20 = c2 ∧ σ' a 21 = hc ∧ (b1 ≤ c1 ∧ c1 ≤ c2 ∧ c2 ≤ n18) ∧ (0 ≤ hc ∧ hc ≤ 4) ∧ (hc = 0 ∨ c1 < c2) ∧ (hc ≠ 1 ∨ c2 ≤ c1 + 12)) (fun x σ' => ty x = 11 ∧ sv_inv sp_1 ty σ' ∧ sv_ofx [(10, 19), (10, 20), (10, 21), (10, 22), (10, 23), (10, 24), (10, 25), (10, 26)] [60, 61, 62, 63, 64, 65, 66, 67, 68, 69, 70, 71, 72, 73, 74, 87] ty σ σ') := by
  refine st_enter (by decide) (Nat.le_of_ble_eq_true rfl) ?_
  intro p e s m args below meth c C hr hE
  have C : sv_C g A RX11 cX11_readLine 2 p s m args meth c := C
  have hr : meth.sig.returnType = none := hr
  have hF : sv_ofx [(10, 19), (10, 20), (10, 21), (10, 22), (10, 23), (10, 24), (10, 25), (10, 26)] [60, 61, 62, 63, 64, 65, 66, 67, 68, 69, 70, 71, 72, 73, 74, 87] ty σ σ := sv_ofx.rf
  refine sv_same (st2 := []) (lv2 := [(0, sv_r a)]) rfl rfl ?_
  refine sv_go C.1 C.2.1 [(.aload_n 0, 1)] (pc' := 1) (by decide +kernel) rfl (lv' := [(0, sv_r a)]) (st' := [sv_r a]) rfl ?_
  refine sq_ldc C (index := 221) (tx := "yield") 12 (by decide) rfl (by decide +kernel) ?_
  refine sv_cv C (index := 208) (k := 1) (rest := []) (ci := 10) (r := (RX11, TX11, 47)) (by decide +kernel) (sf_X11_is l g A ty σ hok hTA hI a k_a 12 (by decide) (n18) ⟨by omega, by omega⟩ (b1) ⟨by omega, by omega⟩ (b2) ⟨by omega, by omega⟩ (hh) ⟨by omega, by omega⟩ e18 e19 e20 e21 (by omega) (by omega) (by omega)) ⟨co_X11_is, in_X11, ⟨by decide, by decide, by decide +kernel⟩, Nat.le_of_ble_eq_true rfl, Nat.le_of_ble_eq_true rfl⟩ ml_X11_208 im_X11_is se_X11_is (by rw [k_a]; rfl) rfl rfl rfl (Nat.le_of_ble_eq_true rfl) ⟨Nat.zero_le _, Nat.zero_le _⟩ (fun r2 σ3 hpo1 hok4 => ?_)
  obtain ⟨rfl, ⟨vu5, rfl, hvu5, ivu5_0⟩⟩ := hpo1
  replace ivu5_0 := zq_mk ivu5_0
  refine sv_same (st2 := [sv_i vu5]) (lv2 := [(0, sv_r a)]) rfl rfl ?_
  refine sv_if C.1 C.2.1 (cnd := .eq) (off := 54) (tgt := 60) (by decide +kernel) (by decide) ⟨by omega, by omega⟩ (fun (h6 : vu5 = 0) => ?_) (fun (h6 : ¬ (vu5 = 0)) => ?_)
  · refine sv_go C.1 C.2.1 [(.aload_n 0, 1)] (pc' := 61) (by decide +kernel) rfl (lv' := [(0, sv_r a)]) (st' := [sv_r a]) rfl ?_
    refine sq_ldc C (index := 224) (tx := "lent") 13 (by decide) rfl (by decide +kernel) ?_
    refine sv_cv C (index := 208) (k := 1) (rest := []) (ci := 10) (r := (RX11, TX11, 47)) (by decide +kernel) (sf_X11_is l g A ty σ hok4 hTA hI a k_a 13 (by decide) (n18) ⟨by omega, by omega⟩ (b1) ⟨by omega, by omega⟩ (b2) ⟨by omega, by omega⟩ (hh) ⟨by omega, by omega⟩ e18 e19 e20 e21 (by omega) (by omega) (by omega)) ⟨co_X11_is, in_X11, ⟨by decide, by decide, by decide +kernel⟩, Nat.le_of_ble_eq_true rfl, Nat.le_of_ble_eq_true rfl⟩ ml_X11_208 im_X11_is se_X11_is (by rw [k_a]; rfl) rfl rfl rfl (Nat.le_of_ble_eq_true rfl) ⟨Nat.zero_le _, Nat.zero_le _⟩ (fun r8 σ9 hpo7 hok10 => ?_)
    obtain ⟨rfl, ⟨vu11, rfl, hvu11, ivu11_0⟩⟩ := hpo7
    replace ivu11_0 := zq_mk ivu11_0
    refine sv_same (st2 := [sv_i vu11]) (lv2 := [(0, sv_r a)]) rfl rfl ?_
    refine sv_if C.1 C.2.1 (cnd := .eq) (off := 41) (tgt := 107) (by decide +kernel) (by decide) ⟨by omega, by omega⟩ (fun (h12 : vu11 = 0) => ?_) (fun (h12 : ¬ (vu11 = 0)) => ?_)
    · refine sv_go C.1 C.2.1 [(.aload_n 0, 1)] (pc' := 108) (by decide +kernel) rfl (lv' := [(0, sv_r a)]) (st' := [sv_r a]) rfl ?_
      refine sq_ldc C (index := 223) (tx := "wax") 14 (by decide) rfl (by decide +kernel) ?_
      refine sv_cv C (index := 208) (k := 1) (rest := []) (ci := 10) (r := (RX11, TX11, 47)) (by decide +kernel) (sf_X11_is l g A ty σ hok10 hTA hI a k_a 14 (by decide) (n18) ⟨by omega, by omega⟩ (b1) ⟨by omega, by omega⟩ (b2) ⟨by omega, by omega⟩ (hh) ⟨by omega, by omega⟩ e18 e19 e20 e21 (by omega) (by omega) (by omega)) ⟨co_X11_is, in_X11, ⟨by decide, by decide, by decide +kernel⟩, Nat.le_of_ble_eq_true rfl, Nat.le_of_ble_eq_true rfl⟩ ml_X11_208 im_X11_is se_X11_is (by rw [k_a]; rfl) rfl rfl rfl (Nat.le_of_ble_eq_true rfl) ⟨Nat.zero_le _, Nat.zero_le _⟩ (fun r14 σ15 hpo13 hok16 => ?_)
      obtain ⟨rfl, ⟨vu17, rfl, hvu17, ivu17_0⟩⟩ := hpo13
      replace ivu17_0 := zq_mk ivu17_0
      refine sv_same (st2 := [sv_i vu17]) (lv2 := [(0, sv_r a)]) rfl rfl ?_
      refine sv_if C.1 C.2.1 (cnd := .eq) (off := 61) (tgt := 174) (by decide +kernel) (by decide) ⟨by omega, by omega⟩ (fun (h18 : vu17 = 0) => ?_) (fun (h18 : ¬ (vu17 = 0)) => ?_)
      · refine sv_go C.1 C.2.1 [(.aload_n 0, 1)] (pc' := 175) (by decide +kernel) rfl (lv' := [(0, sv_r a)]) (st' := [sv_r a]) rfl ?_
        refine st_cv C (index := 255) (k := 0) (rest := []) (ci := 10) (r := (RX11, TX11, 47)) (by decide +kernel) (sf_X11_readFeast l g A ty σ hok16 hTA hI a k_a (n18) ⟨by omega, by omega⟩ (b1) ⟨by omega, by omega⟩ (b2) ⟨by omega, by omega⟩ (hh) ⟨by omega, by omega⟩ e18 e19 e20 e21 (by omega) (by omega) (by omega)) ⟨co_X11_readFeast, in_X11, ⟨by decide, by decide, by decide +kernel⟩, Nat.le_of_ble_eq_true rfl, Nat.le_of_ble_eq_true rfl⟩ ml_X11_255 im_X11_readFeast se_X11_readFeast (by rw [k_a]; rfl) rfl rfl rfl (Nat.le_of_ble_eq_true rfl) ⟨Nat.zero_le _, Nat.zero_le _⟩ (fun r20 σ21 hpo19 hok22 => ?_) (fun xt23 σ21 hpo19 hok22 => st_out C hE hok22 ⟨hpo19.1, hpo19.2.1, hF.tr hpo19.2.2 (by decide +kernel) (by decide +kernel)⟩)
        obtain ⟨rfl, hIu24, hFu24, xu24⟩ := hpo19
        have hGu24 := hF.tr hFu24 (by decide +kernel) (by decide +kernel)
        have t25 : σ21 a 18 = n18 := (hFu24.at k_a (by decide +kernel) (by decide +kernel)).trans e18
        clear hJ2 hJ3
        obtain ⟨c1u24, c2u24, chu24, e19u24, e20u24, e21u24, j1u24, j2u24, j3u24, j4u24⟩ := xu24
        refine sv_same (st2 := []) (lv2 := [(0, sv_r a)]) rfl rfl ?_
        exact st_of (sv_vret C hr (by decide +kernel) hok22 (⟨rfl, hIu24, hGu24, _, _, _, e19u24, e20u24, e21u24, by omega, by omega, by omega, by omega⟩))
      · have hp26 := zq_un ivu17_0 (by omega) (by omega)
        refine sv_go C.1 C.2.1 [(.aload_n 0, 1)] (pc' := 117) (by decide +kernel) rfl (lv' := [(0, sv_r a)]) (st' := [sv_r a]) rfl ?_
        refine sv_cv C (index := 229) (k := 0) (rest := []) (ci := 10) (r := (RX11, TX11, 47)) (by decide +kernel) (sf_X11_scan l g A ty σ hok16 hTA hI a k_a (n18) ⟨by omega, by omega⟩ (b2) ⟨by omega, by omega⟩ e18 e20 (by omega)) ⟨co_X11_scan, in_X11, ⟨by decide, by decide, by decide +kernel⟩, Nat.le_of_ble_eq_true rfl, Nat.le_of_ble_eq_true rfl⟩ ml_X11_229 im_X11_scan se_X11_scan (by rw [k_a]; rfl) rfl rfl rfl (Nat.le_of_ble_eq_true rfl) ⟨Nat.zero_le _, Nat.zero_le _⟩ (fun r28 σ29 hpo27 hok30 => ?_)
        obtain ⟨rfl, hIu31, hFu31, xu31⟩ := hpo27
        have hGu31 := hF.tr hFu31 (by decide +kernel) (by decide +kernel)
        have t32 : σ29 a 18 = n18 := (hFu31.at k_a (by decide +kernel) (by decide +kernel)).trans e18
        have hltu31 : b1 < b2 := by omega
        clear hJ2 hJ3
        obtain ⟨c1u31, c2u31, chu31, e19u31, e20u31, e21u31, j1u31, j2u31, j3u31, j4u31⟩ := xu31
        refine sv_same (st2 := []) (lv2 := [(0, sv_r a)]) rfl rfl ?_
        refine sv_go C.1 C.2.1 [(.aload_n 0, 1), (.iconst 1, 1), (.bipush 8, 2)] (pc' := 124) (by decide +kernel) rfl (lv' := [(0, sv_r a)]) (st' := [sv_i 8, sv_i 1, sv_r a]) rfl ?_
        refine st_cv C (index := 232) (k := 2) (rest := []) (ci := 10) (r := (RX11, TX11, 47)) (by decide +kernel) (sf_X11_number l g A ty σ29 hok30 hTA hIu31 a k_a (1) ⟨by omega, by omega⟩ (8) ⟨by omega, by omega⟩ (n18) ⟨by omega, by omega⟩ (c1u31) ⟨by omega, by omega⟩ (c2u31) ⟨by omega, by omega⟩ (chu31) ⟨by omega, by omega⟩ t32 e19u31 e20u31 e21u31 (by omega) (by omega) (by omega)) ⟨co_X11_number, in_X11, ⟨by decide, by decide, by decide +kernel⟩, Nat.le_of_ble_eq_true rfl, Nat.le_of_ble_eq_true rfl⟩ ml_X11_232 im_X11_number se_X11_number (by rw [k_a]; rfl) rfl rfl rfl (Nat.le_of_ble_eq_true rfl) ⟨Nat.zero_le _, Nat.zero_le _⟩ (fun r34 σ35 hpo33 hok36 => ?_) (fun xt37 σ35 hpo33 hok36 => st_out C hE hok36 ⟨hpo33.1, hpo33.2.1, hGu31.tr hpo33.2.2 (by decide +kernel) (by decide +kernel)⟩)
        obtain ⟨⟨vu38, rfl, hvu38, ivu38_0⟩, hIu38, hFu38⟩ := hpo33
        have hGu38 := hGu31.tr hFu38 (by decide +kernel) (by decide +kernel)
        have t39 : σ35 a 18 = n18 := (hFu38.at k_a (by decide +kernel) (by decide +kernel)).trans t32
        have t40 : σ35 a 19 = c1u31 := (hFu38.at k_a (by decide +kernel) (by decide +kernel)).trans e19u31
        have t41 : σ35 a 20 = c2u31 := (hFu38.at k_a (by decide +kernel) (by decide +kernel)).trans e20u31
        have t42 : σ35 a 21 = chu31 := (hFu38.at k_a (by decide +kernel) (by decide +kernel)).trans e21u31
        replace ivu38_0 := zq_mk ivu38_0
        have hp43 := zq_un ivu38_0 (by omega) (by omega)
        refine sv_same (st2 := [sv_i vu38]) (lv2 := [(0, sv_r a)]) rfl rfl ?_
        refine sv_go C.1 C.2.1 [(.istore_n 1, 1), (.aload_n 0, 1)] (pc' := 129) (by decide +kernel) rfl (lv' := [(0, sv_r a), (1, sv_i vu38)]) (st' := [sv_r a]) rfl ?_
        obtain ⟨v44, ev44, kv44⟩ := hIu38.ref (k := 27) k_a rfl
        refine sv_gf C (index := 109) (ci := 10) (k := 27) (r := (RX11, TX11, 47)) (v := sv_r v44) (by decide +kernel) (by rw [k_a]; rfl) rfl (by decide) fl_X11_109 (congrArg sv_a ev44) ?_
        refine sv_go C.1 C.2.1 [(.iload_n 1, 1)] (pc' := 133) (by decide +kernel) rfl (lv' := [(0, sv_r a), (1, sv_i vu38)]) (st' := [sv_i vu38, sv_r v44]) rfl ?_
        refine sv_za C (n := 9) (by decide +kernel) (by rw [kv44]; rfl) (by decide) (by omega) (by omega) ?_
        obtain ⟨v45, ev45, hv45⟩ := sv_rdez hok36 (a := v44) (k := (vu38 : Int).toNat) (n := 9) (by rw [kv44]; rfl) (by omega)
        rw [ev45]
        refine sv_if C.1 C.2.1 (cnd := .eq) (off := 9) (tgt := 143) (by decide +kernel) (by decide) ⟨by omega, by omega⟩ (fun (h46 : v45 = 0) => ?_) (fun (h46 : ¬ (v45 = 0)) => ?_)
        · refine sv_go C.1 C.2.1 [(.aload_n 0, 1)] (pc' := 144) (by decide +kernel) rfl (lv' := [(0, sv_r a), (1, sv_i vu38)]) (st' := [sv_r a]) rfl ?_
          refine sv_gf C (index := 109) (ci := 10) (k := 27) (r := (RX11, TX11, 47)) (v := sv_r v44) (by decide +kernel) (by rw [k_a]; rfl) rfl (by decide) fl_X11_109 (congrArg sv_a ev44) ?_
          refine sv_go C.1 C.2.1 [(.iload_n 1, 1), (.iconst 1, 1)] (pc' := 149) (by decide +kernel) rfl (lv' := [(0, sv_r a), (1, sv_i vu38)]) (st' := [sv_i 1, sv_i vu38, sv_r v44]) rfl ?_
          refine sv_zs C (n := 9) (by decide +kernel) (by rw [kv44]; rfl) (by decide) (by omega) (by omega) ⟨by omega, by omega⟩ (hTA _ (by rw [kv44]; decide)) hok36 (fun hok47 => ?_)
          have hI49 := hIu38.up (a := v44) (k := (vu38 : Int).toNat) (z := 1) (by rw [kv44]; exact trivial)
          have hF50 := hGu38.up (a := v44) (k := (vu38 : Int).toNat) (z := 1) (Or.inl (by rw [kv44]; decide +kernel))
          generalize eσ48 : sv_up σ35 v44 (vu38 : Int).toNat 1 = σ48 at hok47 hI49 hF50 ⊢
          have t51 : σ48 a 18 = n18 := by rw [← eσ48, sv_up_a (sv_ne k_a kv44 (by decide))]; exact t39
          have t52 : σ48 a 19 = c1u31 := by rw [← eσ48, sv_up_a (sv_ne k_a kv44 (by decide))]; exact t40
          have t53 : σ48 a 20 = c2u31 := by rw [← eσ48, sv_up_a (sv_ne k_a kv44 (by decide))]; exact t41
          have t54 : σ48 a 21 = chu31 := by rw [← eσ48, sv_up_a (sv_ne k_a kv44 (by decide))]; exact t42
          have t55 : σ48 a 27 = (v44 : Int) + 1 := by rw [← eσ48, sv_up_a (sv_ne k_a kv44 (by decide))]; exact ev44
          have t57 : σ48 v44 (vu38 : Int).toNat = 1 := by rw [← eσ48]; exact sv_up_s _ _ _ _
          refine sv_go C.1 C.2.1 [(.aload_n 0, 1)] (pc' := 151) (by decide +kernel) rfl (lv' := [(0, sv_r a), (1, sv_i vu38)]) (st' := [sv_r a]) rfl ?_
          refine sv_cv C (index := 229) (k := 0) (rest := []) (ci := 10) (r := (RX11, TX11, 47)) (by decide +kernel) (sf_X11_scan l g A ty σ48 hok47 hTA hI49 a k_a (n18) ⟨by omega, by omega⟩ (c2u31) ⟨by omega, by omega⟩ t51 t53 (by omega)) ⟨co_X11_scan, in_X11, ⟨by decide, by decide, by decide +kernel⟩, Nat.le_of_ble_eq_true rfl, Nat.le_of_ble_eq_true rfl⟩ ml_X11_229 im_X11_scan se_X11_scan (by rw [k_a]; rfl) rfl rfl rfl (Nat.le_of_ble_eq_true rfl) ⟨Nat.zero_le _, Nat.zero_le _⟩ (fun r59 σ60 hpo58 hok61 => ?_)
          obtain ⟨rfl, hIu62, hFu62, xu62⟩ := hpo58
          have hGu62 := hF50.tr hFu62 (by decide +kernel) (by decide +kernel)
          have t63 : σ60 a 18 = n18 := (hFu62.at k_a (by decide +kernel) (by decide +kernel)).trans t51
          have t64 : σ60 a 27 = (v44 : Int) + 1 := (hFu62.at k_a (by decide +kernel) (by decide +kernel)).trans t55
          have t65 : σ60 v44 (vu38 : Int).toNat = 1 := (hFu62.atA kv44 (by decide +kernel) (by decide +kernel)).trans t57
          clear j3u31 j4u31
          obtain ⟨c1u62, c2u62, chu62, e19u62, e20u62, e21u62, j1u62, j2u62, j3u62, j4u62⟩ := xu62
          refine sv_same (st2 := []) (lv2 := [(0, sv_r a), (1, sv_i vu38)]) rfl rfl ?_
          refine sv_go C.1 C.2.1 [(.aload_n 0, 1)] (pc' := 155) (by decide +kernel) rfl (lv' := [(0, sv_r a), (1, sv_i vu38)]) (st' := [sv_r a]) rfl ?_
          obtain ⟨v66, ev66, kv66⟩ := hIu62.ref (k := 4) k_a rfl
          refine sv_gf C (index := 60) (ci := 10) (k := 4) (r := (RX11, TX11, 47)) (v := sv_r v66) (by decide +kernel) (by rw [k_a]; rfl) rfl (by decide) fl_X11_60 (congrArg sv_a ev66) ?_
          refine sv_go C.1 C.2.1 [(.bipush 36, 2), (.iload_n 1, 1), (.iadd, 1), (.aload_n 0, 1), (.iconst 0, 1), (.sipush 9999, 3)] (pc' := 167) (by decide +kernel) rfl (lv' := [(0, sv_r a), (1, sv_i vu38)]) (st' := [sv_i 9999, sv_i 0, sv_r a, sv_i (36 + vu38), sv_r v66]) rfl ?_
          refine st_cv C (index := 252) (k := 2) (rest := [sv_i (36 + vu38), sv_r v66]) (ci := 10) (r := (RX11, TX11, 47)) (by decide +kernel) (sf_X11_takeNumber l g A ty σ60 hok61 hTA hIu62 a k_a (0) ⟨by omega, by omega⟩ (9999) ⟨by omega, by omega⟩ (n18) ⟨by omega, by omega⟩ (c1u62) ⟨by omega, by omega⟩ (c2u62) ⟨by omega, by omega⟩ (chu62) ⟨by omega, by omega⟩ t63 e19u62 e20u62 e21u62 (by omega) (by omega) (by omega)) ⟨co_X11_takeNumber, in_X11, ⟨by decide, by decide, by decide +kernel⟩, Nat.le_of_ble_eq_true rfl, Nat.le_of_ble_eq_true rfl⟩ ml_X11_252 im_X11_takeNumber se_X11_takeNumber (by rw [k_a]; rfl) rfl rfl rfl (Nat.le_of_ble_eq_true rfl) ⟨Nat.zero_le _, Nat.zero_le _⟩ (fun r68 σ69 hpo67 hok70 => ?_) (fun xt71 σ69 hpo67 hok70 => st_out C hE hok70 ⟨hpo67.1, hpo67.2.1, hGu62.tr hpo67.2.2 (by decide +kernel) (by decide +kernel)⟩)
          obtain ⟨⟨vu72, rfl, hvu72, ivu72_0⟩, hIu72, hFu72, xu72⟩ := hpo67
          have hGu72 := hGu62.tr hFu72 (by decide +kernel) (by decide +kernel)
          have t73 : σ69 a 18 = n18 := (hFu72.at k_a (by decide +kernel) (by decide +kernel)).trans t63
          have t74 : σ69 a 27 = (v44 : Int) + 1 := (hFu72.at k_a (by decide +kernel) (by decide +kernel)).trans t64
          have t75 : σ69 v44 (vu38 : Int).toNat = 1 := (hFu72.atA kv44 (by decide +kernel) (by decide +kernel)).trans t65
          have t76 : σ69 a 4 = (v66 : Int) + 1 := (hFu72.at k_a (by decide +kernel) (by decide +kernel)).trans ev66
          replace ivu72_0 := zq_mk ivu72_0
          clear j3u62 j4u62
          obtain ⟨c1u72, c2u72, chu72, e19u72, e20u72, e21u72, j1u72, j2u72, j3u72, j4u72⟩ := xu72
          have hp77 := zq_un ivu72_0 (by omega) (by omega)
          refine sv_same (st2 := [sv_i vu72, sv_i (36 + vu38), sv_r v66]) (lv2 := [(0, sv_r a), (1, sv_i vu38)]) rfl rfl ?_
          refine sv_is C (n := 45) (by decide +kernel) (by rw [kv66]; rfl) (by decide) (by omega) (by omega) ⟨by omega, by omega⟩ (hTA _ (by rw [kv66]; decide)) hok70 (fun hok78 => ?_)
          have hI80 := hIu72.up (a := v66) (k := (36 + vu38 : Int).toNat) (z := vu72) (by rw [kv66]; exact trivial)
          have hF81 := hGu72.up (a := v66) (k := (36 + vu38 : Int).toNat) (z := vu72) (Or.inl (by rw [kv66]; decide +kernel))
          generalize eσ79 : sv_up σ69 v66 (36 + vu38 : Int).toNat vu72 = σ79 at hok78 hI80 hF81 ⊢
          have t82 : σ79 a 18 = n18 := by rw [← eσ79, sv_up_a (sv_ne k_a kv66 (by decide))]; exact t73
          have t83 : σ79 a 27 = (v44 : Int) + 1 := by rw [← eσ79, sv_up_a (sv_ne k_a kv66 (by decide))]; exact t74
          have t84 : σ79 v44 (vu38 : Int).toNat = 1 := by rw [← eσ79, sv_up_a (sv_ne kv44 kv66 (by decide))]; exact t75
          have t85 : σ79 a 4 = (v66 : Int) + 1 := by rw [← eσ79, sv_up_a (sv_ne k_a kv66 (by decide))]; exact t76
          have t86 : σ79 a 19 = c1u72 := by rw [← eσ79, sv_up_a (sv_ne k_a kv66 (by decide))]; exact e19u72
          have t87 : σ79 a 20 = c2u72 := by rw [← eσ79, sv_up_a (sv_ne k_a kv66 (by decide))]; exact e20u72
          have t88 : σ79 a 21 = chu72 := by rw [← eσ79, sv_up_a (sv_ne k_a kv66 (by decide))]; exact e21u72
          have t89 : σ79 v66 (36 + vu38 : Int).toNat = vu72 := by rw [← eσ79]; exact sv_up_s _ _ _ _
          refine sv_goto C.1 C.2.1 (off := 7) (tgt := 178) (by decide +kernel) (by decide) ?_
          exact st_of (sv_vret C hr (by decide +kernel) hok78 (⟨rfl, hI80, hF81, _, _, _, t86, t87, t88, by omega, by omega, by omega, by omega⟩))
        · refine sv_go C.1 C.2.1 [(.aload_n 0, 1), (.iconst 5, 1)] (pc' := 139) (by decide +kernel) rfl (lv' := [(0, sv_r a), (1, sv_i vu38)]) (st' := [sv_i 5, sv_r a]) rfl ?_
          refine sv_cv C (index := 225) (k := 1) (rest := []) (ci := 10) (r := (RX11, TX11, 47)) (by decide +kernel) (sf_X11_wrong l g A ty σ35 hok36 hTA hIu38 a k_a (5) ⟨by omega, by omega⟩) ⟨co_X11_wrong, in_X11, ⟨by decide, by decide, by decide +kernel⟩, Nat.le_of_ble_eq_true rfl, Nat.le_of_ble_eq_true rfl⟩ ml_X11_225 im_X11_wrong se_X11_wrong (by rw [k_a]; rfl) rfl rfl rfl (Nat.le_of_ble_eq_true rfl) ⟨Nat.zero_le _, Nat.zero_le _⟩ (fun r91 σ92 hpo90 hok93 => ?_)
          obtain ⟨⟨qu94, rfl, kqu94⟩, hIu94, hFu94⟩ := hpo90
          have hGu94 := hGu38.tr hFu94 (by decide +kernel) (by decide +kernel)
          have t95 : σ92 a 18 = n18 := (hFu94.at k_a (by decide +kernel) (by decide +kernel)).trans t39
          have t96 : σ92 a 19 = c1u31 := (hFu94.at k_a (by decide +kernel) (by decide +kernel)).trans t40
          have t97 : σ92 a 20 = c2u31 := (hFu94.at k_a (by decide +kernel) (by decide +kernel)).trans t41
          have t98 : σ92 a 21 = chu31 := (hFu94.at k_a (by decide +kernel) (by decide +kernel)).trans t42
          have t99 : σ92 a 27 = (v44 : Int) + 1 := (hFu94.at k_a (by decide +kernel) (by decide +kernel)).trans ev44
          have t100 : σ92 v44 (vu38 : Int).toNat = v45 := (hFu94.atA kv44 (by decide +kernel) (by decide +kernel)).trans ev45
          refine sv_same (st2 := [sv_r qu94]) (lv2 := [(0, sv_r a), (1, sv_i vu38)]) rfl rfl ?_
          exact st_throw C hE (by decide +kernel) hok93 ⟨kqu94, hIu94, hGu94⟩
    · have hp101 := zq_un ivu11_0 (by omega) (by omega)
      refine sv_go C.1 C.2.1 [(.aload_n 0, 1)] (pc' := 70) (by decide +kernel) rfl (lv' := [(0, sv_r a)]) (st' := [sv_r a]) rfl ?_
      obtain ⟨v102, ev102, hv102⟩ := sv_rdkz hok10 (a := a) (k := 26) (ci := 10) (r := (RX11, TX11, 47)) (by rw [k_a]; rfl) rfl (by decide) rfl
      refine sv_gf C (index := 243) (ci := 10) (k := 26) (r := (RX11, TX11, 47)) (v := sv_i v102) (by decide +kernel) (by rw [k_a]; rfl) rfl (by decide) fl_X11_243 (congrArg sv_i ev102) ?_
      refine sv_if C.1 C.2.1 (cnd := .eq) (off := 9) (tgt := 82) (by decide +kernel) (by decide) ⟨by omega, by omega⟩ (fun (h103 : v102 = 0) => ?_) (fun (h103 : ¬ (v102 = 0)) => ?_)
      · refine sv_go C.1 C.2.1 [(.aload_n 0, 1), (.iconst 1, 1)] (pc' := 84) (by decide +kernel) rfl (lv' := [(0, sv_r a)]) (st' := [sv_i 1, sv_r a]) rfl ?_
        refine sv_pf C (index := 243) (ci := 10) (k := 26) (r := (RX11, TX11, 47)) (z := 1) (by decide +kernel) (by rw [k_a]; rfl) rfl (by decide) rfl fl_X11_243 rfl (Or.inr (Or.inl rfl)) ⟨by omega, by omega⟩ (hTA _ (by rw [k_a]; decide)) hok10 (fun hok104 => ?_)
        have hI106 := hI.up (a := a) (k := 26) (z := 1) (by rw [k_a]; exact trivial)
        have hF107 := hF.up (a := a) (k := 26) (z := 1) (Or.inr (by rw [k_a]; decide +kernel))
        generalize eσ105 : sv_up σ a 26 1 = σ105 at hok104 hI106 hF107 ⊢
        have t108 : σ105 a 18 = n18 := by rw [← eσ105, sv_up_k (by decide)]; exact e18
        have t109 : σ105 a 19 = b1 := by rw [← eσ105, sv_up_k (by decide)]; exact e19
        have t110 : σ105 a 20 = b2 := by rw [← eσ105, sv_up_k (by decide)]; exact e20
        have t111 : σ105 a 21 = hh := by rw [← eσ105, sv_up_k (by decide)]; exact e21
        have t112 : σ105 a 26 = 1 := by rw [← eσ105]; exact sv_up_s _ _ _ _
        refine sv_go C.1 C.2.1 [(.aload_n 0, 1)] (pc' := 88) (by decide +kernel) rfl (lv' := [(0, sv_r a)]) (st' := [sv_r a]) rfl ?_
        refine sv_cv C (index := 229) (k := 0) (rest := []) (ci := 10) (r := (RX11, TX11, 47)) (by decide +kernel) (sf_X11_scan l g A ty σ105 hok104 hTA hI106 a k_a (n18) ⟨by omega, by omega⟩ (b2) ⟨by omega, by omega⟩ t108 t110 (by omega)) ⟨co_X11_scan, in_X11, ⟨by decide, by decide, by decide +kernel⟩, Nat.le_of_ble_eq_true rfl, Nat.le_of_ble_eq_true rfl⟩ ml_X11_229 im_X11_scan se_X11_scan (by rw [k_a]; rfl) rfl rfl rfl (Nat.le_of_ble_eq_true rfl) ⟨Nat.zero_le _, Nat.zero_le _⟩ (fun r114 σ115 hpo113 hok116 => ?_)
        obtain ⟨rfl, hIu117, hFu117, xu117⟩ := hpo113
        have hGu117 := hF107.tr hFu117 (by decide +kernel) (by decide +kernel)
        have t118 : σ115 a 18 = n18 := (hFu117.at k_a (by decide +kernel) (by decide +kernel)).trans t108
        have t119 : σ115 a 26 = 1 := (hFu117.at k_a (by decide +kernel) (by decide +kernel)).trans t112
        have hltu117 : b1 < b2 := by omega
        clear hJ2 hJ3
        obtain ⟨c1u117, c2u117, chu117, e19u117, e20u117, e21u117, j1u117, j2u117, j3u117, j4u117⟩ := xu117
        refine sv_same (st2 := []) (lv2 := [(0, sv_r a)]) rfl rfl ?_
        refine sv_go C.1 C.2.1 [(.aload_n 0, 1)] (pc' := 92) (by decide +kernel) rfl (lv' := [(0, sv_r a)]) (st' := [sv_r a]) rfl ?_
        obtain ⟨v120, ev120, kv120⟩ := hIu117.ref (k := 3) k_a rfl
        refine sv_gf C (index := 57) (ci := 10) (k := 3) (r := (RX11, TX11, 47)) (v := sv_r v120) (by decide +kernel) (by rw [k_a]; rfl) rfl (by decide) fl_X11_57 (congrArg sv_a ev120) ?_
        refine sv_go C.1 C.2.1 [(.iconst 4, 1), (.aload_n 0, 1), (.iconst 0, 1), (.bipush 90, 2)] (pc' := 100) (by decide +kernel) rfl (lv' := [(0, sv_r a)]) (st' := [sv_i 90, sv_i 0, sv_r a, sv_i 4, sv_r v120]) rfl ?_
        refine st_cv C (index := 252) (k := 2) (rest := [sv_i 4, sv_r v120]) (ci := 10) (r := (RX11, TX11, 47)) (by decide +kernel) (sf_X11_takeNumber l g A ty σ115 hok116 hTA hIu117 a k_a (0) ⟨by omega, by omega⟩ (90) ⟨by omega, by omega⟩ (n18) ⟨by omega, by omega⟩ (c1u117) ⟨by omega, by omega⟩ (c2u117) ⟨by omega, by omega⟩ (chu117) ⟨by omega, by omega⟩ t118 e19u117 e20u117 e21u117 (by omega) (by omega) (by omega)) ⟨co_X11_takeNumber, in_X11, ⟨by decide, by decide, by decide +kernel⟩, Nat.le_of_ble_eq_true rfl, Nat.le_of_ble_eq_true rfl⟩ ml_X11_252 im_X11_takeNumber se_X11_takeNumber (by rw [k_a]; rfl) rfl rfl rfl (Nat.le_of_ble_eq_true rfl) ⟨Nat.zero_le _, Nat.zero_le _⟩ (fun r122 σ123 hpo121 hok124 => ?_) (fun xt125 σ123 hpo121 hok124 => st_out C hE hok124 ⟨hpo121.1, hpo121.2.1, hGu117.tr hpo121.2.2 (by decide +kernel) (by decide +kernel)⟩)
        obtain ⟨⟨vu126, rfl, hvu126, ivu126_0⟩, hIu126, hFu126, xu126⟩ := hpo121
        have hGu126 := hGu117.tr hFu126 (by decide +kernel) (by decide +kernel)
        have t127 : σ123 a 18 = n18 := (hFu126.at k_a (by decide +kernel) (by decide +kernel)).trans t118
        have t128 : σ123 a 26 = 1 := (hFu126.at k_a (by decide +kernel) (by decide +kernel)).trans t119
        have t129 : σ123 a 3 = (v120 : Int) + 1 := (hFu126.at k_a (by decide +kernel) (by decide +kernel)).trans ev120
        replace ivu126_0 := zq_mk ivu126_0
        clear j3u117 j4u117
        obtain ⟨c1u126, c2u126, chu126, e19u126, e20u126, e21u126, j1u126, j2u126, j3u126, j4u126⟩ := xu126
        have hp130 := zq_un ivu126_0 (by omega) (by omega)
        refine sv_same (st2 := [sv_i vu126, sv_i 4, sv_r v120]) (lv2 := [(0, sv_r a)]) rfl rfl ?_
        refine sv_is C (n := 5) (by decide +kernel) (by rw [kv120]; rfl) (by decide) (by omega) (by omega) ⟨by omega, by omega⟩ (hTA _ (by rw [kv120]; decide)) hok124 (fun hok131 => ?_)
        have hI133 := hIu126.up (a := v120) (k := (4 : Int).toNat) (z := vu126) (by rw [kv120]; exact trivial)
        have hF134 := hGu126.up (a := v120) (k := (4 : Int).toNat) (z := vu126) (Or.inl (by rw [kv120]; decide +kernel))
        generalize eσ132 : sv_up σ123 v120 (4 : Int).toNat vu126 = σ132 at hok131 hI133 hF134 ⊢
        have t135 : σ132 a 18 = n18 := by rw [← eσ132, sv_up_a (sv_ne k_a kv120 (by decide))]; exact t127
        have t136 : σ132 a 26 = 1 := by rw [← eσ132, sv_up_a (sv_ne k_a kv120 (by decide))]; exact t128
        have t137 : σ132 a 3 = (v120 : Int) + 1 := by rw [← eσ132, sv_up_a (sv_ne k_a kv120 (by decide))]; exact t129
        have t138 : σ132 a 19 = c1u126 := by rw [← eσ132, sv_up_a (sv_ne k_a kv120 (by decide))]; exact e19u126
        have t139 : σ132 a 20 = c2u126 := by rw [← eσ132, sv_up_a (sv_ne k_a kv120 (by decide))]; exact e20u126
        have t140 : σ132 a 21 = chu126 := by rw [← eσ132, sv_up_a (sv_ne k_a kv120 (by decide))]; exact e21u126
        have t141 : σ132 v120 (4 : Int).toNat = vu126 := by rw [← eσ132]; exact sv_up_s _ _ _ _
        refine sv_goto C.1 C.2.1 (off := 74) (tgt := 178) (by decide +kernel) (by decide) ?_
        exact st_of (sv_vret C hr (by decide +kernel) hok131 (⟨rfl, hI133, hF134, _, _, _, t138, t139, t140, by omega, by omega, by omega, by omega⟩))
      · refine sv_go C.1 C.2.1 [(.aload_n 0, 1), (.iconst 5, 1)] (pc' := 78) (by decide +kernel) rfl (lv' := [(0, sv_r a)]) (st' := [sv_i 5, sv_r a]) rfl ?_
        refine sv_cv C (index := 225) (k := 1) (rest := []) (ci := 10) (r := (RX11, TX11, 47)) (by decide +kernel) (sf_X11_wrong l g A ty σ hok10 hTA hI a k_a (5) ⟨by omega, by omega⟩) ⟨co_X11_wrong, in_X11, ⟨by decide, by decide, by decide +kernel⟩, Nat.le_of_ble_eq_true rfl, Nat.le_of_ble_eq_true rfl⟩ ml_X11_225 im_X11_wrong se_X11_wrong (by rw [k_a]; rfl) rfl rfl rfl (Nat.le_of_ble_eq_true rfl) ⟨Nat.zero_le _, Nat.zero_le _⟩ (fun r143 σ144 hpo142 hok145 => ?_)
        obtain ⟨⟨qu146, rfl, kqu146⟩, hIu146, hFu146⟩ := hpo142
        have hGu146 := hF.tr hFu146 (by decide +kernel) (by decide +kernel)
        have t147 : σ144 a 18 = n18 := (hFu146.at k_a (by decide +kernel) (by decide +kernel)).trans e18
        have t148 : σ144 a 19 = b1 := (hFu146.at k_a (by decide +kernel) (by decide +kernel)).trans e19
        have t149 : σ144 a 20 = b2 := (hFu146.at k_a (by decide +kernel) (by decide +kernel)).trans e20
        have t150 : σ144 a 21 = hh := (hFu146.at k_a (by decide +kernel) (by decide +kernel)).trans e21
        have t151 : σ144 a 26 = v102 := (hFu146.at k_a (by decide +kernel) (by decide +kernel)).trans ev102
        refine sv_same (st2 := [sv_r qu146]) (lv2 := [(0, sv_r a)]) rfl rfl ?_
        exact st_throw C hE (by decide +kernel) hok145 ⟨kqu146, hIu146, hGu146⟩
  · have hp152 := zq_un ivu5_0 (by omega) (by omega)
    refine sv_go C.1 C.2.1 [(.aload_n 0, 1)] (pc' := 10) (by decide +kernel) rfl (lv' := [(0, sv_r a)]) (st' := [sv_r a]) rfl ?_
    obtain ⟨v153, ev153, hv153⟩ := sv_rdkz hok4 (a := a) (k := 25) (ci := 10) (r := (RX11, TX11, 47)) (by rw [k_a]; rfl) rfl (by decide) rfl
    refine sv_gf C (index := 239) (ci := 10) (k := 25) (r := (RX11, TX11, 47)) (v := sv_i v153) (by decide +kernel) (by rw [k_a]; rfl) rfl (by decide) fl_X11_239 (congrArg sv_i ev153) ?_
    refine sv_if C.1 C.2.1 (cnd := .eq) (off := 9) (tgt := 22) (by decide +kernel) (by decide) ⟨by omega, by omega⟩ (fun (h154 : v153 = 0) => ?_) (fun (h154 : ¬ (v153 = 0)) => ?_)
    · refine sv_go C.1 C.2.1 [(.aload_n 0, 1), (.iconst 1, 1)] (pc' := 24) (by decide +kernel) rfl (lv' := [(0, sv_r a)]) (st' := [sv_i 1, sv_r a]) rfl ?_
      refine sv_pf C (index := 239) (ci := 10) (k := 25) (r := (RX11, TX11, 47)) (z := 1) (by decide +kernel) (by rw [k_a]; rfl) rfl (by decide) rfl fl_X11_239 rfl (Or.inr (Or.inl rfl)) ⟨by omega, by omega⟩ (hTA _ (by rw [k_a]; decide)) hok4 (fun hok155 => ?_)
      have hI157 := hI.up (a := a) (k := 25) (z := 1) (by rw [k_a]; exact trivial)
      have hF158 := hF.up (a := a) (k := 25) (z := 1) (Or.inr (by rw [k_a]; decide +kernel))
      generalize eσ156 : sv_up σ a 25 1 = σ156 at hok155 hI157 hF158 ⊢
      have t159 : σ156 a 18 = n18 := by rw [← eσ156, sv_up_k (by decide)]; exact e18
      have t160 : σ156 a 19 = b1 := by rw [← eσ156, sv_up_k (by decide)]; exact e19
      have t161 : σ156 a 20 = b2 := by rw [← eσ156, sv_up_k (by decide)]; exact e20
      have t162 : σ156 a 21 = hh := by rw [← eσ156, sv_up_k (by decide)]; exact e21
      have t163 : σ156 a 25 = 1 := by rw [← eσ156]; exact sv_up_s _ _ _ _
      refine sv_go C.1 C.2.1 [(.aload_n 0, 1)] (pc' := 28) (by decide +kernel) rfl (lv' := [(0, sv_r a)]) (st' := [sv_r a]) rfl ?_
      refine sv_cv C (index := 229) (k := 0) (rest := []) (ci := 10) (r := (RX11, TX11, 47)) (by decide +kernel) (sf_X11_scan l g A ty σ156 hok155 hTA hI157 a k_a (n18) ⟨by omega, by omega⟩ (b2) ⟨by omega, by omega⟩ t159 t161 (by omega)) ⟨co_X11_scan, in_X11, ⟨by decide, by decide, by decide +kernel⟩, Nat.le_of_ble_eq_true rfl, Nat.le_of_ble_eq_true rfl⟩ ml_X11_229 im_X11_scan se_X11_scan (by rw [k_a]; rfl) rfl rfl rfl (Nat.le_of_ble_eq_true rfl) ⟨Nat.zero_le _, Nat.zero_le _⟩ (fun r165 σ166 hpo164 hok167 => ?_)
      obtain ⟨rfl, hIu168, hFu168, xu168⟩ := hpo164
      have hGu168 := hF158.tr hFu168 (by decide +kernel) (by decide +kernel)
      have t169 : σ166 a 18 = n18 := (hFu168.at k_a (by decide +kernel) (by decide +kernel)).trans t159
      have t170 : σ166 a 25 = 1 := (hFu168.at k_a (by decide +kernel) (by decide +kernel)).trans t163
      have hltu168 : b1 < b2 := by omega
      clear hJ2 hJ3
      obtain ⟨c1u168, c2u168, chu168, e19u168, e20u168, e21u168, j1u168, j2u168, j3u168, j4u168⟩ := xu168
      refine sv_same (st2 := []) (lv2 := [(0, sv_r a)]) rfl rfl ?_
      refine sv_go C.1 C.2.1 [(.aload_n 0, 1)] (pc' := 32) (by decide +kernel) rfl (lv' := [(0, sv_r a)]) (st' := [sv_r a]) rfl ?_
      obtain ⟨v171, ev171, kv171⟩ := hIu168.ref (k := 1) k_a rfl
      refine sv_gf C (index := 51) (ci := 10) (k := 1) (r := (RX11, TX11, 47)) (v := sv_r v171) (by decide +kernel) (by rw [k_a]; rfl) rfl (by decide) fl_X11_51 (congrArg sv_a ev171) ?_
      refine sv_go C.1 C.2.1 [(.iconst 4, 1), (.aload_n 0, 1), (.iconst 1, 1), (.bipush 8, 2)] (pc' := 40) (by decide +kernel) rfl (lv' := [(0, sv_r a)]) (st' := [sv_i 8, sv_i 1, sv_r a, sv_i 4, sv_r v171]) rfl ?_
      refine st_cv C (index := 252) (k := 2) (rest := [sv_i 4, sv_r v171]) (ci := 10) (r := (RX11, TX11, 47)) (by decide +kernel) (sf_X11_takeNumber l g A ty σ166 hok167 hTA hIu168 a k_a (1) ⟨by omega, by omega⟩ (8) ⟨by omega, by omega⟩ (n18) ⟨by omega, by omega⟩ (c1u168) ⟨by omega, by omega⟩ (c2u168) ⟨by omega, by omega⟩ (chu168) ⟨by omega, by omega⟩ t169 e19u168 e20u168 e21u168 (by omega) (by omega) (by omega)) ⟨co_X11_takeNumber, in_X11, ⟨by decide, by decide, by decide +kernel⟩, Nat.le_of_ble_eq_true rfl, Nat.le_of_ble_eq_true rfl⟩ ml_X11_252 im_X11_takeNumber se_X11_takeNumber (by rw [k_a]; rfl) rfl rfl rfl (Nat.le_of_ble_eq_true rfl) ⟨Nat.zero_le _, Nat.zero_le _⟩ (fun r173 σ174 hpo172 hok175 => ?_) (fun xt176 σ174 hpo172 hok175 => st_out C hE hok175 ⟨hpo172.1, hpo172.2.1, hGu168.tr hpo172.2.2 (by decide +kernel) (by decide +kernel)⟩)
      obtain ⟨⟨vu177, rfl, hvu177, ivu177_0⟩, hIu177, hFu177, xu177⟩ := hpo172
      have hGu177 := hGu168.tr hFu177 (by decide +kernel) (by decide +kernel)
      have t178 : σ174 a 18 = n18 := (hFu177.at k_a (by decide +kernel) (by decide +kernel)).trans t169
      have t179 : σ174 a 25 = 1 := (hFu177.at k_a (by decide +kernel) (by decide +kernel)).trans t170
      have t180 : σ174 a 1 = (v171 : Int) + 1 := (hFu177.at k_a (by decide +kernel) (by decide +kernel)).trans ev171
      replace ivu177_0 := zq_mk ivu177_0
      clear j3u168 j4u168
      obtain ⟨c1u177, c2u177, chu177, e19u177, e20u177, e21u177, j1u177, j2u177, j3u177, j4u177⟩ := xu177
      have hp181 := zq_un ivu177_0 (by omega) (by omega)
      refine sv_same (st2 := [sv_i vu177, sv_i 4, sv_r v171]) (lv2 := [(0, sv_r a)]) rfl rfl ?_
      refine sv_is C (n := 5) (by decide +kernel) (by rw [kv171]; rfl) (by decide) (by omega) (by omega) ⟨by omega, by omega⟩ (hTA _ (by rw [kv171]; decide)) hok175 (fun hok182 => ?_)
      have hI184 := hIu177.up (a := v171) (k := (4 : Int).toNat) (z := vu177) (by rw [kv171]; exact trivial)
      have hF185 := hGu177.up (a := v171) (k := (4 : Int).toNat) (z := vu177) (Or.inl (by rw [kv171]; decide +kernel))
      generalize eσ183 : sv_up σ174 v171 (4 : Int).toNat vu177 = σ183 at hok182 hI184 hF185 ⊢
      have t186 : σ183 a 18 = n18 := by rw [← eσ183, sv_up_a (sv_ne k_a kv171 (by decide))]; exact t178
      have t187 : σ183 a 25 = 1 := by rw [← eσ183, sv_up_a (sv_ne k_a kv171 (by decide))]; exact t179
      have t188 : σ183 a 1 = (v171 : Int) + 1 := by rw [← eσ183, sv_up_a (sv_ne k_a kv171 (by decide))]; exact t180
      have t189 : σ183 a 19 = c1u177 := by rw [← eσ183, sv_up_a (sv_ne k_a kv171 (by decide))]; exact e19u177
      have t190 : σ183 a 20 = c2u177 := by rw [← eσ183, sv_up_a (sv_ne k_a kv171 (by decide))]; exact e20u177
      have t191 : σ183 a 21 = chu177 := by rw [← eσ183, sv_up_a (sv_ne k_a kv171 (by decide))]; exact e21u177
      have t192 : σ183 v171 (4 : Int).toNat = vu177 := by rw [← eσ183]; exact sv_up_s _ _ _ _
      refine sv_go C.1 C.2.1 [(.aload_n 0, 1)] (pc' := 45) (by decide +kernel) rfl (lv' := [(0, sv_r a)]) (st' := [sv_r a]) rfl ?_
      obtain ⟨v193, ev193, kv193⟩ := hI184.ref (k := 2) k_a rfl
      refine sv_gf C (index := 54) (ci := 10) (k := 2) (r := (RX11, TX11, 47)) (v := sv_r v193) (by decide +kernel) (by rw [k_a]; rfl) rfl (by decide) fl_X11_54 (congrArg sv_a ev193) ?_
      refine sv_go C.1 C.2.1 [(.iconst 4, 1), (.aload_n 0, 1), (.iconst 0, 1), (.bipush 30, 2)] (pc' := 53) (by decide +kernel) rfl (lv' := [(0, sv_r a)]) (st' := [sv_i 30, sv_i 0, sv_r a, sv_i 4, sv_r v193]) rfl ?_
      refine st_cv C (index := 252) (k := 2) (rest := [sv_i 4, sv_r v193]) (ci := 10) (r := (RX11, TX11, 47)) (by decide +kernel) (sf_X11_takeNumber l g A ty σ183 hok182 hTA hI184 a k_a (0) ⟨by omega, by omega⟩ (30) ⟨by omega, by omega⟩ (n18) ⟨by omega, by omega⟩ (c1u177) ⟨by omega, by omega⟩ (c2u177) ⟨by omega, by omega⟩ (chu177) ⟨by omega, by omega⟩ t186 t189 t190 t191 (by omega) (by omega) (by omega)) ⟨co_X11_takeNumber, in_X11, ⟨by decide, by decide, by decide +kernel⟩, Nat.le_of_ble_eq_true rfl, Nat.le_of_ble_eq_true rfl⟩ ml_X11_252 im_X11_takeNumber se_X11_takeNumber (by rw [k_a]; rfl) rfl rfl rfl (Nat.le_of_ble_eq_true rfl) ⟨Nat.zero_le _, Nat.zero_le _⟩ (fun r195 σ196 hpo194 hok197 => ?_) (fun xt198 σ196 hpo194 hok197 => st_out C hE hok197 ⟨hpo194.1, hpo194.2.1, hF185.tr hpo194.2.2 (by decide +kernel) (by decide +kernel)⟩)
      obtain ⟨⟨vu199, rfl, hvu199, ivu199_0⟩, hIu199, hFu199, xu199⟩ := hpo194
      have hGu199 := hF185.tr hFu199 (by decide +kernel) (by decide +kernel)
      have t200 : σ196 a 18 = n18 := (hFu199.at k_a (by decide +kernel) (by decide +kernel)).trans t186
      have t201 : σ196 a 25 = 1 := (hFu199.at k_a (by decide +kernel) (by decide +kernel)).trans t187
      have t202 : σ196 a 1 = (v171 : Int) + 1 := (hFu199.at k_a (by decide +kernel) (by decide +kernel)).trans t188
      have t203 : σ196 v171 (4 : Int).toNat = vu177 := (hFu199.atA kv171 (by decide +kernel) (by decide +kernel)).trans t192
      have t204 : σ196 a 2 = (v193 : Int) + 1 := (hFu199.at k_a (by decide +kernel) (by decide +kernel)).trans ev193
      replace ivu199_0 := zq_mk ivu199_0
      clear j3u177 j4u177
      obtain ⟨c1u199, c2u199, chu199, e19u199, e20u199, e21u199, j1u199, j2u199, j3u199, j4u199⟩ := xu199
      have hp205 := zq_un ivu199_0 (by omega) (by omega)
      refine sv_same (st2 := [sv_i vu199, sv_i 4, sv_r v193]) (lv2 := [(0, sv_r a)]) rfl rfl ?_
      refine sv_is C (n := 5) (by decide +kernel) (by rw [kv193]; rfl) (by decide) (by omega) (by omega) ⟨by omega, by omega⟩ (hTA _ (by rw [kv193]; decide)) hok197 (fun hok206 => ?_)
      have hI208 := hIu199.up (a := v193) (k := (4 : Int).toNat) (z := vu199) (by rw [kv193]; exact trivial)
      have hF209 := hGu199.up (a := v193) (k := (4 : Int).toNat) (z := vu199) (Or.inl (by rw [kv193]; decide +kernel))
      generalize eσ207 : sv_up σ196 v193 (4 : Int).toNat vu199 = σ207 at hok206 hI208 hF209 ⊢
      have t210 : σ207 a 18 = n18 := by rw [← eσ207, sv_up_a (sv_ne k_a kv193 (by decide))]; exact t200
      have t211 : σ207 a 25 = 1 := by rw [← eσ207, sv_up_a (sv_ne k_a kv193 (by decide))]; exact t201
      have t212 : σ207 a 1 = (v171 : Int) + 1 := by rw [← eσ207, sv_up_a (sv_ne k_a kv193 (by decide))]; exact t202
      have t213 : σ207 v171 (4 : Int).toNat = vu177 := by rw [← eσ207, sv_up_a (sv_ne kv171 kv193 (by decide))]; exact t203
      have t214 : σ207 a 2 = (v193 : Int) + 1 := by rw [← eσ207, sv_up_a (sv_ne k_a kv193 (by decide))]; exact t204
      have t215 : σ207 a 19 = c1u199 := by rw [← eσ207, sv_up_a (sv_ne k_a kv193 (by decide))]; exact e19u199
      have t216 : σ207 a 20 = c2u199 := by rw [← eσ207, sv_up_a (sv_ne k_a kv193 (by decide))]; exact e20u199
      have t217 : σ207 a 21 = chu199 := by rw [← eσ207, sv_up_a (sv_ne k_a kv193 (by decide))]; exact e21u199
      have t218 : σ207 v193 (4 : Int).toNat = vu199 := by rw [← eσ207]; exact sv_up_s _ _ _ _
      refine sv_goto C.1 C.2.1 (off := 121) (tgt := 178) (by decide +kernel) (by decide) ?_
      exact st_of (sv_vret C hr (by decide +kernel) hok206 (⟨rfl, hI208, hF209, _, _, _, t215, t216, t217, by omega, by omega, by omega, by omega⟩))
    · refine sv_go C.1 C.2.1 [(.aload_n 0, 1), (.iconst 5, 1)] (pc' := 18) (by decide +kernel) rfl (lv' := [(0, sv_r a)]) (st' := [sv_i 5, sv_r a]) rfl ?_
      refine sv_cv C (index := 225) (k := 1) (rest := []) (ci := 10) (r := (RX11, TX11, 47)) (by decide +kernel) (sf_X11_wrong l g A ty σ hok4 hTA hI a k_a (5) ⟨by omega, by omega⟩) ⟨co_X11_wrong, in_X11, ⟨by decide, by decide, by decide +kernel⟩, Nat.le_of_ble_eq_true rfl, Nat.le_of_ble_eq_true rfl⟩ ml_X11_225 im_X11_wrong se_X11_wrong (by rw [k_a]; rfl) rfl rfl rfl (Nat.le_of_ble_eq_true rfl) ⟨Nat.zero_le _, Nat.zero_le _⟩ (fun r220 σ221 hpo219 hok222 => ?_)
      obtain ⟨⟨qu223, rfl, kqu223⟩, hIu223, hFu223⟩ := hpo219
      have hGu223 := hF.tr hFu223 (by decide +kernel) (by decide +kernel)
      have t224 : σ221 a 18 = n18 := (hFu223.at k_a (by decide +kernel) (by decide +kernel)).trans e18
      have t225 : σ221 a 19 = b1 := (hFu223.at k_a (by decide +kernel) (by decide +kernel)).trans e19
      have t226 : σ221 a 20 = b2 := (hFu223.at k_a (by decide +kernel) (by decide +kernel)).trans e20
      have t227 : σ221 a 21 = hh := (hFu223.at k_a (by decide +kernel) (by decide +kernel)).trans e21
      have t228 : σ221 a 25 = v153 := (hFu223.at k_a (by decide +kernel) (by decide +kernel)).trans ev153
      refine sv_same (st2 := [sv_r qu223]) (lv2 := [(0, sv_r a)]) rfl rfl ?_
      exact st_throw C hE (by decide +kernel) hok222 ⟨kqu223, hIu223, hGu223⟩
