theorem ml_X11_252 : Cond.methodLink RX11 252 yX11_takeNumber ∈ lw_good := sv_mem 1303 (by decide +kernel) rfl
theorem co_X11_takeNumber : Cond.code yX11_takeNumber cX11_takeNumber 4 (some .int) ∈ lw_good := sv_mem 1306 (by decide +kernel) rfl
theorem im_X11_takeNumber : Cond.instanceMethod yX11_takeNumber ∈ lw_good := sv_mem 1305 (by decide +kernel) rfl
theorem se_X11_takeNumber : Cond.selects RX11 yX11_takeNumber yX11_takeNumber ∈ lw_good := sv_mem 51 (by decide +kernel) rfl
theorem ml_X11_249 : Cond.methodLink RX11 249 yX11_isSign ∈ lw_good := sv_mem 1323 (by decide +kernel) rfl
theorem co_X11_isSign : Cond.code yX11_isSign cX11_isSign 2 (some .boolean) ∈ lw_good := sv_mem 1326 (by decide +kernel) rfl
theorem im_X11_isSign : Cond.instanceMethod yX11_isSign ∈ lw_good := sv_mem 1325 (by decide +kernel) rfl
theorem se_X11_isSign : Cond.selects RX11 yX11_isSign yX11_isSign ∈ lw_good := sv_mem 54 (by decide +kernel) rfl
theorem ml_X11_258 : Cond.methodLink RX11 258 yX11_need ∈ lw_good := sv_mem 1328 (by decide +kernel) rfl
theorem co_X11_need : Cond.code yX11_need cX11_need 2 none ∈ lw_good := sv_mem 1331 (by decide +kernel) rfl
theorem im_X11_need : Cond.instanceMethod yX11_need ∈ lw_good := sv_mem 1330 (by decide +kernel) rfl
theorem se_X11_need : Cond.selects RX11 yX11_need yX11_need ∈ lw_good := sv_mem 55 (by decide +kernel) rfl
theorem ml_X11_262 : Cond.methodLink RX11 262 yX11_isQuoted ∈ lw_good := sv_mem 1332 (by decide +kernel) rfl
theorem co_X11_isQuoted : Cond.code yX11_isQuoted cX11_isQuoted 1 (some .boolean) ∈ lw_good := sv_mem 1335 (by decide +kernel) rfl
theorem im_X11_isQuoted : Cond.instanceMethod yX11_isQuoted ∈ lw_good := sv_mem 1334 (by decide +kernel) rfl
theorem se_X11_isQuoted : Cond.selects RX11 yX11_isQuoted yX11_isQuoted ∈ lw_good := sv_mem 56 (by decide +kernel) rfl
set_option maxHeartbeats 4000000 in
set_option maxRecDepth 100000 in
theorem sf_X11_readFeast_410 (l : Launch) (g : sv_G) (A : Nat → Prop) (ty : Nat → Nat) (σ : Nat → Nat → Int) (hok : sv_ok ty σ) (hTA : ∀ q, ty q ≠ 0 → A q) (hI : sv_inv sp_1 ty σ) (a : Nat) (k_a : ty a = 10) (n18 : Int) (h_n18 : 0 ≤ n18 ∧ n18 ≤ 4000) (b1 : Int) (h_b1 : 0 ≤ b1 ∧ b1 ≤ 4000) (b2 : Int) (h_b2 : 0 ≤ b2 ∧ b2 ≤ 4000) (hh : Int) (h_hh : 0 ≤ hh ∧ hh ≤ 4) (e18 : σ a 18 = n18) (e19 : σ a 19 = b1) (e20 : σ a 20 = b2) (e21 : σ a 21 = hh) (hJ1 : b1 ≤ b2 ∧ b2 ≤ n18) (qa0 : Nat) (eqa0 : σ a 0 = (qa0 : Int) + 1) (kqa0 : ty qa0 = 60) (p : Program) (e : Env) (s : State) (m : MethodId) (args : Array Value) (below : List Frame) (meth : Method) (c : Code) (C : sv_C g A RX11 cX11_readFeast 7 p s m args meth c) (hr : meth.sig.returnType = none) (hE : c.exceptionTable.isEmpty = true) : ∀ (Kg1507_l2 : Int) (Kg1507_e2 : Int) (Kg1507_fa_5 : Nat) (Kg1507_fa_6 : Nat) (Kg1507_fa_7 : Nat) (Kg1507_fa_8 : Nat) (Kg1507_fa_11 : Nat) (Kg1507_fa_19 : Int) (Kg1507_fa_20 : Int) (Kg1507_fa_21 : Int) (Kg1507_fa_12 : Nat) (Kg1507_fa_13 : Nat) (Kg1507_fa_9 : Nat) (Kg1507_fa_10 : Nat) (σ1508 : Nat → Nat → Int), (0 ≤ Kg1507_l2 ∧ Kg1507_l2 ≤ 299) → (0 ≤ Kg1507_e2 ∧ Kg1507_e2 ≤ 59) → (ty Kg1507_fa_5 = 65) → (ty Kg1507_fa_6 = 66) → (ty Kg1507_fa_7 = 67) → (ty Kg1507_fa_8 = 68) → (ty Kg1507_fa_11 = 71) → (0 ≤ Kg1507_fa_19 ∧ Kg1507_fa_19 ≤ 4000) → (0 ≤ Kg1507_fa_20 ∧ Kg1507_fa_20 ≤ 4000) → (0 ≤ Kg1507_fa_21 ∧ Kg1507_fa_21 ≤ 4) → (ty Kg1507_fa_12 = 72) → (ty Kg1507_fa_13 = 73) → (ty Kg1507_fa_9 = 69) → (ty Kg1507_fa_10 = 70) → (sv_ok ty σ1508) → (sv_inv sp_1 ty σ1508) → (sv_ofx [(10, 19), (10, 20), (10, 21), (10, 22), (10, 23), (10, 24)] [60, 65, 66, 67, 68, 69, 70, 71, 72, 73, 74] ty σ σ1508) → (σ1508 a 18 = n18) → (σ1508 a 0 = (qa0 : Int) + 1) → (σ1508 qa0 (4 : Int).toNat = Kg1507_e2) → (σ1508 a 5 = (Kg1507_fa_5 : Int) + 1) → (σ1508 a 6 = (Kg1507_fa_6 : Int) + 1) → (σ1508 a 7 = (Kg1507_fa_7 : Int) + 1) → (σ1508 a 8 = (Kg1507_fa_8 : Int) + 1) → (σ1508 a 11 = (Kg1507_fa_11 : Int) + 1) → (σ1508 a 19 = Kg1507_fa_19) → (σ1508 a 20 = Kg1507_fa_20) → (σ1508 a 21 = Kg1507_fa_21) → (σ1508 a 12 = (Kg1507_fa_12 : Int) + 1) → (σ1508 a 13 = (Kg1507_fa_13 : Int) + 1) → (σ1508 a 9 = (Kg1507_fa_9 : Int) + 1) → (σ1508 a 10 = (Kg1507_fa_10 : Int) + 1) → (b1 ≤ Kg1507_fa_19 ∧ Kg1507_fa_19 ≤ Kg1507_fa_20 ∧ Kg1507_fa_20 ≤ n18) → ((Kg1507_fa_21 = 0 ∨ Kg1507_fa_19 < Kg1507_fa_20) ∧ (Kg1507_fa_21 ≠ 1 ∨ Kg1507_fa_20 ≤ Kg1507_fa_19 + 12)) → st_E p l e { frames := 6, cells := 0, slots := 0, locals := 129 } s m args below meth c 7 g A ty (fun r σ' => (r = []) ∧ sv_inv sp_1 ty σ' ∧ sv_ofx [(10, 19), (10, 20), (10, 21), (10, 22), (10, 23), (10, 24)] [60, 65, 66, 67, 68, 69, 70, 71, 72, 73, 74] ty σ σ' ∧ ∃ c1 c2 hc : Int, σ' a 19 = c1 ∧ σ' a 20 = c2 ∧ σ' a 21 = hc ∧ (b1 ≤ c1 ∧ c1 ≤ c2 ∧ c2 ≤ n18) ∧ (0 ≤ hc ∧ hc ≤ 4) ∧ (hc = 0 ∨ c1 < c2) ∧ (hc ≠ 1 ∨ c2 ≤ c1 + 12)) (fun x σ' => ty x = 11 ∧ sv_inv sp_1 ty σ' ∧ sv_ofx [(10, 19), (10, 20), (10, 21), (10, 22), (10, 23), (10, 24)] [60, 65, 66, 67, 68, 69, 70, 71, 72, 73, 74] ty σ σ') σ1508 410 [(0, sv_r a), (2, sv_i Kg1507_l2), (3, sv_i 0), (4, sv_i 0)] [] := by
  intro Kg1507_l2 Kg1507_e2 Kg1507_fa_5 Kg1507_fa_6 Kg1507_fa_7 Kg1507_fa_8 Kg1507_fa_11 Kg1507_fa_19 Kg1507_fa_20 Kg1507_fa_21 Kg1507_fa_12 Kg1507_fa_13 Kg1507_fa_9 Kg1507_fa_10 σ1508 hKg1507_l2 hKg1507_e2 kKg1507_fa_5 kKg1507_fa_6 kKg1507_fa_7 kKg1507_fa_8 kKg1507_fa_11 hKg1507_fa_19 hKg1507_fa_20 hKg1507_fa_21 kKg1507_fa_12 kKg1507_fa_13 kKg1507_fa_9 kKg1507_fa_10 okσ1508 Iσ1508 Fσ1508 eσ1508_0 eσ1508_1 eσ1508_2 eσ1508_3 eσ1508_4 eσ1508_5 eσ1508_6 eσ1508_7 eσ1508_8 eσ1508_9 eσ1508_10 eσ1508_11 eσ1508_12 eσ1508_13 eσ1508_14 zk410o zk410
  have hF : sv_ofx [(10, 19), (10, 20), (10, 21), (10, 22), (10, 23), (10, 24)] [60, 65, 66, 67, 68, 69, 70, 71, 72, 73, 74] ty σ σ := sv_ofx.rf
  have L2011 : ∀ (n : Nat) (Xg2009_l3 : Int) (Xg2009_l4 : Int) (Xg2009_fa_19 : Int) (Xg2009_fa_20 : Int) (Xg2009_fa_21 : Int) (σ2010 : Nat → Nat → Int), (0 ≤ Xg2009_l3 ∧ Xg2009_l3 ≤ 1) → (0 ≤ Xg2009_l4 ∧ Xg2009_l4 ≤ 1) → (0 ≤ Xg2009_fa_19 ∧ Xg2009_fa_19 ≤ 4000) → (0 ≤ Xg2009_fa_20 ∧ Xg2009_fa_20 ≤ 4000) → (0 ≤ Xg2009_fa_21 ∧ Xg2009_fa_21 ≤ 4) → (sv_ok ty σ2010) → (sv_inv sp_1 ty σ2010) → (sv_ofx [(10, 19), (10, 20), (10, 21), (10, 22), (10, 23), (10, 24)] [60, 65, 66, 67, 68, 69, 70, 71, 72, 73, 74] ty σ σ2010) → (σ2010 a 18 = n18) → (σ2010 a 0 = (qa0 : Int) + 1) → (σ2010 qa0 (4 : Int).toNat = Kg1507_e2) → (σ2010 a 5 = (Kg1507_fa_5 : Int) + 1) → (σ2010 a 6 = (Kg1507_fa_6 : Int) + 1) → (σ2010 a 7 = (Kg1507_fa_7 : Int) + 1) → (σ2010 a 8 = (Kg1507_fa_8 : Int) + 1) → (σ2010 a 11 = (Kg1507_fa_11 : Int) + 1) → (σ2010 a 19 = Xg2009_fa_19) → (σ2010 a 20 = Xg2009_fa_20) → (σ2010 a 21 = Xg2009_fa_21) → (σ2010 a 12 = (Kg1507_fa_12 : Int) + 1) → (σ2010 a 13 = (Kg1507_fa_13 : Int) + 1) → (σ2010 a 9 = (Kg1507_fa_9 : Int) + 1) → (σ2010 a 10 = (Kg1507_fa_10 : Int) + 1) → (b1 ≤ Xg2009_fa_19 ∧ Xg2009_fa_19 ≤ Xg2009_fa_20 ∧ Xg2009_fa_20 ≤ n18) → ((Xg2009_fa_21 = 0 ∨ Xg2009_fa_19 < Xg2009_fa_20) ∧ (Xg2009_fa_21 ≠ 1 ∨ Xg2009_fa_20 ≤ Xg2009_fa_19 + 12)) → (n18 - Xg2009_fa_19) < (n : Int) → st_E p l e { frames := 6, cells := 0, slots := 0, locals := 129 } s m args below meth c 7 g A ty (fun r σ' => (r = []) ∧ sv_inv sp_1 ty σ' ∧ sv_ofx [(10, 19), (10, 20), (10, 21), (10, 22), (10, 23), (10, 24)] [60, 65, 66, 67, 68, 69, 70, 71, 72, 73, 74] ty σ σ' ∧ ∃ c1 c2 hc : Int, σ' a 19 = c1 ∧ σ' a 20 = c2 ∧ σ' a 21 = hc ∧ (b1 ≤ c1 ∧ c1 ≤ c2 ∧ c2 ≤ n18) ∧ (0 ≤ hc ∧ hc ≤ 4) ∧ (hc = 0 ∨ c1 < c2) ∧ (hc ≠ 1 ∨ c2 ≤ c1 + 12)) (fun x σ' => ty x = 11 ∧ sv_inv sp_1 ty σ' ∧ sv_ofx [(10, 19), (10, 20), (10, 21), (10, 22), (10, 23), (10, 24)] [60, 65, 66, 67, 68, 69, 70, 71, 72, 73, 74] ty σ σ') σ2010 410 [(0, sv_r a), (2, sv_i Kg1507_l2), (3, sv_i Xg2009_l3), (4, sv_i Xg2009_l4)] [] := by
    intro n
    induction n with
    | zero => intro Xg2009_l3 Xg2009_l4 Xg2009_fa_19 Xg2009_fa_20 Xg2009_fa_21 σ2010 hXg2009_l3 hXg2009_l4 hXg2009_fa_19 hXg2009_fa_20 hXg2009_fa_21 okσ2010 Iσ2010 Fσ2010 eσ2010_0 eσ2010_1 eσ2010_2 eσ2010_3 eσ2010_4 eσ2010_5 eσ2010_6 eσ2010_7 eσ2010_8 eσ2010_9 eσ2010_10 eσ2010_11 eσ2010_12 eσ2010_13 eσ2010_14 hLo hL hmu; exact absurd hmu (by omega)
    | succ n ih2012 =>
      intro Xg2009_l3 Xg2009_l4 Xg2009_fa_19 Xg2009_fa_20 Xg2009_fa_21 σ2010 hXg2009_l3 hXg2009_l4 hXg2009_fa_19 hXg2009_fa_20 hXg2009_fa_21 okσ2010 Iσ2010 Fσ2010 eσ2010_0 eσ2010_1 eσ2010_2 eσ2010_3 eσ2010_4 eσ2010_5 eσ2010_6 eσ2010_7 eσ2010_8 eσ2010_9 eσ2010_10 eσ2010_11 eσ2010_12 eσ2010_13 eσ2010_14 hLo hL hmu
      clear zk410
      refine sv_go C.1 C.2.1 [(.aload_n 0, 1)] (pc' := 411) (by decide +kernel) rfl (lv' := [(0, sv_r a), (2, sv_i Kg1507_l2), (3, sv_i Xg2009_l3), (4, sv_i Xg2009_l4)]) (st' := [sv_r a]) rfl ?_
      refine sq_ldc C (index := 217) (tx := "vigil") 19 (by decide) rfl (by decide +kernel) ?_
      refine sv_cv C (index := 208) (k := 1) (rest := []) (ci := 10) (r := (RX11, TX11, 47)) (by decide +kernel) (sf_X11_is l g A ty σ2010 okσ2010 hTA Iσ2010 a k_a 19 (by decide) (n18) ⟨by omega, by omega⟩ (Xg2009_fa_19) ⟨by omega, by omega⟩ (Xg2009_fa_20) ⟨by omega, by omega⟩ (Xg2009_fa_21) ⟨by omega, by omega⟩ eσ2010_0 eσ2010_8 eσ2010_9 eσ2010_10 (by omega) (by omega) (by omega)) ⟨co_X11_is, in_X11, ⟨by decide, by decide, by decide +kernel⟩, Nat.le_of_ble_eq_true rfl, Nat.le_of_ble_eq_true rfl⟩ ml_X11_208 im_X11_is se_X11_is (by rw [k_a]; rfl) rfl rfl rfl (Nat.le_of_ble_eq_true rfl) ⟨Nat.zero_le _, Nat.zero_le _⟩ (fun r2014 σ2015 hpo2013 hok2016 => ?_)
      obtain ⟨rfl, ⟨vu2017, rfl, hvu2017, ivu2017_0⟩⟩ := hpo2013
      replace ivu2017_0 := zq_mk ivu2017_0
      refine sv_same (st2 := [sv_i vu2017]) (lv2 := [(0, sv_r a), (2, sv_i Kg1507_l2), (3, sv_i Xg2009_l3), (4, sv_i Xg2009_l4)]) rfl rfl ?_
      have J2020 : (Xg2009_fa_21 = 1) → st_E p l e { frames := 6, cells := 0, slots := 0, locals := 129 } s m args below meth c 7 g A ty (fun r σ' => (r = []) ∧ sv_inv sp_1 ty σ' ∧ sv_ofx [(10, 19), (10, 20), (10, 21), (10, 22), (10, 23), (10, 24)] [60, 65, 66, 67, 68, 69, 70, 71, 72, 73, 74] ty σ σ' ∧ ∃ c1 c2 hc : Int, σ' a 19 = c1 ∧ σ' a 20 = c2 ∧ σ' a 21 = hc ∧ (b1 ≤ c1 ∧ c1 ≤ c2 ∧ c2 ≤ n18) ∧ (0 ≤ hc ∧ hc ≤ 4) ∧ (hc = 0 ∨ c1 < c2) ∧ (hc ≠ 1 ∨ c2 ≤ c1 + 12)) (fun x σ' => ty x = 11 ∧ sv_inv sp_1 ty σ' ∧ sv_ofx [(10, 19), (10, 20), (10, 21), (10, 22), (10, 23), (10, 24)] [60, 65, 66, 67, 68, 69, 70, 71, 72, 73, 74] ty σ σ') σ2010 446 [(0, sv_r a), (2, sv_i Kg1507_l2), (3, sv_i Xg2009_l3), (4, sv_i Xg2009_l4)] [] := by
        intro zj446
        refine sv_go C.1 C.2.1 [(.aload_n 0, 1)] (pc' := 447) (by decide +kernel) rfl (lv' := [(0, sv_r a), (2, sv_i Kg1507_l2), (3, sv_i Xg2009_l3), (4, sv_i Xg2009_l4)]) (st' := [sv_r a]) rfl ?_
        refine sq_ldc C (index := 217) (tx := "vigil") 19 (by decide) rfl (by decide +kernel) ?_
        refine sv_cv C (index := 208) (k := 1) (rest := []) (ci := 10) (r := (RX11, TX11, 47)) (by decide +kernel) (sf_X11_is l g A ty σ2010 hok2016 hTA Iσ2010 a k_a 19 (by decide) (n18) ⟨by omega, by omega⟩ (Xg2009_fa_19) ⟨by omega, by omega⟩ (Xg2009_fa_20) ⟨by omega, by omega⟩ (Xg2009_fa_21) ⟨by omega, by omega⟩ eσ2010_0 eσ2010_8 eσ2010_9 eσ2010_10 (by omega) (by omega) (by omega)) ⟨co_X11_is, in_X11, ⟨by decide, by decide, by decide +kernel⟩, Nat.le_of_ble_eq_true rfl, Nat.le_of_ble_eq_true rfl⟩ ml_X11_208 im_X11_is se_X11_is (by rw [k_a]; rfl) rfl rfl rfl (Nat.le_of_ble_eq_true rfl) ⟨Nat.zero_le _, Nat.zero_le _⟩ (fun r2022 σ2023 hpo2021 hok2024 => ?_)
        obtain ⟨rfl, ⟨vu2025, rfl, hvu2025, ivu2025_0⟩⟩ := hpo2021
        replace ivu2025_0 := zq_mk ivu2025_0
        refine sv_same (st2 := [sv_i vu2025]) (lv2 := [(0, sv_r a), (2, sv_i Kg1507_l2), (3, sv_i Xg2009_l3), (4, sv_i Xg2009_l4)]) rfl rfl ?_
        have J2028 : st_E p l e { frames := 6, cells := 0, slots := 0, locals := 129 } s m args below meth c 7 g A ty (fun r σ' => (r = []) ∧ sv_inv sp_1 ty σ' ∧ sv_ofx [(10, 19), (10, 20), (10, 21), (10, 22), (10, 23), (10, 24)] [60, 65, 66, 67, 68, 69, 70, 71, 72, 73, 74] ty σ σ' ∧ ∃ c1 c2 hc : Int, σ' a 19 = c1 ∧ σ' a 20 = c2 ∧ σ' a 21 = hc ∧ (b1 ≤ c1 ∧ c1 ≤ c2 ∧ c2 ≤ n18) ∧ (0 ≤ hc ∧ hc ≤ 4) ∧ (hc = 0 ∨ c1 < c2) ∧ (hc ≠ 1 ∨ c2 ≤ c1 + 12)) (fun x σ' => ty x = 11 ∧ sv_inv sp_1 ty σ' ∧ sv_ofx [(10, 19), (10, 20), (10, 21), (10, 22), (10, 23), (10, 24)] [60, 65, 66, 67, 68, 69, 70, 71, 72, 73, 74] ty σ σ') σ2010 464 [(0, sv_r a), (2, sv_i Kg1507_l2), (3, sv_i Xg2009_l3), (4, sv_i Xg2009_l4)] [] := by
          refine sv_go C.1 C.2.1 [(.aload_n 0, 1)] (pc' := 465) (by decide +kernel) rfl (lv' := [(0, sv_r a), (2, sv_i Kg1507_l2), (3, sv_i Xg2009_l3), (4, sv_i Xg2009_l4)]) (st' := [sv_r a]) rfl ?_
          refine sq_ldc C (index := 218) (tx := "octave") 20 (by decide) rfl (by decide +kernel) ?_
          refine sv_cv C (index := 208) (k := 1) (rest := []) (ci := 10) (r := (RX11, TX11, 47)) (by decide +kernel) (sf_X11_is l g A ty σ2010 hok2024 hTA Iσ2010 a k_a 20 (by decide) (n18) ⟨by omega, by omega⟩ (Xg2009_fa_19) ⟨by omega, by omega⟩ (Xg2009_fa_20) ⟨by omega, by omega⟩ (Xg2009_fa_21) ⟨by omega, by omega⟩ eσ2010_0 eσ2010_8 eσ2010_9 eσ2010_10 (by omega) (by omega) (by omega)) ⟨co_X11_is, in_X11, ⟨by decide, by decide, by decide +kernel⟩, Nat.le_of_ble_eq_true rfl, Nat.le_of_ble_eq_true rfl⟩ ml_X11_208 im_X11_is se_X11_is (by rw [k_a]; rfl) rfl rfl rfl (Nat.le_of_ble_eq_true rfl) ⟨Nat.zero_le _, Nat.zero_le _⟩ (fun r2030 σ2031 hpo2029 hok2032 => ?_)
          obtain ⟨rfl, ⟨vu2033, rfl, hvu2033, ivu2033_0⟩⟩ := hpo2029
          replace ivu2033_0 := zq_mk ivu2033_0
          refine sv_same (st2 := [sv_i vu2033]) (lv2 := [(0, sv_r a), (2, sv_i Kg1507_l2), (3, sv_i Xg2009_l3), (4, sv_i Xg2009_l4)]) rfl rfl ?_
          have J2036 : st_E p l e { frames := 6, cells := 0, slots := 0, locals := 129 } s m args below meth c 7 g A ty (fun r σ' => (r = []) ∧ sv_inv sp_1 ty σ' ∧ sv_ofx [(10, 19), (10, 20), (10, 21), (10, 22), (10, 23), (10, 24)] [60, 65, 66, 67, 68, 69, 70, 71, 72, 73, 74] ty σ σ' ∧ ∃ c1 c2 hc : Int, σ' a 19 = c1 ∧ σ' a 20 = c2 ∧ σ' a 21 = hc ∧ (b1 ≤ c1 ∧ c1 ≤ c2 ∧ c2 ≤ n18) ∧ (0 ≤ hc ∧ hc ≤ 4) ∧ (hc = 0 ∨ c1 < c2) ∧ (hc ≠ 1 ∨ c2 ≤ c1 + 12)) (fun x σ' => ty x = 11 ∧ sv_inv sp_1 ty σ' ∧ sv_ofx [(10, 19), (10, 20), (10, 21), (10, 22), (10, 23), (10, 24)] [60, 65, 66, 67, 68, 69, 70, 71, 72, 73, 74] ty σ σ') σ2010 482 [(0, sv_r a), (2, sv_i Kg1507_l2), (3, sv_i Xg2009_l3), (4, sv_i Xg2009_l4)] [] := by
            refine sv_go C.1 C.2.1 [(.aload_n 0, 1)] (pc' := 483) (by decide +kernel) rfl (lv' := [(0, sv_r a), (2, sv_i Kg1507_l2), (3, sv_i Xg2009_l3), (4, sv_i Xg2009_l4)]) (st' := [sv_r a]) rfl ?_
            refine sq_ldc C (index := 219) (tx := "from") 21 (by decide) rfl (by decide +kernel) ?_
            refine sv_cv C (index := 208) (k := 1) (rest := []) (ci := 10) (r := (RX11, TX11, 47)) (by decide +kernel) (sf_X11_is l g A ty σ2010 hok2032 hTA Iσ2010 a k_a 21 (by decide) (n18) ⟨by omega, by omega⟩ (Xg2009_fa_19) ⟨by omega, by omega⟩ (Xg2009_fa_20) ⟨by omega, by omega⟩ (Xg2009_fa_21) ⟨by omega, by omega⟩ eσ2010_0 eσ2010_8 eσ2010_9 eσ2010_10 (by omega) (by omega) (by omega)) ⟨co_X11_is, in_X11, ⟨by decide, by decide, by decide +kernel⟩, Nat.le_of_ble_eq_true rfl, Nat.le_of_ble_eq_true rfl⟩ ml_X11_208 im_X11_is se_X11_is (by rw [k_a]; rfl) rfl rfl rfl (Nat.le_of_ble_eq_true rfl) ⟨Nat.zero_le _, Nat.zero_le _⟩ (fun r2038 σ2039 hpo2037 hok2040 => ?_)
            obtain ⟨rfl, ⟨vu2041, rfl, hvu2041, ivu2041_0⟩⟩ := hpo2037
            replace ivu2041_0 := zq_mk ivu2041_0
            refine sv_same (st2 := [sv_i vu2041]) (lv2 := [(0, sv_r a), (2, sv_i Kg1507_l2), (3, sv_i Xg2009_l3), (4, sv_i Xg2009_l4)]) rfl rfl ?_
            have J2044 : st_E p l e { frames := 6, cells := 0, slots := 0, locals := 129 } s m args below meth c 7 g A ty (fun r σ' => (r = []) ∧ sv_inv sp_1 ty σ' ∧ sv_ofx [(10, 19), (10, 20), (10, 21), (10, 22), (10, 23), (10, 24)] [60, 65, 66, 67, 68, 69, 70, 71, 72, 73, 74] ty σ σ' ∧ ∃ c1 c2 hc : Int, σ' a 19 = c1 ∧ σ' a 20 = c2 ∧ σ' a 21 = hc ∧ (b1 ≤ c1 ∧ c1 ≤ c2 ∧ c2 ≤ n18) ∧ (0 ≤ hc ∧ hc ≤ 4) ∧ (hc = 0 ∨ c1 < c2) ∧ (hc ≠ 1 ∨ c2 ≤ c1 + 12)) (fun x σ' => ty x = 11 ∧ sv_inv sp_1 ty σ' ∧ sv_ofx [(10, 19), (10, 20), (10, 21), (10, 22), (10, 23), (10, 24)] [60, 65, 66, 67, 68, 69, 70, 71, 72, 73, 74] ty σ σ') σ2010 495 [(0, sv_r a), (2, sv_i Kg1507_l2), (3, sv_i Xg2009_l3), (4, sv_i Xg2009_l4)] [] := by
              refine sv_go C.1 C.2.1 [(.aload_n 0, 1)] (pc' := 496) (by decide +kernel) rfl (lv' := [(0, sv_r a), (2, sv_i Kg1507_l2), (3, sv_i Xg2009_l3), (4, sv_i Xg2009_l4)]) (st' := [sv_r a]) rfl ?_
              refine sq_ldc C (index := 220) (tx := "till") 22 (by decide) rfl (by decide +kernel) ?_
              refine sv_cv C (index := 208) (k := 1) (rest := []) (ci := 10) (r := (RX11, TX11, 47)) (by decide +kernel) (sf_X11_is l g A ty σ2010 hok2040 hTA Iσ2010 a k_a 22 (by decide) (n18) ⟨by omega, by omega⟩ (Xg2009_fa_19) ⟨by omega, by omega⟩ (Xg2009_fa_20) ⟨by omega, by omega⟩ (Xg2009_fa_21) ⟨by omega, by omega⟩ eσ2010_0 eσ2010_8 eσ2010_9 eσ2010_10 (by omega) (by omega) (by omega)) ⟨co_X11_is, in_X11, ⟨by decide, by decide, by decide +kernel⟩, Nat.le_of_ble_eq_true rfl, Nat.le_of_ble_eq_true rfl⟩ ml_X11_208 im_X11_is se_X11_is (by rw [k_a]; rfl) rfl rfl rfl (Nat.le_of_ble_eq_true rfl) ⟨Nat.zero_le _, Nat.zero_le _⟩ (fun r2046 σ2047 hpo2045 hok2048 => ?_)
              obtain ⟨rfl, ⟨vu2049, rfl, hvu2049, ivu2049_0⟩⟩ := hpo2045
              replace ivu2049_0 := zq_mk ivu2049_0
              refine sv_same (st2 := [sv_i vu2049]) (lv2 := [(0, sv_r a), (2, sv_i Kg1507_l2), (3, sv_i Xg2009_l3), (4, sv_i Xg2009_l4)]) rfl rfl ?_
              have J2052 : st_E p l e { frames := 6, cells := 0, slots := 0, locals := 129 } s m args below meth c 7 g A ty (fun r σ' => (r = []) ∧ sv_inv sp_1 ty σ' ∧ sv_ofx [(10, 19), (10, 20), (10, 21), (10, 22), (10, 23), (10, 24)] [60, 65, 66, 67, 68, 69, 70, 71, 72, 73, 74] ty σ σ' ∧ ∃ c1 c2 hc : Int, σ' a 19 = c1 ∧ σ' a 20 = c2 ∧ σ' a 21 = hc ∧ (b1 ≤ c1 ∧ c1 ≤ c2 ∧ c2 ≤ n18) ∧ (0 ≤ hc ∧ hc ≤ 4) ∧ (hc = 0 ∨ c1 < c2) ∧ (hc ≠ 1 ∨ c2 ≤ c1 + 12)) (fun x σ' => ty x = 11 ∧ sv_inv sp_1 ty σ' ∧ sv_ofx [(10, 19), (10, 20), (10, 21), (10, 22), (10, 23), (10, 24)] [60, 65, 66, 67, 68, 69, 70, 71, 72, 73, 74] ty σ σ') σ2010 515 [(0, sv_r a), (2, sv_i Kg1507_l2), (3, sv_i Xg2009_l3), (4, sv_i Xg2009_l4)] [] := by
                refine sv_go C.1 C.2.1 [(.aload_n 0, 1)] (pc' := 516) (by decide +kernel) rfl (lv' := [(0, sv_r a), (2, sv_i Kg1507_l2), (3, sv_i Xg2009_l3), (4, sv_i Xg2009_l4)]) (st' := [sv_r a]) rfl ?_
                refine sq_ldc C (index := 217) (tx := "vigil") 19 (by decide) rfl (by decide +kernel) ?_
                refine sv_cv C (index := 208) (k := 1) (rest := []) (ci := 10) (r := (RX11, TX11, 47)) (by decide +kernel) (sf_X11_is l g A ty σ2010 hok2048 hTA Iσ2010 a k_a 19 (by decide) (n18) ⟨by omega, by omega⟩ (Xg2009_fa_19) ⟨by omega, by omega⟩ (Xg2009_fa_20) ⟨by omega, by omega⟩ (Xg2009_fa_21) ⟨by omega, by omega⟩ eσ2010_0 eσ2010_8 eσ2010_9 eσ2010_10 (by omega) (by omega) (by omega)) ⟨co_X11_is, in_X11, ⟨by decide, by decide, by decide +kernel⟩, Nat.le_of_ble_eq_true rfl, Nat.le_of_ble_eq_true rfl⟩ ml_X11_208 im_X11_is se_X11_is (by rw [k_a]; rfl) rfl rfl rfl (Nat.le_of_ble_eq_true rfl) ⟨Nat.zero_le _, Nat.zero_le _⟩ (fun r2054 σ2055 hpo2053 hok2056 => ?_)
                obtain ⟨rfl, ⟨vu2057, rfl, hvu2057, ivu2057_0⟩⟩ := hpo2053
                replace ivu2057_0 := zq_mk ivu2057_0
                refine sv_same (st2 := [sv_i vu2057]) (lv2 := [(0, sv_r a), (2, sv_i Kg1507_l2), (3, sv_i Xg2009_l3), (4, sv_i Xg2009_l4)]) rfl rfl ?_
                refine sv_if C.1 C.2.1 (cnd := .eq) (off := 17) (tgt := 538) (by decide +kernel) (by decide) ⟨by omega, by omega⟩ (fun (h2058 : vu2057 = 0) => ?_) (fun (h2058 : ¬ (vu2057 = 0)) => ?_)
                · refine sv_go C.1 C.2.1 [(.aload_n 0, 1)] (pc' := 539) (by decide +kernel) rfl (lv' := [(0, sv_r a), (2, sv_i Kg1507_l2), (3, sv_i Xg2009_l3), (4, sv_i Xg2009_l4)]) (st' := [sv_r a]) rfl ?_
                  refine sq_ldc C (index := 218) (tx := "octave") 20 (by decide) rfl (by decide +kernel) ?_
                  refine sv_cv C (index := 208) (k := 1) (rest := []) (ci := 10) (r := (RX11, TX11, 47)) (by decide +kernel) (sf_X11_is l g A ty σ2010 hok2056 hTA Iσ2010 a k_a 20 (by decide) (n18) ⟨by omega, by omega⟩ (Xg2009_fa_19) ⟨by omega, by omega⟩ (Xg2009_fa_20) ⟨by omega, by omega⟩ (Xg2009_fa_21) ⟨by omega, by omega⟩ eσ2010_0 eσ2010_8 eσ2010_9 eσ2010_10 (by omega) (by omega) (by omega)) ⟨co_X11_is, in_X11, ⟨by decide, by decide, by decide +kernel⟩, Nat.le_of_ble_eq_true rfl, Nat.le_of_ble_eq_true rfl⟩ ml_X11_208 im_X11_is se_X11_is (by rw [k_a]; rfl) rfl rfl rfl (Nat.le_of_ble_eq_true rfl) ⟨Nat.zero_le _, Nat.zero_le _⟩ (fun r2060 σ2061 hpo2059 hok2062 => ?_)
                  obtain ⟨rfl, ⟨vu2063, rfl, hvu2063, ivu2063_0⟩⟩ := hpo2059
                  replace ivu2063_0 := zq_mk ivu2063_0
                  refine sv_same (st2 := [sv_i vu2063]) (lv2 := [(0, sv_r a), (2, sv_i Kg1507_l2), (3, sv_i Xg2009_l3), (4, sv_i Xg2009_l4)]) rfl rfl ?_
                  refine sv_if C.1 C.2.1 (cnd := .eq) (off := 17) (tgt := 561) (by decide +kernel) (by decide) ⟨by omega, by omega⟩ (fun (h2064 : vu2063 = 0) => ?_) (fun (h2064 : ¬ (vu2063 = 0)) => ?_)
                  · refine sv_go C.1 C.2.1 [(.aload_n 0, 1)] (pc' := 562) (by decide +kernel) rfl (lv' := [(0, sv_r a), (2, sv_i Kg1507_l2), (3, sv_i Xg2009_l3), (4, sv_i Xg2009_l4)]) (st' := [sv_r a]) rfl ?_
                    refine sq_ldc C (index := 219) (tx := "from") 21 (by decide) rfl (by decide +kernel) ?_
                    refine sv_cv C (index := 208) (k := 1) (rest := []) (ci := 10) (r := (RX11, TX11, 47)) (by decide +kernel) (sf_X11_is l g A ty σ2010 hok2062 hTA Iσ2010 a k_a 21 (by decide) (n18) ⟨by omega, by omega⟩ (Xg2009_fa_19) ⟨by omega, by omega⟩ (Xg2009_fa_20) ⟨by omega, by omega⟩ (Xg2009_fa_21) ⟨by omega, by omega⟩ eσ2010_0 eσ2010_8 eσ2010_9 eσ2010_10 (by omega) (by omega) (by omega)) ⟨co_X11_is, in_X11, ⟨by decide, by decide, by decide +kernel⟩, Nat.le_of_ble_eq_true rfl, Nat.le_of_ble_eq_true rfl⟩ ml_X11_208 im_X11_is se_X11_is (by rw [k_a]; rfl) rfl rfl rfl (Nat.le_of_ble_eq_true rfl) ⟨Nat.zero_le _, Nat.zero_le _⟩ (fun r2066 σ2067 hpo2065 hok2068 => ?_)
                    obtain ⟨rfl, ⟨vu2069, rfl, hvu2069, ivu2069_0⟩⟩ := hpo2065
                    replace ivu2069_0 := zq_mk ivu2069_0
                    refine sv_same (st2 := [sv_i vu2069]) (lv2 := [(0, sv_r a), (2, sv_i Kg1507_l2), (3, sv_i Xg2009_l3), (4, sv_i Xg2009_l4)]) rfl rfl ?_
                    refine sv_go C.1 C.2.1 [(.istore 5, 2), (.aload_n 0, 1)] (pc' := 570) (by decide +kernel) rfl (lv' := [(0, sv_r a), (2, sv_i Kg1507_l2), (3, sv_i Xg2009_l3), (4, sv_i Xg2009_l4), (5, sv_i vu2069)]) (st' := [sv_r a]) rfl ?_
                    refine sv_cv C (index := 229) (k := 0) (rest := []) (ci := 10) (r := (RX11, TX11, 47)) (by decide +kernel) (sf_X11_scan l g A ty σ2010 hok2068 hTA Iσ2010 a k_a (n18) ⟨by omega, by omega⟩ (Xg2009_fa_20) ⟨by omega, by omega⟩ eσ2010_0 eσ2010_9 (by omega)) ⟨co_X11_scan, in_X11, ⟨by decide, by decide, by decide +kernel⟩, Nat.le_of_ble_eq_true rfl, Nat.le_of_ble_eq_true rfl⟩ ml_X11_229 im_X11_scan se_X11_scan (by rw [k_a]; rfl) rfl rfl rfl (Nat.le_of_ble_eq_true rfl) ⟨Nat.zero_le _, Nat.zero_le _⟩ (fun r2071 σ2072 hpo2070 hok2073 => ?_)
                    obtain ⟨rfl, hIu2074, hFu2074, xu2074⟩ := hpo2070
                    have hGu2074 := Fσ2010.tr hFu2074 (by decide +kernel) (by decide +kernel)
                    have t2075 : σ2072 a 18 = n18 := (hFu2074.at k_a (by decide +kernel) (by decide +kernel)).trans eσ2010_0
                    have t2076 : σ2072 a 0 = (qa0 : Int) + 1 := (hFu2074.at k_a (by decide +kernel) (by decide +kernel)).trans eσ2010_1
                    have t2077 : σ2072 qa0 (4 : Int).toNat = Kg1507_e2 := (hFu2074.atA kqa0 (by decide +kernel) (by decide +kernel)).trans eσ2010_2
                    have t2078 : σ2072 a 5 = (Kg1507_fa_5 : Int) + 1 := (hFu2074.at k_a (by decide +kernel) (by decide +kernel)).trans eσ2010_3
                    have t2079 : σ2072 a 6 = (Kg1507_fa_6 : Int) + 1 := (hFu2074.at k_a (by decide +kernel) (by decide +kernel)).trans eσ2010_4
                    have t2080 : σ2072 a 7 = (Kg1507_fa_7 : Int) + 1 := (hFu2074.at k_a (by decide +kernel) (by decide +kernel)).trans eσ2010_5
                    have t2081 : σ2072 a 8 = (Kg1507_fa_8 : Int) + 1 := (hFu2074.at k_a (by decide +kernel) (by decide +kernel)).trans eσ2010_6
                    have t2082 : σ2072 a 11 = (Kg1507_fa_11 : Int) + 1 := (hFu2074.at k_a (by decide +kernel) (by decide +kernel)).trans eσ2010_7
                    have t2083 : σ2072 a 12 = (Kg1507_fa_12 : Int) + 1 := (hFu2074.at k_a (by decide +kernel) (by decide +kernel)).trans eσ2010_11
                    have t2084 : σ2072 a 13 = (Kg1507_fa_13 : Int) + 1 := (hFu2074.at k_a (by decide +kernel) (by decide +kernel)).trans eσ2010_12
                    have t2085 : σ2072 a 9 = (Kg1507_fa_9 : Int) + 1 := (hFu2074.at k_a (by decide +kernel) (by decide +kernel)).trans eσ2010_13
                    have t2086 : σ2072 a 10 = (Kg1507_fa_10 : Int) + 1 := (hFu2074.at k_a (by decide +kernel) (by decide +kernel)).trans eσ2010_14
                    have hltu2074 : Xg2009_fa_19 < Xg2009_fa_20 := by omega
                    clear hL
                    obtain ⟨c1u2074, c2u2074, chu2074, e19u2074, e20u2074, e21u2074, j1u2074, j2u2074, j3u2074, j4u2074⟩ := xu2074
                    refine sv_same (st2 := []) (lv2 := [(0, sv_r a), (2, sv_i Kg1507_l2), (3, sv_i Xg2009_l3), (4, sv_i Xg2009_l4), (5, sv_i vu2069)]) rfl rfl ?_
                    refine sv_go C.1 C.2.1 [(.aload_n 0, 1), (.iconst 1, 1), (.sipush 2000, 3)] (pc' := 578) (by decide +kernel) rfl (lv' := [(0, sv_r a), (2, sv_i Kg1507_l2), (3, sv_i Xg2009_l3), (4, sv_i Xg2009_l4), (5, sv_i vu2069)]) (st' := [sv_i 2000, sv_i 1, sv_r a]) rfl ?_
                    refine st_cv C (index := 232) (k := 2) (rest := []) (ci := 10) (r := (RX11, TX11, 47)) (by decide +kernel) (sf_X11_number l g A ty σ2072 hok2073 hTA hIu2074 a k_a (1) ⟨by omega, by omega⟩ (2000) ⟨by omega, by omega⟩ (n18) ⟨by omega, by omega⟩ (c1u2074) ⟨by omega, by omega⟩ (c2u2074) ⟨by omega, by omega⟩ (chu2074) ⟨by omega, by omega⟩ t2075 e19u2074 e20u2074 e21u2074 (by omega) (by omega) (by omega)) ⟨co_X11_number, in_X11, ⟨by decide, by decide, by decide +kernel⟩, Nat.le_of_ble_eq_true rfl, Nat.le_of_ble_eq_true rfl⟩ ml_X11_232 im_X11_number se_X11_number (by rw [k_a]; rfl) rfl rfl rfl (Nat.le_of_ble_eq_true rfl) ⟨Nat.zero_le _, Nat.zero_le _⟩ (fun r2088 σ2089 hpo2087 hok2090 => ?_) (fun xt2091 σ2089 hpo2087 hok2090 => st_out C hE hok2090 ⟨hpo2087.1, hpo2087.2.1, hGu2074.tr hpo2087.2.2 (by decide +kernel) (by decide +kernel)⟩)
                    obtain ⟨⟨vu2092, rfl, hvu2092, ivu2092_0⟩, hIu2092, hFu2092⟩ := hpo2087
                    have hGu2092 := hGu2074.tr hFu2092 (by decide +kernel) (by decide +kernel)
                    have t2093 : σ2089 a 18 = n18 := (hFu2092.at k_a (by decide +kernel) (by decide +kernel)).trans t2075
                    have t2094 : σ2089 a 0 = (qa0 : Int) + 1 := (hFu2092.at k_a (by decide +kernel) (by decide +kernel)).trans t2076
                    have t2095 : σ2089 qa0 (4 : Int).toNat = Kg1507_e2 := (hFu2092.atA kqa0 (by decide +kernel) (by decide +kernel)).trans t2077
                    have t2096 : σ2089 a 5 = (Kg1507_fa_5 : Int) + 1 := (hFu2092.at k_a (by decide +kernel) (by decide +kernel)).trans t2078
                    have t2097 : σ2089 a 6 = (Kg1507_fa_6 : Int) + 1 := (hFu2092.at k_a (by decide +kernel) (by decide +kernel)).trans t2079
                    have t2098 : σ2089 a 7 = (Kg1507_fa_7 : Int) + 1 := (hFu2092.at k_a (by decide +kernel) (by decide +kernel)).trans t2080
                    have t2099 : σ2089 a 8 = (Kg1507_fa_8 : Int) + 1 := (hFu2092.at k_a (by decide +kernel) (by decide +kernel)).trans t2081
                    have t2100 : σ2089 a 11 = (Kg1507_fa_11 : Int) + 1 := (hFu2092.at k_a (by decide +kernel) (by decide +kernel)).trans t2082
                    have t2101 : σ2089 a 12 = (Kg1507_fa_12 : Int) + 1 := (hFu2092.at k_a (by decide +kernel) (by decide +kernel)).trans t2083
                    have t2102 : σ2089 a 13 = (Kg1507_fa_13 : Int) + 1 := (hFu2092.at k_a (by decide +kernel) (by decide +kernel)).trans t2084
                    have t2103 : σ2089 a 9 = (Kg1507_fa_9 : Int) + 1 := (hFu2092.at k_a (by decide +kernel) (by decide +kernel)).trans t2085
                    have t2104 : σ2089 a 10 = (Kg1507_fa_10 : Int) + 1 := (hFu2092.at k_a (by decide +kernel) (by decide +kernel)).trans t2086
                    have t2105 : σ2089 a 19 = c1u2074 := (hFu2092.at k_a (by decide +kernel) (by decide +kernel)).trans e19u2074
                    have t2106 : σ2089 a 20 = c2u2074 := (hFu2092.at k_a (by decide +kernel) (by decide +kernel)).trans e20u2074
                    have t2107 : σ2089 a 21 = chu2074 := (hFu2092.at k_a (by decide +kernel) (by decide +kernel)).trans e21u2074
                    replace ivu2092_0 := zq_mk ivu2092_0
                    have hp2108 := zq_un ivu2092_0 (by omega) (by omega)
                    refine sv_same (st2 := [sv_i vu2092]) (lv2 := [(0, sv_r a), (2, sv_i Kg1507_l2), (3, sv_i Xg2009_l3), (4, sv_i Xg2009_l4), (5, sv_i vu2069)]) rfl rfl ?_
                    refine sv_go C.1 C.2.1 [(.istore 6, 2), (.iload 5, 2)] (pc' := 585) (by decide +kernel) rfl (lv' := [(0, sv_r a), (2, sv_i Kg1507_l2), (3, sv_i Xg2009_l3), (4, sv_i Xg2009_l4), (5, sv_i vu2069), (6, sv_i vu2092)]) (st' := [sv_i vu2069]) rfl ?_
                    have J2112 : ∀ (Jg2110_l3 : Int) (Jg2110_l4 : Int) (σ2111 : Nat → Nat → Int), (0 ≤ Jg2110_l3 ∧ Jg2110_l3 ≤ 1) → (0 ≤ Jg2110_l4 ∧ Jg2110_l4 ≤ 1) → (sv_ok ty σ2111) → (sv_inv sp_1 ty σ2111) → (sv_ofx [(10, 19), (10, 20), (10, 21), (10, 22), (10, 23), (10, 24)] [60, 65, 66, 67, 68, 69, 70, 71, 72, 73, 74] ty σ σ2111) → (σ2111 a 18 = n18) → (σ2111 a 0 = (qa0 : Int) + 1) → (σ2111 qa0 (4 : Int).toNat = Kg1507_e2) → (σ2111 a 5 = (Kg1507_fa_5 : Int) + 1) → (σ2111 a 6 = (Kg1507_fa_6 : Int) + 1) → (σ2111 a 7 = (Kg1507_fa_7 : Int) + 1) → (σ2111 a 8 = (Kg1507_fa_8 : Int) + 1) → (σ2111 a 11 = (Kg1507_fa_11 : Int) + 1) → (σ2111 a 12 = (Kg1507_fa_12 : Int) + 1) → (σ2111 a 13 = (Kg1507_fa_13 : Int) + 1) → (σ2111 a 9 = (Kg1507_fa_9 : Int) + 1) → (σ2111 a 10 = (Kg1507_fa_10 : Int) + 1) → (σ2111 a 19 = c1u2074) → (σ2111 a 20 = c2u2074) → (σ2111 a 21 = chu2074) → (b1 ≤ c1u2074 ∧ c1u2074 ≤ c2u2074 ∧ c2u2074 ≤ n18) → ((chu2074 = 0 ∨ c1u2074 < c2u2074) ∧ (chu2074 ≠ 1 ∨ c2u2074 ≤ c1u2074 + 12)) → st_E p l e { frames := 6, cells := 0, slots := 0, locals := 129 } s m args below meth c 7 g A ty (fun r σ' => (r = []) ∧ sv_inv sp_1 ty σ' ∧ sv_ofx [(10, 19), (10, 20), (10, 21), (10, 22), (10, 23), (10, 24)] [60, 65, 66, 67, 68, 69, 70, 71, 72, 73, 74] ty σ σ' ∧ ∃ c1 c2 hc : Int, σ' a 19 = c1 ∧ σ' a 20 = c2 ∧ σ' a 21 = hc ∧ (b1 ≤ c1 ∧ c1 ≤ c2 ∧ c2 ≤ n18) ∧ (0 ≤ hc ∧ hc ≤ 4) ∧ (hc = 0 ∨ c1 < c2) ∧ (hc ≠ 1 ∨ c2 ≤ c1 + 12)) (fun x σ' => ty x = 11 ∧ sv_inv sp_1 ty σ' ∧ sv_ofx [(10, 19), (10, 20), (10, 21), (10, 22), (10, 23), (10, 24)] [60, 65, 66, 67, 68, 69, 70, 71, 72, 73, 74] ty σ σ') σ2111 612 [(0, sv_r a), (2, sv_i Kg1507_l2), (3, sv_i Jg2110_l3), (4, sv_i Jg2110_l4)] [] := by
                      intro Jg2110_l3 Jg2110_l4 σ2111 hJg2110_l3 hJg2110_l4 okσ2111 Iσ2111 Fσ2111 eσ2111_0 eσ2111_1 eσ2111_2 eσ2111_3 eσ2111_4 eσ2111_5 eσ2111_6 eσ2111_7 eσ2111_8 eσ2111_9 eσ2111_10 eσ2111_11 eσ2111_12 eσ2111_13 eσ2111_14 zj612o zj612
                      clear j3u2074 j4u2074
                      refine sv_go C.1 C.2.1 [(.aload_n 0, 1)] (pc' := 613) (by decide +kernel) rfl (lv' := [(0, sv_r a), (2, sv_i Kg1507_l2), (3, sv_i Jg2110_l3), (4, sv_i Jg2110_l4)]) (st' := [sv_r a]) rfl ?_
                      refine sv_gf C (index := 75) (ci := 10) (k := 9) (r := (RX11, TX11, 47)) (v := sv_r Kg1507_fa_9) (by decide +kernel) (by rw [k_a]; rfl) rfl (by decide) fl_X11_75 (congrArg sv_a eσ2111_10) ?_
                      refine sv_go C.1 C.2.1 [(.iload_n 2, 1)] (pc' := 617) (by decide +kernel) rfl (lv' := [(0, sv_r a), (2, sv_i Kg1507_l2), (3, sv_i Jg2110_l3), (4, sv_i Jg2110_l4)]) (st' := [sv_i Kg1507_l2, sv_r Kg1507_fa_9]) rfl ?_
                      refine sv_ia C (n := 300) (by decide +kernel) (by rw [kKg1507_fa_9]; rfl) (by decide) (by omega) (by omega) ?_
                      obtain ⟨v2113, ev2113, hv2113⟩ := sv_rde okσ2111 (a := Kg1507_fa_9) (k := (Kg1507_l2 : Int).toNat) (n := 300) (by rw [kKg1507_fa_9]; rfl) (by omega)
                      rw [ev2113]
                      refine sv_go C.1 C.2.1 [(.aload_n 0, 1)] (pc' := 619) (by decide +kernel) rfl (lv' := [(0, sv_r a), (2, sv_i Kg1507_l2), (3, sv_i Jg2110_l3), (4, sv_i Jg2110_l4)]) (st' := [sv_r a, sv_i v2113]) rfl ?_
                      refine sv_gf C (index := 78) (ci := 10) (k := 10) (r := (RX11, TX11, 47)) (v := sv_r Kg1507_fa_10) (by decide +kernel) (by rw [k_a]; rfl) rfl (by decide) fl_X11_78 (congrArg sv_a eσ2111_11) ?_
                      refine sv_go C.1 C.2.1 [(.iload_n 2, 1)] (pc' := 623) (by decide +kernel) rfl (lv' := [(0, sv_r a), (2, sv_i Kg1507_l2), (3, sv_i Jg2110_l3), (4, sv_i Jg2110_l4)]) (st' := [sv_i Kg1507_l2, sv_r Kg1507_fa_10, sv_i v2113]) rfl ?_
                      refine sv_ia C (n := 300) (by decide +kernel) (by rw [kKg1507_fa_10]; rfl) (by decide) (by omega) (by omega) ?_
                      obtain ⟨v2114, ev2114, hv2114⟩ := sv_rde okσ2111 (a := Kg1507_fa_10) (k := (Kg1507_l2 : Int).toNat) (n := 300) (by rw [kKg1507_fa_10]; rfl) (by omega)
                      rw [ev2114]
                      refine sv_icmp C.1 C.2.1 (cnd := .le) (off := 9) (tgt := 633) (by decide +kernel) (by decide) ⟨by omega, by omega⟩ ⟨by omega, by omega⟩ (fun (h2115 : v2113 ≤ v2114) => ?_) (fun (h2115 : ¬ (v2113 ≤ v2114)) => ?_)
                      · refine sv_go C.1 C.2.1 [(.aload_n 0, 1)] (pc' := 634) (by decide +kernel) rfl (lv' := [(0, sv_r a), (2, sv_i Kg1507_l2), (3, sv_i Jg2110_l3), (4, sv_i Jg2110_l4)]) (st' := [sv_r a]) rfl ?_
                        refine sv_cv C (index := 229) (k := 0) (rest := []) (ci := 10) (r := (RX11, TX11, 47)) (by decide +kernel) (sf_X11_scan l g A ty σ2111 okσ2111 hTA Iσ2111 a k_a (n18) ⟨by omega, by omega⟩ (c2u2074) ⟨by omega, by omega⟩ eσ2111_0 eσ2111_13 (by omega)) ⟨co_X11_scan, in_X11, ⟨by decide, by decide, by decide +kernel⟩, Nat.le_of_ble_eq_true rfl, Nat.le_of_ble_eq_true rfl⟩ ml_X11_229 im_X11_scan se_X11_scan (by rw [k_a]; rfl) rfl rfl rfl (Nat.le_of_ble_eq_true rfl) ⟨Nat.zero_le _, Nat.zero_le _⟩ (fun r2117 σ2118 hpo2116 hok2119 => ?_)
                        obtain ⟨rfl, hIu2120, hFu2120, xu2120⟩ := hpo2116
                        have hGu2120 := Fσ2111.tr hFu2120 (by decide +kernel) (by decide +kernel)
                        have t2121 : σ2118 a 18 = n18 := (hFu2120.at k_a (by decide +kernel) (by decide +kernel)).trans eσ2111_0
                        have t2122 : σ2118 a 0 = (qa0 : Int) + 1 := (hFu2120.at k_a (by decide +kernel) (by decide +kernel)).trans eσ2111_1
                        have t2123 : σ2118 qa0 (4 : Int).toNat = Kg1507_e2 := (hFu2120.atA kqa0 (by decide +kernel) (by decide +kernel)).trans eσ2111_2
                        have t2124 : σ2118 a 5 = (Kg1507_fa_5 : Int) + 1 := (hFu2120.at k_a (by decide +kernel) (by decide +kernel)).trans eσ2111_3
                        have t2125 : σ2118 a 6 = (Kg1507_fa_6 : Int) + 1 := (hFu2120.at k_a (by decide +kernel) (by decide +kernel)).trans eσ2111_4
                        have t2126 : σ2118 a 7 = (Kg1507_fa_7 : Int) + 1 := (hFu2120.at k_a (by decide +kernel) (by decide +kernel)).trans eσ2111_5
                        have t2127 : σ2118 a 8 = (Kg1507_fa_8 : Int) + 1 := (hFu2120.at k_a (by decide +kernel) (by decide +kernel)).trans eσ2111_6
                        have t2128 : σ2118 a 11 = (Kg1507_fa_11 : Int) + 1 := (hFu2120.at k_a (by decide +kernel) (by decide +kernel)).trans eσ2111_7
                        have t2129 : σ2118 a 12 = (Kg1507_fa_12 : Int) + 1 := (hFu2120.at k_a (by decide +kernel) (by decide +kernel)).trans eσ2111_8
                        have t2130 : σ2118 a 13 = (Kg1507_fa_13 : Int) + 1 := (hFu2120.at k_a (by decide +kernel) (by decide +kernel)).trans eσ2111_9
                        have t2131 : σ2118 a 9 = (Kg1507_fa_9 : Int) + 1 := (hFu2120.at k_a (by decide +kernel) (by decide +kernel)).trans eσ2111_10
                        have t2132 : σ2118 a 10 = (Kg1507_fa_10 : Int) + 1 := (hFu2120.at k_a (by decide +kernel) (by decide +kernel)).trans eσ2111_11
                        have t2133 : σ2118 Kg1507_fa_9 (Kg1507_l2 : Int).toNat = v2113 := (hFu2120.atA kKg1507_fa_9 (by decide +kernel) (by decide +kernel)).trans ev2113
                        have t2134 : σ2118 Kg1507_fa_10 (Kg1507_l2 : Int).toNat = v2114 := (hFu2120.atA kKg1507_fa_10 (by decide +kernel) (by decide +kernel)).trans ev2114
                        clear zj612
                        obtain ⟨c1u2120, c2u2120, chu2120, e19u2120, e20u2120, e21u2120, j1u2120, j2u2120, j3u2120, j4u2120⟩ := xu2120
                        refine sv_same (st2 := []) (lv2 := [(0, sv_r a), (2, sv_i Kg1507_l2), (3, sv_i Jg2110_l3), (4, sv_i Jg2110_l4)]) rfl rfl ?_
                        refine sv_goto C.1 C.2.1 (off := (-227)) (tgt := 410) (by decide +kernel) (by decide) ?_
                        exact ih2012 Jg2110_l3 Jg2110_l4 c1u2120 c2u2120 chu2120 σ2118 ⟨by omega, by omega⟩ ⟨by omega, by omega⟩ ⟨by omega, by omega⟩ ⟨by omega, by omega⟩ ⟨by omega, by omega⟩ hok2119 hIu2120 hGu2120 t2121 t2122 t2123 t2124 t2125 t2126 t2127 t2128 e19u2120 e20u2120 e21u2120 t2129 t2130 t2131 t2132 (by omega) (by omega) (by omega)
                      · refine sv_go C.1 C.2.1 [(.aload_n 0, 1), (.iconst 5, 1)] (pc' := 629) (by decide +kernel) rfl (lv' := [(0, sv_r a), (2, sv_i Kg1507_l2), (3, sv_i Jg2110_l3), (4, sv_i Jg2110_l4)]) (st' := [sv_i 5, sv_r a]) rfl ?_
                        refine sv_cv C (index := 225) (k := 1) (rest := []) (ci := 10) (r := (RX11, TX11, 47)) (by decide +kernel) (sf_X11_wrong l g A ty σ2111 okσ2111 hTA Iσ2111 a k_a (5) ⟨by omega, by omega⟩) ⟨co_X11_wrong, in_X11, ⟨by decide, by decide, by decide +kernel⟩, Nat.le_of_ble_eq_true rfl, Nat.le_of_ble_eq_true rfl⟩ ml_X11_225 im_X11_wrong se_X11_wrong (by rw [k_a]; rfl) rfl rfl rfl (Nat.le_of_ble_eq_true rfl) ⟨Nat.zero_le _, Nat.zero_le _⟩ (fun r2136 σ2137 hpo2135 hok2138 => ?_)
                        obtain ⟨⟨qu2139, rfl, kqu2139⟩, hIu2139, hFu2139⟩ := hpo2135
                        have hGu2139 := Fσ2111.tr hFu2139 (by decide +kernel) (by decide +kernel)
                        have t2140 : σ2137 a 18 = n18 := (hFu2139.at k_a (by decide +kernel) (by decide +kernel)).trans eσ2111_0
                        have t2141 : σ2137 a 0 = (qa0 : Int) + 1 := (hFu2139.at k_a (by decide +kernel) (by decide +kernel)).trans eσ2111_1
                        have t2142 : σ2137 qa0 (4 : Int).toNat = Kg1507_e2 := (hFu2139.atA kqa0 (by decide +kernel) (by decide +kernel)).trans eσ2111_2
                        have t2143 : σ2137 a 5 = (Kg1507_fa_5 : Int) + 1 := (hFu2139.at k_a (by decide +kernel) (by decide +kernel)).trans eσ2111_3
                        have t2144 : σ2137 a 6 = (Kg1507_fa_6 : Int) + 1 := (hFu2139.at k_a (by decide +kernel) (by decide +kernel)).trans eσ2111_4
                        have t2145 : σ2137 a 7 = (Kg1507_fa_7 : Int) + 1 := (hFu2139.at k_a (by decide +kernel) (by decide +kernel)).trans eσ2111_5
                        have t2146 : σ2137 a 8 = (Kg1507_fa_8 : Int) + 1 := (hFu2139.at k_a (by decide +kernel) (by decide +kernel)).trans eσ2111_6
                        have t2147 : σ2137 a 11 = (Kg1507_fa_11 : Int) + 1 := (hFu2139.at k_a (by decide +kernel) (by decide +kernel)).trans eσ2111_7
                        have t2148 : σ2137 a 12 = (Kg1507_fa_12 : Int) + 1 := (hFu2139.at k_a (by decide +kernel) (by decide +kernel)).trans eσ2111_8
                        have t2149 : σ2137 a 13 = (Kg1507_fa_13 : Int) + 1 := (hFu2139.at k_a (by decide +kernel) (by decide +kernel)).trans eσ2111_9
                        have t2150 : σ2137 a 9 = (Kg1507_fa_9 : Int) + 1 := (hFu2139.at k_a (by decide +kernel) (by decide +kernel)).trans eσ2111_10
                        have t2151 : σ2137 a 10 = (Kg1507_fa_10 : Int) + 1 := (hFu2139.at k_a (by decide +kernel) (by decide +kernel)).trans eσ2111_11
                        have t2152 : σ2137 a 19 = c1u2074 := (hFu2139.at k_a (by decide +kernel) (by decide +kernel)).trans eσ2111_12
                        have t2153 : σ2137 a 20 = c2u2074 := (hFu2139.at k_a (by decide +kernel) (by decide +kernel)).trans eσ2111_13
                        have t2154 : σ2137 a 21 = chu2074 := (hFu2139.at k_a (by decide +kernel) (by decide +kernel)).trans eσ2111_14
                        have t2155 : σ2137 Kg1507_fa_9 (Kg1507_l2 : Int).toNat = v2113 := (hFu2139.atA kKg1507_fa_9 (by decide +kernel) (by decide +kernel)).trans ev2113
                        have t2156 : σ2137 Kg1507_fa_10 (Kg1507_l2 : Int).toNat = v2114 := (hFu2139.atA kKg1507_fa_10 (by decide +kernel) (by decide +kernel)).trans ev2114
                        refine sv_same (st2 := [sv_r qu2139]) (lv2 := [(0, sv_r a), (2, sv_i Kg1507_l2), (3, sv_i Jg2110_l3), (4, sv_i Jg2110_l4)]) rfl rfl ?_
                        exact st_throw C hE (by decide +kernel) hok2138 ⟨kqu2139, hIu2139, hGu2139⟩
                    refine sv_if C.1 C.2.1 (cnd := .eq) (off := 16) (tgt := 601) (by decide +kernel) (by decide) ⟨by omega, by omega⟩ (fun (h2109 : vu2069 = 0) => ?_) (fun (h2109 : ¬ (vu2069 = 0)) => ?_)
                    · refine sv_go C.1 C.2.1 [(.aload_n 0, 1)] (pc' := 602) (by decide +kernel) rfl (lv' := [(0, sv_r a), (2, sv_i Kg1507_l2), (3, sv_i Xg2009_l3), (4, sv_i Xg2009_l4), (5, sv_i vu2069), (6, sv_i vu2092)]) (st' := [sv_r a]) rfl ?_
                      refine sv_gf C (index := 78) (ci := 10) (k := 10) (r := (RX11, TX11, 47)) (v := sv_r Kg1507_fa_10) (by decide +kernel) (by rw [k_a]; rfl) rfl (by decide) fl_X11_78 (congrArg sv_a t2104) ?_
                      refine sv_go C.1 C.2.1 [(.iload_n 2, 1), (.iload 6, 2)] (pc' := 608) (by decide +kernel) rfl (lv' := [(0, sv_r a), (2, sv_i Kg1507_l2), (3, sv_i Xg2009_l3), (4, sv_i Xg2009_l4), (5, sv_i vu2069), (6, sv_i vu2092)]) (st' := [sv_i vu2092, sv_i Kg1507_l2, sv_r Kg1507_fa_10]) rfl ?_
                      refine sv_is C (n := 300) (by decide +kernel) (by rw [kKg1507_fa_10]; rfl) (by decide) (by omega) (by omega) ⟨by omega, by omega⟩ (hTA _ (by rw [kKg1507_fa_10]; decide)) hok2090 (fun hok2157 => ?_)
                      have hI2159 := hIu2092.up (a := Kg1507_fa_10) (k := (Kg1507_l2 : Int).toNat) (z := vu2092) (by rw [kKg1507_fa_10]; exact trivial)
                      have hF2160 := hGu2092.up (a := Kg1507_fa_10) (k := (Kg1507_l2 : Int).toNat) (z := vu2092) (Or.inl (by rw [kKg1507_fa_10]; decide +kernel))
                      generalize eσ2158 : sv_up σ2089 Kg1507_fa_10 (Kg1507_l2 : Int).toNat vu2092 = σ2158 at hok2157 hI2159 hF2160 ⊢
                      have t2161 : σ2158 a 18 = n18 := by rw [← eσ2158, sv_up_a (sv_ne k_a kKg1507_fa_10 (by decide))]; exact t2093
                      have t2162 : σ2158 a 0 = (qa0 : Int) + 1 := by rw [← eσ2158, sv_up_a (sv_ne k_a kKg1507_fa_10 (by decide))]; exact t2094
                      have t2163 : σ2158 qa0 (4 : Int).toNat = Kg1507_e2 := by rw [← eσ2158, sv_up_a (sv_ne kqa0 kKg1507_fa_10 (by decide))]; exact t2095
                      have t2164 : σ2158 a 5 = (Kg1507_fa_5 : Int) + 1 := by rw [← eσ2158, sv_up_a (sv_ne k_a kKg1507_fa_10 (by decide))]; exact t2096
                      have t2165 : σ2158 a 6 = (Kg1507_fa_6 : Int) + 1 := by rw [← eσ2158, sv_up_a (sv_ne k_a kKg1507_fa_10 (by decide))]; exact t2097
                      have t2166 : σ2158 a 7 = (Kg1507_fa_7 : Int) + 1 := by rw [← eσ2158, sv_up_a (sv_ne k_a kKg1507_fa_10 (by decide))]; exact t2098
                      have t2167 : σ2158 a 8 = (Kg1507_fa_8 : Int) + 1 := by rw [← eσ2158, sv_up_a (sv_ne k_a kKg1507_fa_10 (by decide))]; exact t2099
                      have t2168 : σ2158 a 11 = (Kg1507_fa_11 : Int) + 1 := by rw [← eσ2158, sv_up_a (sv_ne k_a kKg1507_fa_10 (by decide))]; exact t2100
                      have t2169 : σ2158 a 12 = (Kg1507_fa_12 : Int) + 1 := by rw [← eσ2158, sv_up_a (sv_ne k_a kKg1507_fa_10 (by decide))]; exact t2101
                      have t2170 : σ2158 a 13 = (Kg1507_fa_13 : Int) + 1 := by rw [← eσ2158, sv_up_a (sv_ne k_a kKg1507_fa_10 (by decide))]; exact t2102
                      have t2171 : σ2158 a 9 = (Kg1507_fa_9 : Int) + 1 := by rw [← eσ2158, sv_up_a (sv_ne k_a kKg1507_fa_10 (by decide))]; exact t2103
                      have t2172 : σ2158 a 10 = (Kg1507_fa_10 : Int) + 1 := by rw [← eσ2158, sv_up_a (sv_ne k_a kKg1507_fa_10 (by decide))]; exact t2104
                      have t2173 : σ2158 a 19 = c1u2074 := by rw [← eσ2158, sv_up_a (sv_ne k_a kKg1507_fa_10 (by decide))]; exact t2105
                      have t2174 : σ2158 a 20 = c2u2074 := by rw [← eσ2158, sv_up_a (sv_ne k_a kKg1507_fa_10 (by decide))]; exact t2106
                      have t2175 : σ2158 a 21 = chu2074 := by rw [← eσ2158, sv_up_a (sv_ne k_a kKg1507_fa_10 (by decide))]; exact t2107
                      have t2176 : σ2158 Kg1507_fa_10 (Kg1507_l2 : Int).toNat = vu2092 := by rw [← eσ2158]; exact sv_up_s _ _ _ _
                      refine sv_go C.1 C.2.1 [(.iconst 1, 1), (.istore 4, 2)] (pc' := 612) (by decide +kernel) rfl (lv' := [(0, sv_r a), (2, sv_i Kg1507_l2), (3, sv_i Xg2009_l3), (4, sv_i 1), (5, sv_i vu2069), (6, sv_i vu2092)]) (st' := []) rfl ?_
                      refine sv_pick [0, 1, 2, 3] (lv2 := [(0, sv_r a), (2, sv_i Kg1507_l2), (3, sv_i Xg2009_l3), (4, sv_i 1)]) rfl ?_
                      exact J2112 Xg2009_l3 1 σ2158 ⟨by omega, by omega⟩ ⟨by omega, by omega⟩ hok2157 hI2159 hF2160 t2161 t2162 t2163 t2164 t2165 t2166 t2167 t2168 t2169 t2170 t2171 t2172 t2173 t2174 t2175 (by omega) (by omega)
                    · have hp2177 := zq_un ivu2069_0 (by omega) (by omega)
                      refine sv_go C.1 C.2.1 [(.aload_n 0, 1)] (pc' := 589) (by decide +kernel) rfl (lv' := [(0, sv_r a), (2, sv_i Kg1507_l2), (3, sv_i Xg2009_l3), (4, sv_i Xg2009_l4), (5, sv_i vu2069), (6, sv_i vu2092)]) (st' := [sv_r a]) rfl ?_
                      refine sv_gf C (index := 75) (ci := 10) (k := 9) (r := (RX11, TX11, 47)) (v := sv_r Kg1507_fa_9) (by decide +kernel) (by rw [k_a]; rfl) rfl (by decide) fl_X11_75 (congrArg sv_a t2103) ?_
                      refine sv_go C.1 C.2.1 [(.iload_n 2, 1), (.iload 6, 2)] (pc' := 595) (by decide +kernel) rfl (lv' := [(0, sv_r a), (2, sv_i Kg1507_l2), (3, sv_i Xg2009_l3), (4, sv_i Xg2009_l4), (5, sv_i vu2069), (6, sv_i vu2092)]) (st' := [sv_i vu2092, sv_i Kg1507_l2, sv_r Kg1507_fa_9]) rfl ?_
                      refine sv_is C (n := 300) (by decide +kernel) (by rw [kKg1507_fa_9]; rfl) (by decide) (by omega) (by omega) ⟨by omega, by omega⟩ (hTA _ (by rw [kKg1507_fa_9]; decide)) hok2090 (fun hok2178 => ?_)
                      have hI2180 := hIu2092.up (a := Kg1507_fa_9) (k := (Kg1507_l2 : Int).toNat) (z := vu2092) (by rw [kKg1507_fa_9]; exact trivial)
                      have hF2181 := hGu2092.up (a := Kg1507_fa_9) (k := (Kg1507_l2 : Int).toNat) (z := vu2092) (Or.inl (by rw [kKg1507_fa_9]; decide +kernel))
                      generalize eσ2179 : sv_up σ2089 Kg1507_fa_9 (Kg1507_l2 : Int).toNat vu2092 = σ2179 at hok2178 hI2180 hF2181 ⊢
                      have t2182 : σ2179 a 18 = n18 := by rw [← eσ2179, sv_up_a (sv_ne k_a kKg1507_fa_9 (by decide))]; exact t2093
                      have t2183 : σ2179 a 0 = (qa0 : Int) + 1 := by rw [← eσ2179, sv_up_a (sv_ne k_a kKg1507_fa_9 (by decide))]; exact t2094
                      have t2184 : σ2179 qa0 (4 : Int).toNat = Kg1507_e2 := by rw [← eσ2179, sv_up_a (sv_ne kqa0 kKg1507_fa_9 (by decide))]; exact t2095
                      have t2185 : σ2179 a 5 = (Kg1507_fa_5 : Int) + 1 := by rw [← eσ2179, sv_up_a (sv_ne k_a kKg1507_fa_9 (by decide))]; exact t2096
                      have t2186 : σ2179 a 6 = (Kg1507_fa_6 : Int) + 1 := by rw [← eσ2179, sv_up_a (sv_ne k_a kKg1507_fa_9 (by decide))]; exact t2097
                      have t2187 : σ2179 a 7 = (Kg1507_fa_7 : Int) + 1 := by rw [← eσ2179, sv_up_a (sv_ne k_a kKg1507_fa_9 (by decide))]; exact t2098
                      have t2188 : σ2179 a 8 = (Kg1507_fa_8 : Int) + 1 := by rw [← eσ2179, sv_up_a (sv_ne k_a kKg1507_fa_9 (by decide))]; exact t2099
                      have t2189 : σ2179 a 11 = (Kg1507_fa_11 : Int) + 1 := by rw [← eσ2179, sv_up_a (sv_ne k_a kKg1507_fa_9 (by decide))]; exact t2100
                      have t2190 : σ2179 a 12 = (Kg1507_fa_12 : Int) + 1 := by rw [← eσ2179, sv_up_a (sv_ne k_a kKg1507_fa_9 (by decide))]; exact t2101
                      have t2191 : σ2179 a 13 = (Kg1507_fa_13 : Int) + 1 := by rw [← eσ2179, sv_up_a (sv_ne k_a kKg1507_fa_9 (by decide))]; exact t2102
                      have t2192 : σ2179 a 9 = (Kg1507_fa_9 : Int) + 1 := by rw [← eσ2179, sv_up_a (sv_ne k_a kKg1507_fa_9 (by decide))]; exact t2103
                      have t2193 : σ2179 a 10 = (Kg1507_fa_10 : Int) + 1 := by rw [← eσ2179, sv_up_a (sv_ne k_a kKg1507_fa_9 (by decide))]; exact t2104
                      have t2194 : σ2179 a 19 = c1u2074 := by rw [← eσ2179, sv_up_a (sv_ne k_a kKg1507_fa_9 (by decide))]; exact t2105
                      have t2195 : σ2179 a 20 = c2u2074 := by rw [← eσ2179, sv_up_a (sv_ne k_a kKg1507_fa_9 (by decide))]; exact t2106
                      have t2196 : σ2179 a 21 = chu2074 := by rw [← eσ2179, sv_up_a (sv_ne k_a kKg1507_fa_9 (by decide))]; exact t2107
                      have t2197 : σ2179 Kg1507_fa_9 (Kg1507_l2 : Int).toNat = vu2092 := by rw [← eσ2179]; exact sv_up_s _ _ _ _
                      refine sv_go C.1 C.2.1 [(.iconst 1, 1), (.istore_n 3, 1)] (pc' := 598) (by decide +kernel) rfl (lv' := [(0, sv_r a), (2, sv_i Kg1507_l2), (3, sv_i 1), (4, sv_i Xg2009_l4), (5, sv_i vu2069), (6, sv_i vu2092)]) (st' := []) rfl ?_
                      refine sv_goto C.1 C.2.1 (off := 14) (tgt := 612) (by decide +kernel) (by decide) ?_
                      refine sv_pick [0, 1, 2, 3] (lv2 := [(0, sv_r a), (2, sv_i Kg1507_l2), (3, sv_i 1), (4, sv_i Xg2009_l4)]) rfl ?_
                      exact J2112 1 Xg2009_l4 σ2179 ⟨by omega, by omega⟩ ⟨by omega, by omega⟩ hok2178 hI2180 hF2181 t2182 t2183 t2184 t2185 t2186 t2187 t2188 t2189 t2190 t2191 t2192 t2193 t2194 t2195 t2196 (by omega) (by omega)
                  · have hp2198 := zq_un ivu2063_0 (by omega) (by omega)
                    refine sv_go C.1 C.2.1 [(.aload_n 0, 1)] (pc' := 548) (by decide +kernel) rfl (lv' := [(0, sv_r a), (2, sv_i Kg1507_l2), (3, sv_i Xg2009_l3), (4, sv_i Xg2009_l4)]) (st' := [sv_r a]) rfl ?_
                    refine sv_gf C (index := 88) (ci := 10) (k := 13) (r := (RX11, TX11, 47)) (v := sv_r Kg1507_fa_13) (by decide +kernel) (by rw [k_a]; rfl) rfl (by decide) fl_X11_88 (congrArg sv_a eσ2010_12) ?_
                    refine sv_go C.1 C.2.1 [(.iload_n 2, 1), (.iconst 1, 1)] (pc' := 553) (by decide +kernel) rfl (lv' := [(0, sv_r a), (2, sv_i Kg1507_l2), (3, sv_i Xg2009_l3), (4, sv_i Xg2009_l4)]) (st' := [sv_i 1, sv_i Kg1507_l2, sv_r Kg1507_fa_13]) rfl ?_
                    refine sv_zs C (n := 300) (by decide +kernel) (by rw [kKg1507_fa_13]; rfl) (by decide) (by omega) (by omega) ⟨by omega, by omega⟩ (hTA _ (by rw [kKg1507_fa_13]; decide)) hok2062 (fun hok2199 => ?_)
                    have hI2201 := Iσ2010.up (a := Kg1507_fa_13) (k := (Kg1507_l2 : Int).toNat) (z := 1) (by rw [kKg1507_fa_13]; exact trivial)
                    have hF2202 := Fσ2010.up (a := Kg1507_fa_13) (k := (Kg1507_l2 : Int).toNat) (z := 1) (Or.inl (by rw [kKg1507_fa_13]; decide +kernel))
                    generalize eσ2200 : sv_up σ2010 Kg1507_fa_13 (Kg1507_l2 : Int).toNat 1 = σ2200 at hok2199 hI2201 hF2202 ⊢
                    have t2203 : σ2200 a 18 = n18 := by rw [← eσ2200, sv_up_a (sv_ne k_a kKg1507_fa_13 (by decide))]; exact eσ2010_0
                    have t2204 : σ2200 a 0 = (qa0 : Int) + 1 := by rw [← eσ2200, sv_up_a (sv_ne k_a kKg1507_fa_13 (by decide))]; exact eσ2010_1
                    have t2205 : σ2200 qa0 (4 : Int).toNat = Kg1507_e2 := by rw [← eσ2200, sv_up_a (sv_ne kqa0 kKg1507_fa_13 (by decide))]; exact eσ2010_2
                    have t2206 : σ2200 a 5 = (Kg1507_fa_5 : Int) + 1 := by rw [← eσ2200, sv_up_a (sv_ne k_a kKg1507_fa_13 (by decide))]; exact eσ2010_3
                    have t2207 : σ2200 a 6 = (Kg1507_fa_6 : Int) + 1 := by rw [← eσ2200, sv_up_a (sv_ne k_a kKg1507_fa_13 (by decide))]; exact eσ2010_4
                    have t2208 : σ2200 a 7 = (Kg1507_fa_7 : Int) + 1 := by rw [← eσ2200, sv_up_a (sv_ne k_a kKg1507_fa_13 (by decide))]; exact eσ2010_5
                    have t2209 : σ2200 a 8 = (Kg1507_fa_8 : Int) + 1 := by rw [← eσ2200, sv_up_a (sv_ne k_a kKg1507_fa_13 (by decide))]; exact eσ2010_6
                    have t2210 : σ2200 a 11 = (Kg1507_fa_11 : Int) + 1 := by rw [← eσ2200, sv_up_a (sv_ne k_a kKg1507_fa_13 (by decide))]; exact eσ2010_7
                    have t2211 : σ2200 a 19 = Xg2009_fa_19 := by rw [← eσ2200, sv_up_a (sv_ne k_a kKg1507_fa_13 (by decide))]; exact eσ2010_8
                    have t2212 : σ2200 a 20 = Xg2009_fa_20 := by rw [← eσ2200, sv_up_a (sv_ne k_a kKg1507_fa_13 (by decide))]; exact eσ2010_9
                    have t2213 : σ2200 a 21 = Xg2009_fa_21 := by rw [← eσ2200, sv_up_a (sv_ne k_a kKg1507_fa_13 (by decide))]; exact eσ2010_10
                    have t2214 : σ2200 a 12 = (Kg1507_fa_12 : Int) + 1 := by rw [← eσ2200, sv_up_a (sv_ne k_a kKg1507_fa_13 (by decide))]; exact eσ2010_11
                    have t2215 : σ2200 a 13 = (Kg1507_fa_13 : Int) + 1 := by rw [← eσ2200, sv_up_a (sv_ne k_a kKg1507_fa_13 (by decide))]; exact eσ2010_12
                    have t2216 : σ2200 a 9 = (Kg1507_fa_9 : Int) + 1 := by rw [← eσ2200, sv_up_a (sv_ne k_a kKg1507_fa_13 (by decide))]; exact eσ2010_13
                    have t2217 : σ2200 a 10 = (Kg1507_fa_10 : Int) + 1 := by rw [← eσ2200, sv_up_a (sv_ne k_a kKg1507_fa_13 (by decide))]; exact eσ2010_14
                    have t2218 : σ2200 Kg1507_fa_13 (Kg1507_l2 : Int).toNat = 1 := by rw [← eσ2200]; exact sv_up_s _ _ _ _
                    refine sv_go C.1 C.2.1 [(.aload_n 0, 1)] (pc' := 555) (by decide +kernel) rfl (lv' := [(0, sv_r a), (2, sv_i Kg1507_l2), (3, sv_i Xg2009_l3), (4, sv_i Xg2009_l4)]) (st' := [sv_r a]) rfl ?_
                    refine sv_cv C (index := 229) (k := 0) (rest := []) (ci := 10) (r := (RX11, TX11, 47)) (by decide +kernel) (sf_X11_scan l g A ty σ2200 hok2199 hTA hI2201 a k_a (n18) ⟨by omega, by omega⟩ (Xg2009_fa_20) ⟨by omega, by omega⟩ t2203 t2212 (by omega)) ⟨co_X11_scan, in_X11, ⟨by decide, by decide, by decide +kernel⟩, Nat.le_of_ble_eq_true rfl, Nat.le_of_ble_eq_true rfl⟩ ml_X11_229 im_X11_scan se_X11_scan (by rw [k_a]; rfl) rfl rfl rfl (Nat.le_of_ble_eq_true rfl) ⟨Nat.zero_le _, Nat.zero_le _⟩ (fun r2220 σ2221 hpo2219 hok2222 => ?_)
                    obtain ⟨rfl, hIu2223, hFu2223, xu2223⟩ := hpo2219
                    have hGu2223 := hF2202.tr hFu2223 (by decide +kernel) (by decide +kernel)
                    have t2224 : σ2221 a 18 = n18 := (hFu2223.at k_a (by decide +kernel) (by decide +kernel)).trans t2203
                    have t2225 : σ2221 a 0 = (qa0 : Int) + 1 := (hFu2223.at k_a (by decide +kernel) (by decide +kernel)).trans t2204
                    have t2226 : σ2221 qa0 (4 : Int).toNat = Kg1507_e2 := (hFu2223.atA kqa0 (by decide +kernel) (by decide +kernel)).trans t2205
                    have t2227 : σ2221 a 5 = (Kg1507_fa_5 : Int) + 1 := (hFu2223.at k_a (by decide +kernel) (by decide +kernel)).trans t2206
                    have t2228 : σ2221 a 6 = (Kg1507_fa_6 : Int) + 1 := (hFu2223.at k_a (by decide +kernel) (by decide +kernel)).trans t2207
                    have t2229 : σ2221 a 7 = (Kg1507_fa_7 : Int) + 1 := (hFu2223.at k_a (by decide +kernel) (by decide +kernel)).trans t2208
                    have t2230 : σ2221 a 8 = (Kg1507_fa_8 : Int) + 1 := (hFu2223.at k_a (by decide +kernel) (by decide +kernel)).trans t2209
                    have t2231 : σ2221 a 11 = (Kg1507_fa_11 : Int) + 1 := (hFu2223.at k_a (by decide +kernel) (by decide +kernel)).trans t2210
                    have t2232 : σ2221 a 12 = (Kg1507_fa_12 : Int) + 1 := (hFu2223.at k_a (by decide +kernel) (by decide +kernel)).trans t2214
                    have t2233 : σ2221 a 13 = (Kg1507_fa_13 : Int) + 1 := (hFu2223.at k_a (by decide +kernel) (by decide +kernel)).trans t2215
                    have t2234 : σ2221 a 9 = (Kg1507_fa_9 : Int) + 1 := (hFu2223.at k_a (by decide +kernel) (by decide +kernel)).trans t2216
                    have t2235 : σ2221 a 10 = (Kg1507_fa_10 : Int) + 1 := (hFu2223.at k_a (by decide +kernel) (by decide +kernel)).trans t2217
                    have t2236 : σ2221 Kg1507_fa_13 (Kg1507_l2 : Int).toNat = 1 := (hFu2223.atA kKg1507_fa_13 (by decide +kernel) (by decide +kernel)).trans t2218
                    have hltu2223 : Xg2009_fa_19 < Xg2009_fa_20 := by omega
                    clear hL
                    obtain ⟨c1u2223, c2u2223, chu2223, e19u2223, e20u2223, e21u2223, j1u2223, j2u2223, j3u2223, j4u2223⟩ := xu2223
                    refine sv_same (st2 := []) (lv2 := [(0, sv_r a), (2, sv_i Kg1507_l2), (3, sv_i Xg2009_l3), (4, sv_i Xg2009_l4)]) rfl rfl ?_
                    refine sv_goto C.1 C.2.1 (off := (-148)) (tgt := 410) (by decide +kernel) (by decide) ?_
                    exact ih2012 Xg2009_l3 Xg2009_l4 c1u2223 c2u2223 chu2223 σ2221 ⟨by omega, by omega⟩ ⟨by omega, by omega⟩ ⟨by omega, by omega⟩ ⟨by omega, by omega⟩ ⟨by omega, by omega⟩ hok2222 hIu2223 hGu2223 t2224 t2225 t2226 t2227 t2228 t2229 t2230 t2231 e19u2223 e20u2223 e21u2223 t2232 t2233 t2234 t2235 (by omega) (by omega) (by omega)
                · have hp2237 := zq_un ivu2057_0 (by omega) (by omega)
                  refine sv_go C.1 C.2.1 [(.aload_n 0, 1)] (pc' := 525) (by decide +kernel) rfl (lv' := [(0, sv_r a), (2, sv_i Kg1507_l2), (3, sv_i Xg2009_l3), (4, sv_i Xg2009_l4)]) (st' := [sv_r a]) rfl ?_
                  refine sv_gf C (index := 84) (ci := 10) (k := 12) (r := (RX11, TX11, 47)) (v := sv_r Kg1507_fa_12) (by decide +kernel) (by rw [k_a]; rfl) rfl (by decide) fl_X11_84 (congrArg sv_a eσ2010_11) ?_
                  refine sv_go C.1 C.2.1 [(.iload_n 2, 1), (.iconst 1, 1)] (pc' := 530) (by decide +kernel) rfl (lv' := [(0, sv_r a), (2, sv_i Kg1507_l2), (3, sv_i Xg2009_l3), (4, sv_i Xg2009_l4)]) (st' := [sv_i 1, sv_i Kg1507_l2, sv_r Kg1507_fa_12]) rfl ?_
                  refine sv_zs C (n := 300) (by decide +kernel) (by rw [kKg1507_fa_12]; rfl) (by decide) (by omega) (by omega) ⟨by omega, by omega⟩ (hTA _ (by rw [kKg1507_fa_12]; decide)) hok2056 (fun hok2238 => ?_)
                  have hI2240 := Iσ2010.up (a := Kg1507_fa_12) (k := (Kg1507_l2 : Int).toNat) (z := 1) (by rw [kKg1507_fa_12]; exact trivial)
                  have hF2241 := Fσ2010.up (a := Kg1507_fa_12) (k := (Kg1507_l2 : Int).toNat) (z := 1) (Or.inl (by rw [kKg1507_fa_12]; decide +kernel))
                  generalize eσ2239 : sv_up σ2010 Kg1507_fa_12 (Kg1507_l2 : Int).toNat 1 = σ2239 at hok2238 hI2240 hF2241 ⊢
                  have t2242 : σ2239 a 18 = n18 := by rw [← eσ2239, sv_up_a (sv_ne k_a kKg1507_fa_12 (by decide))]; exact eσ2010_0
                  have t2243 : σ2239 a 0 = (qa0 : Int) + 1 := by rw [← eσ2239, sv_up_a (sv_ne k_a kKg1507_fa_12 (by decide))]; exact eσ2010_1
                  have t2244 : σ2239 qa0 (4 : Int).toNat = Kg1507_e2 := by rw [← eσ2239, sv_up_a (sv_ne kqa0 kKg1507_fa_12 (by decide))]; exact eσ2010_2
                  have t2245 : σ2239 a 5 = (Kg1507_fa_5 : Int) + 1 := by rw [← eσ2239, sv_up_a (sv_ne k_a kKg1507_fa_12 (by decide))]; exact eσ2010_3
                  have t2246 : σ2239 a 6 = (Kg1507_fa_6 : Int) + 1 := by rw [← eσ2239, sv_up_a (sv_ne k_a kKg1507_fa_12 (by decide))]; exact eσ2010_4
                  have t2247 : σ2239 a 7 = (Kg1507_fa_7 : Int) + 1 := by rw [← eσ2239, sv_up_a (sv_ne k_a kKg1507_fa_12 (by decide))]; exact eσ2010_5
                  have t2248 : σ2239 a 8 = (Kg1507_fa_8 : Int) + 1 := by rw [← eσ2239, sv_up_a (sv_ne k_a kKg1507_fa_12 (by decide))]; exact eσ2010_6
                  have t2249 : σ2239 a 11 = (Kg1507_fa_11 : Int) + 1 := by rw [← eσ2239, sv_up_a (sv_ne k_a kKg1507_fa_12 (by decide))]; exact eσ2010_7
                  have t2250 : σ2239 a 19 = Xg2009_fa_19 := by rw [← eσ2239, sv_up_a (sv_ne k_a kKg1507_fa_12 (by decide))]; exact eσ2010_8
                  have t2251 : σ2239 a 20 = Xg2009_fa_20 := by rw [← eσ2239, sv_up_a (sv_ne k_a kKg1507_fa_12 (by decide))]; exact eσ2010_9
                  have t2252 : σ2239 a 21 = Xg2009_fa_21 := by rw [← eσ2239, sv_up_a (sv_ne k_a kKg1507_fa_12 (by decide))]; exact eσ2010_10
                  have t2253 : σ2239 a 12 = (Kg1507_fa_12 : Int) + 1 := by rw [← eσ2239, sv_up_a (sv_ne k_a kKg1507_fa_12 (by decide))]; exact eσ2010_11
                  have t2254 : σ2239 a 13 = (Kg1507_fa_13 : Int) + 1 := by rw [← eσ2239, sv_up_a (sv_ne k_a kKg1507_fa_12 (by decide))]; exact eσ2010_12
                  have t2255 : σ2239 a 9 = (Kg1507_fa_9 : Int) + 1 := by rw [← eσ2239, sv_up_a (sv_ne k_a kKg1507_fa_12 (by decide))]; exact eσ2010_13
                  have t2256 : σ2239 a 10 = (Kg1507_fa_10 : Int) + 1 := by rw [← eσ2239, sv_up_a (sv_ne k_a kKg1507_fa_12 (by decide))]; exact eσ2010_14
                  have t2257 : σ2239 Kg1507_fa_12 (Kg1507_l2 : Int).toNat = 1 := by rw [← eσ2239]; exact sv_up_s _ _ _ _
                  refine sv_go C.1 C.2.1 [(.aload_n 0, 1)] (pc' := 532) (by decide +kernel) rfl (lv' := [(0, sv_r a), (2, sv_i Kg1507_l2), (3, sv_i Xg2009_l3), (4, sv_i Xg2009_l4)]) (st' := [sv_r a]) rfl ?_
                  refine sv_cv C (index := 229) (k := 0) (rest := []) (ci := 10) (r := (RX11, TX11, 47)) (by decide +kernel) (sf_X11_scan l g A ty σ2239 hok2238 hTA hI2240 a k_a (n18) ⟨by omega, by omega⟩ (Xg2009_fa_20) ⟨by omega, by omega⟩ t2242 t2251 (by omega)) ⟨co_X11_scan, in_X11, ⟨by decide, by decide, by decide +kernel⟩, Nat.le_of_ble_eq_true rfl, Nat.le_of_ble_eq_true rfl⟩ ml_X11_229 im_X11_scan se_X11_scan (by rw [k_a]; rfl) rfl rfl rfl (Nat.le_of_ble_eq_true rfl) ⟨Nat.zero_le _, Nat.zero_le _⟩ (fun r2259 σ2260 hpo2258 hok2261 => ?_)
                  obtain ⟨rfl, hIu2262, hFu2262, xu2262⟩ := hpo2258
                  have hGu2262 := hF2241.tr hFu2262 (by decide +kernel) (by decide +kernel)
                  have t2263 : σ2260 a 18 = n18 := (hFu2262.at k_a (by decide +kernel) (by decide +kernel)).trans t2242
                  have t2264 : σ2260 a 0 = (qa0 : Int) + 1 := (hFu2262.at k_a (by decide +kernel) (by decide +kernel)).trans t2243
                  have t2265 : σ2260 qa0 (4 : Int).toNat = Kg1507_e2 := (hFu2262.atA kqa0 (by decide +kernel) (by decide +kernel)).trans t2244
                  have t2266 : σ2260 a 5 = (Kg1507_fa_5 : Int) + 1 := (hFu2262.at k_a (by decide +kernel) (by decide +kernel)).trans t2245
                  have t2267 : σ2260 a 6 = (Kg1507_fa_6 : Int) + 1 := (hFu2262.at k_a (by decide +kernel) (by decide +kernel)).trans t2246
                  have t2268 : σ2260 a 7 = (Kg1507_fa_7 : Int) + 1 := (hFu2262.at k_a (by decide +kernel) (by decide +kernel)).trans t2247
                  have t2269 : σ2260 a 8 = (Kg1507_fa_8 : Int) + 1 := (hFu2262.at k_a (by decide +kernel) (by decide +kernel)).trans t2248
                  have t2270 : σ2260 a 11 = (Kg1507_fa_11 : Int) + 1 := (hFu2262.at k_a (by decide +kernel) (by decide +kernel)).trans t2249
                  have t2271 : σ2260 a 12 = (Kg1507_fa_12 : Int) + 1 := (hFu2262.at k_a (by decide +kernel) (by decide +kernel)).trans t2253
                  have t2272 : σ2260 a 13 = (Kg1507_fa_13 : Int) + 1 := (hFu2262.at k_a (by decide +kernel) (by decide +kernel)).trans t2254
                  have t2273 : σ2260 a 9 = (Kg1507_fa_9 : Int) + 1 := (hFu2262.at k_a (by decide +kernel) (by decide +kernel)).trans t2255
                  have t2274 : σ2260 a 10 = (Kg1507_fa_10 : Int) + 1 := (hFu2262.at k_a (by decide +kernel) (by decide +kernel)).trans t2256
                  have t2275 : σ2260 Kg1507_fa_12 (Kg1507_l2 : Int).toNat = 1 := (hFu2262.atA kKg1507_fa_12 (by decide +kernel) (by decide +kernel)).trans t2257
                  have hltu2262 : Xg2009_fa_19 < Xg2009_fa_20 := by omega
                  clear hL
                  obtain ⟨c1u2262, c2u2262, chu2262, e19u2262, e20u2262, e21u2262, j1u2262, j2u2262, j3u2262, j4u2262⟩ := xu2262
                  refine sv_same (st2 := []) (lv2 := [(0, sv_r a), (2, sv_i Kg1507_l2), (3, sv_i Xg2009_l3), (4, sv_i Xg2009_l4)]) rfl rfl ?_
                  refine sv_goto C.1 C.2.1 (off := (-125)) (tgt := 410) (by decide +kernel) (by decide) ?_
                  exact ih2012 Xg2009_l3 Xg2009_l4 c1u2262 c2u2262 chu2262 σ2260 ⟨by omega, by omega⟩ ⟨by omega, by omega⟩ ⟨by omega, by omega⟩ ⟨by omega, by omega⟩ ⟨by omega, by omega⟩ hok2261 hIu2262 hGu2262 t2263 t2264 t2265 t2266 t2267 t2268 t2269 t2270 e19u2262 e20u2262 e21u2262 t2271 t2272 t2273 t2274 (by omega) (by omega) (by omega)
              refine sv_if C.1 C.2.1 (cnd := .eq) (off := 14) (tgt := 515) (by decide +kernel) (by decide) ⟨by omega, by omega⟩ (fun (h2050 : vu2049 = 0) => ?_) (fun (h2050 : ¬ (vu2049 = 0)) => ?_)
              · exact J2052 
              · have hp2276 := zq_un ivu2049_0 (by omega) (by omega)
                refine sv_go C.1 C.2.1 [(.iload 4, 2)] (pc' := 506) (by decide +kernel) rfl (lv' := [(0, sv_r a), (2, sv_i Kg1507_l2), (3, sv_i Xg2009_l3), (4, sv_i Xg2009_l4)]) (st' := [sv_i Xg2009_l4]) rfl ?_
                refine sv_if C.1 C.2.1 (cnd := .eq) (off := 9) (tgt := 515) (by decide +kernel) (by decide) ⟨by omega, by omega⟩ (fun (h2277 : Xg2009_l4 = 0) => ?_) (fun (h2277 : ¬ (Xg2009_l4 = 0)) => ?_)
                · exact J2052 
                · refine sv_go C.1 C.2.1 [(.aload_n 0, 1), (.iconst 5, 1)] (pc' := 511) (by decide +kernel) rfl (lv' := [(0, sv_r a), (2, sv_i Kg1507_l2), (3, sv_i Xg2009_l3), (4, sv_i Xg2009_l4)]) (st' := [sv_i 5, sv_r a]) rfl ?_
                  refine sv_cv C (index := 225) (k := 1) (rest := []) (ci := 10) (r := (RX11, TX11, 47)) (by decide +kernel) (sf_X11_wrong l g A ty σ2010 hok2048 hTA Iσ2010 a k_a (5) ⟨by omega, by omega⟩) ⟨co_X11_wrong, in_X11, ⟨by decide, by decide, by decide +kernel⟩, Nat.le_of_ble_eq_true rfl, Nat.le_of_ble_eq_true rfl⟩ ml_X11_225 im_X11_wrong se_X11_wrong (by rw [k_a]; rfl) rfl rfl rfl (Nat.le_of_ble_eq_true rfl) ⟨Nat.zero_le _, Nat.zero_le _⟩ (fun r2279 σ2280 hpo2278 hok2281 => ?_)
                  obtain ⟨⟨qu2282, rfl, kqu2282⟩, hIu2282, hFu2282⟩ := hpo2278
                  have hGu2282 := Fσ2010.tr hFu2282 (by decide +kernel) (by decide +kernel)
                  have t2283 : σ2280 a 18 = n18 := (hFu2282.at k_a (by decide +kernel) (by decide +kernel)).trans eσ2010_0
                  have t2284 : σ2280 a 0 = (qa0 : Int) + 1 := (hFu2282.at k_a (by decide +kernel) (by decide +kernel)).trans eσ2010_1
                  have t2285 : σ2280 qa0 (4 : Int).toNat = Kg1507_e2 := (hFu2282.atA kqa0 (by decide +kernel) (by decide +kernel)).trans eσ2010_2
                  have t2286 : σ2280 a 5 = (Kg1507_fa_5 : Int) + 1 := (hFu2282.at k_a (by decide +kernel) (by decide +kernel)).trans eσ2010_3
                  have t2287 : σ2280 a 6 = (Kg1507_fa_6 : Int) + 1 := (hFu2282.at k_a (by decide +kernel) (by decide +kernel)).trans eσ2010_4
                  have t2288 : σ2280 a 7 = (Kg1507_fa_7 : Int) + 1 := (hFu2282.at k_a (by decide +kernel) (by decide +kernel)).trans eσ2010_5
                  have t2289 : σ2280 a 8 = (Kg1507_fa_8 : Int) + 1 := (hFu2282.at k_a (by decide +kernel) (by decide +kernel)).trans eσ2010_6
                  have t2290 : σ2280 a 11 = (Kg1507_fa_11 : Int) + 1 := (hFu2282.at k_a (by decide +kernel) (by decide +kernel)).trans eσ2010_7
                  have t2291 : σ2280 a 19 = Xg2009_fa_19 := (hFu2282.at k_a (by decide +kernel) (by decide +kernel)).trans eσ2010_8
                  have t2292 : σ2280 a 20 = Xg2009_fa_20 := (hFu2282.at k_a (by decide +kernel) (by decide +kernel)).trans eσ2010_9
                  have t2293 : σ2280 a 21 = Xg2009_fa_21 := (hFu2282.at k_a (by decide +kernel) (by decide +kernel)).trans eσ2010_10
                  have t2294 : σ2280 a 12 = (Kg1507_fa_12 : Int) + 1 := (hFu2282.at k_a (by decide +kernel) (by decide +kernel)).trans eσ2010_11
                  have t2295 : σ2280 a 13 = (Kg1507_fa_13 : Int) + 1 := (hFu2282.at k_a (by decide +kernel) (by decide +kernel)).trans eσ2010_12
                  have t2296 : σ2280 a 9 = (Kg1507_fa_9 : Int) + 1 := (hFu2282.at k_a (by decide +kernel) (by decide +kernel)).trans eσ2010_13
                  have t2297 : σ2280 a 10 = (Kg1507_fa_10 : Int) + 1 := (hFu2282.at k_a (by decide +kernel) (by decide +kernel)).trans eσ2010_14
                  refine sv_same (st2 := [sv_r qu2282]) (lv2 := [(0, sv_r a), (2, sv_i Kg1507_l2), (3, sv_i Xg2009_l3), (4, sv_i Xg2009_l4)]) rfl rfl ?_
                  exact st_throw C hE (by decide +kernel) hok2281 ⟨kqu2282, hIu2282, hGu2282⟩
            refine sv_if C.1 C.2.1 (cnd := .eq) (off := 7) (tgt := 495) (by decide +kernel) (by decide) ⟨by omega, by omega⟩ (fun (h2042 : vu2041 = 0) => ?_) (fun (h2042 : ¬ (vu2041 = 0)) => ?_)
            · exact J2044 
            · have hp2298 := zq_un ivu2041_0 (by omega) (by omega)
              refine sv_go C.1 C.2.1 [(.iload_n 3, 1)] (pc' := 492) (by decide +kernel) rfl (lv' := [(0, sv_r a), (2, sv_i Kg1507_l2), (3, sv_i Xg2009_l3), (4, sv_i Xg2009_l4)]) (st' := [sv_i Xg2009_l3]) rfl ?_
              refine sv_if C.1 C.2.1 (cnd := .ne) (off := 17) (tgt := 509) (by decide +kernel) (by decide) ⟨by omega, by omega⟩ (fun (h2299 : Xg2009_l3 ≠ 0) => ?_) (fun (h2299 : ¬ (Xg2009_l3 ≠ 0)) => ?_)
              · refine sv_go C.1 C.2.1 [(.aload_n 0, 1), (.iconst 5, 1)] (pc' := 511) (by decide +kernel) rfl (lv' := [(0, sv_r a), (2, sv_i Kg1507_l2), (3, sv_i Xg2009_l3), (4, sv_i Xg2009_l4)]) (st' := [sv_i 5, sv_r a]) rfl ?_
                refine sv_cv C (index := 225) (k := 1) (rest := []) (ci := 10) (r := (RX11, TX11, 47)) (by decide +kernel) (sf_X11_wrong l g A ty σ2010 hok2040 hTA Iσ2010 a k_a (5) ⟨by omega, by omega⟩) ⟨co_X11_wrong, in_X11, ⟨by decide, by decide, by decide +kernel⟩, Nat.le_of_ble_eq_true rfl, Nat.le_of_ble_eq_true rfl⟩ ml_X11_225 im_X11_wrong se_X11_wrong (by rw [k_a]; rfl) rfl rfl rfl (Nat.le_of_ble_eq_true rfl) ⟨Nat.zero_le _, Nat.zero_le _⟩ (fun r2301 σ2302 hpo2300 hok2303 => ?_)
                obtain ⟨⟨qu2304, rfl, kqu2304⟩, hIu2304, hFu2304⟩ := hpo2300
                have hGu2304 := Fσ2010.tr hFu2304 (by decide +kernel) (by decide +kernel)
                have t2305 : σ2302 a 18 = n18 := (hFu2304.at k_a (by decide +kernel) (by decide +kernel)).trans eσ2010_0
                have t2306 : σ2302 a 0 = (qa0 : Int) + 1 := (hFu2304.at k_a (by decide +kernel) (by decide +kernel)).trans eσ2010_1
                have t2307 : σ2302 qa0 (4 : Int).toNat = Kg1507_e2 := (hFu2304.atA kqa0 (by decide +kernel) (by decide +kernel)).trans eσ2010_2
                have t2308 : σ2302 a 5 = (Kg1507_fa_5 : Int) + 1 := (hFu2304.at k_a (by decide +kernel) (by decide +kernel)).trans eσ2010_3
                have t2309 : σ2302 a 6 = (Kg1507_fa_6 : Int) + 1 := (hFu2304.at k_a (by decide +kernel) (by decide +kernel)).trans eσ2010_4
                have t2310 : σ2302 a 7 = (Kg1507_fa_7 : Int) + 1 := (hFu2304.at k_a (by decide +kernel) (by decide +kernel)).trans eσ2010_5
                have t2311 : σ2302 a 8 = (Kg1507_fa_8 : Int) + 1 := (hFu2304.at k_a (by decide +kernel) (by decide +kernel)).trans eσ2010_6
                have t2312 : σ2302 a 11 = (Kg1507_fa_11 : Int) + 1 := (hFu2304.at k_a (by decide +kernel) (by decide +kernel)).trans eσ2010_7
                have t2313 : σ2302 a 19 = Xg2009_fa_19 := (hFu2304.at k_a (by decide +kernel) (by decide +kernel)).trans eσ2010_8
                have t2314 : σ2302 a 20 = Xg2009_fa_20 := (hFu2304.at k_a (by decide +kernel) (by decide +kernel)).trans eσ2010_9
                have t2315 : σ2302 a 21 = Xg2009_fa_21 := (hFu2304.at k_a (by decide +kernel) (by decide +kernel)).trans eσ2010_10
                have t2316 : σ2302 a 12 = (Kg1507_fa_12 : Int) + 1 := (hFu2304.at k_a (by decide +kernel) (by decide +kernel)).trans eσ2010_11
                have t2317 : σ2302 a 13 = (Kg1507_fa_13 : Int) + 1 := (hFu2304.at k_a (by decide +kernel) (by decide +kernel)).trans eσ2010_12
                have t2318 : σ2302 a 9 = (Kg1507_fa_9 : Int) + 1 := (hFu2304.at k_a (by decide +kernel) (by decide +kernel)).trans eσ2010_13
                have t2319 : σ2302 a 10 = (Kg1507_fa_10 : Int) + 1 := (hFu2304.at k_a (by decide +kernel) (by decide +kernel)).trans eσ2010_14
                refine sv_same (st2 := [sv_r qu2304]) (lv2 := [(0, sv_r a), (2, sv_i Kg1507_l2), (3, sv_i Xg2009_l3), (4, sv_i Xg2009_l4)]) rfl rfl ?_
                exact st_throw C hE (by decide +kernel) hok2303 ⟨kqu2304, hIu2304, hGu2304⟩
              · exact J2044 
          refine sv_if C.1 C.2.1 (cnd := .eq) (off := 12) (tgt := 482) (by decide +kernel) (by decide) ⟨by omega, by omega⟩ (fun (h2034 : vu2033 = 0) => ?_) (fun (h2034 : ¬ (vu2033 = 0)) => ?_)
          · exact J2036 
          · have hp2320 := zq_un ivu2033_0 (by omega) (by omega)
            refine sv_go C.1 C.2.1 [(.aload_n 0, 1)] (pc' := 474) (by decide +kernel) rfl (lv' := [(0, sv_r a), (2, sv_i Kg1507_l2), (3, sv_i Xg2009_l3), (4, sv_i Xg2009_l4)]) (st' := [sv_r a]) rfl ?_
            refine sv_gf C (index := 88) (ci := 10) (k := 13) (r := (RX11, TX11, 47)) (v := sv_r Kg1507_fa_13) (by decide +kernel) (by rw [k_a]; rfl) rfl (by decide) fl_X11_88 (congrArg sv_a eσ2010_12) ?_
            refine sv_go C.1 C.2.1 [(.iload_n 2, 1)] (pc' := 478) (by decide +kernel) rfl (lv' := [(0, sv_r a), (2, sv_i Kg1507_l2), (3, sv_i Xg2009_l3), (4, sv_i Xg2009_l4)]) (st' := [sv_i Kg1507_l2, sv_r Kg1507_fa_13]) rfl ?_
            refine sv_za C (n := 300) (by decide +kernel) (by rw [kKg1507_fa_13]; rfl) (by decide) (by omega) (by omega) ?_
            obtain ⟨v2321, ev2321, hv2321⟩ := sv_rdez hok2032 (a := Kg1507_fa_13) (k := (Kg1507_l2 : Int).toNat) (n := 300) (by rw [kKg1507_fa_13]; rfl) (by omega)
            rw [ev2321]
            refine sv_if C.1 C.2.1 (cnd := .ne) (off := 30) (tgt := 509) (by decide +kernel) (by decide) ⟨by omega, by omega⟩ (fun (h2322 : v2321 ≠ 0) => ?_) (fun (h2322 : ¬ (v2321 ≠ 0)) => ?_)
            · refine sv_go C.1 C.2.1 [(.aload_n 0, 1), (.iconst 5, 1)] (pc' := 511) (by decide +kernel) rfl (lv' := [(0, sv_r a), (2, sv_i Kg1507_l2), (3, sv_i Xg2009_l3), (4, sv_i Xg2009_l4)]) (st' := [sv_i 5, sv_r a]) rfl ?_
              refine sv_cv C (index := 225) (k := 1) (rest := []) (ci := 10) (r := (RX11, TX11, 47)) (by decide +kernel) (sf_X11_wrong l g A ty σ2010 hok2032 hTA Iσ2010 a k_a (5) ⟨by omega, by omega⟩) ⟨co_X11_wrong, in_X11, ⟨by decide, by decide, by decide +kernel⟩, Nat.le_of_ble_eq_true rfl, Nat.le_of_ble_eq_true rfl⟩ ml_X11_225 im_X11_wrong se_X11_wrong (by rw [k_a]; rfl) rfl rfl rfl (Nat.le_of_ble_eq_true rfl) ⟨Nat.zero_le _, Nat.zero_le _⟩ (fun r2324 σ2325 hpo2323 hok2326 => ?_)
              obtain ⟨⟨qu2327, rfl, kqu2327⟩, hIu2327, hFu2327⟩ := hpo2323
              have hGu2327 := Fσ2010.tr hFu2327 (by decide +kernel) (by decide +kernel)
              have t2328 : σ2325 a 18 = n18 := (hFu2327.at k_a (by decide +kernel) (by decide +kernel)).trans eσ2010_0
              have t2329 : σ2325 a 0 = (qa0 : Int) + 1 := (hFu2327.at k_a (by decide +kernel) (by decide +kernel)).trans eσ2010_1
              have t2330 : σ2325 qa0 (4 : Int).toNat = Kg1507_e2 := (hFu2327.atA kqa0 (by decide +kernel) (by decide +kernel)).trans eσ2010_2
              have t2331 : σ2325 a 5 = (Kg1507_fa_5 : Int) + 1 := (hFu2327.at k_a (by decide +kernel) (by decide +kernel)).trans eσ2010_3
              have t2332 : σ2325 a 6 = (Kg1507_fa_6 : Int) + 1 := (hFu2327.at k_a (by decide +kernel) (by decide +kernel)).trans eσ2010_4
              have t2333 : σ2325 a 7 = (Kg1507_fa_7 : Int) + 1 := (hFu2327.at k_a (by decide +kernel) (by decide +kernel)).trans eσ2010_5
              have t2334 : σ2325 a 8 = (Kg1507_fa_8 : Int) + 1 := (hFu2327.at k_a (by decide +kernel) (by decide +kernel)).trans eσ2010_6
              have t2335 : σ2325 a 11 = (Kg1507_fa_11 : Int) + 1 := (hFu2327.at k_a (by decide +kernel) (by decide +kernel)).trans eσ2010_7
              have t2336 : σ2325 a 19 = Xg2009_fa_19 := (hFu2327.at k_a (by decide +kernel) (by decide +kernel)).trans eσ2010_8
              have t2337 : σ2325 a 20 = Xg2009_fa_20 := (hFu2327.at k_a (by decide +kernel) (by decide +kernel)).trans eσ2010_9
              have t2338 : σ2325 a 21 = Xg2009_fa_21 := (hFu2327.at k_a (by decide +kernel) (by decide +kernel)).trans eσ2010_10
              have t2339 : σ2325 a 12 = (Kg1507_fa_12 : Int) + 1 := (hFu2327.at k_a (by decide +kernel) (by decide +kernel)).trans eσ2010_11
              have t2340 : σ2325 a 13 = (Kg1507_fa_13 : Int) + 1 := (hFu2327.at k_a (by decide +kernel) (by decide +kernel)).trans eσ2010_12
              have t2341 : σ2325 a 9 = (Kg1507_fa_9 : Int) + 1 := (hFu2327.at k_a (by decide +kernel) (by decide +kernel)).trans eσ2010_13
              have t2342 : σ2325 a 10 = (Kg1507_fa_10 : Int) + 1 := (hFu2327.at k_a (by decide +kernel) (by decide +kernel)).trans eσ2010_14
              have t2343 : σ2325 Kg1507_fa_13 (Kg1507_l2 : Int).toNat = v2321 := (hFu2327.atA kKg1507_fa_13 (by decide +kernel) (by decide +kernel)).trans ev2321
              refine sv_same (st2 := [sv_r qu2327]) (lv2 := [(0, sv_r a), (2, sv_i Kg1507_l2), (3, sv_i Xg2009_l3), (4, sv_i Xg2009_l4)]) rfl rfl ?_
              exact st_throw C hE (by decide +kernel) hok2326 ⟨kqu2327, hIu2327, hGu2327⟩
            · exact J2036 
        refine sv_if C.1 C.2.1 (cnd := .eq) (off := 12) (tgt := 464) (by decide +kernel) (by decide) ⟨by omega, by omega⟩ (fun (h2026 : vu2025 = 0) => ?_) (fun (h2026 : ¬ (vu2025 = 0)) => ?_)
        · exact J2028 
        · have hp2344 := zq_un ivu2025_0 (by omega) (by omega)
          refine sv_go C.1 C.2.1 [(.aload_n 0, 1)] (pc' := 456) (by decide +kernel) rfl (lv' := [(0, sv_r a), (2, sv_i Kg1507_l2), (3, sv_i Xg2009_l3), (4, sv_i Xg2009_l4)]) (st' := [sv_r a]) rfl ?_
          refine sv_gf C (index := 84) (ci := 10) (k := 12) (r := (RX11, TX11, 47)) (v := sv_r Kg1507_fa_12) (by decide +kernel) (by rw [k_a]; rfl) rfl (by decide) fl_X11_84 (congrArg sv_a eσ2010_11) ?_
          refine sv_go C.1 C.2.1 [(.iload_n 2, 1)] (pc' := 460) (by decide +kernel) rfl (lv' := [(0, sv_r a), (2, sv_i Kg1507_l2), (3, sv_i Xg2009_l3), (4, sv_i Xg2009_l4)]) (st' := [sv_i Kg1507_l2, sv_r Kg1507_fa_12]) rfl ?_
          refine sv_za C (n := 300) (by decide +kernel) (by rw [kKg1507_fa_12]; rfl) (by decide) (by omega) (by omega) ?_
          obtain ⟨v2345, ev2345, hv2345⟩ := sv_rdez hok2024 (a := Kg1507_fa_12) (k := (Kg1507_l2 : Int).toNat) (n := 300) (by rw [kKg1507_fa_12]; rfl) (by omega)
          rw [ev2345]
          refine sv_if C.1 C.2.1 (cnd := .ne) (off := 48) (tgt := 509) (by decide +kernel) (by decide) ⟨by omega, by omega⟩ (fun (h2346 : v2345 ≠ 0) => ?_) (fun (h2346 : ¬ (v2345 ≠ 0)) => ?_)
          · refine sv_go C.1 C.2.1 [(.aload_n 0, 1), (.iconst 5, 1)] (pc' := 511) (by decide +kernel) rfl (lv' := [(0, sv_r a), (2, sv_i Kg1507_l2), (3, sv_i Xg2009_l3), (4, sv_i Xg2009_l4)]) (st' := [sv_i 5, sv_r a]) rfl ?_
            refine sv_cv C (index := 225) (k := 1) (rest := []) (ci := 10) (r := (RX11, TX11, 47)) (by decide +kernel) (sf_X11_wrong l g A ty σ2010 hok2024 hTA Iσ2010 a k_a (5) ⟨by omega, by omega⟩) ⟨co_X11_wrong, in_X11, ⟨by decide, by decide, by decide +kernel⟩, Nat.le_of_ble_eq_true rfl, Nat.le_of_ble_eq_true rfl⟩ ml_X11_225 im_X11_wrong se_X11_wrong (by rw [k_a]; rfl) rfl rfl rfl (Nat.le_of_ble_eq_true rfl) ⟨Nat.zero_le _, Nat.zero_le _⟩ (fun r2348 σ2349 hpo2347 hok2350 => ?_)
            obtain ⟨⟨qu2351, rfl, kqu2351⟩, hIu2351, hFu2351⟩ := hpo2347
            have hGu2351 := Fσ2010.tr hFu2351 (by decide +kernel) (by decide +kernel)
            have t2352 : σ2349 a 18 = n18 := (hFu2351.at k_a (by decide +kernel) (by decide +kernel)).trans eσ2010_0
            have t2353 : σ2349 a 0 = (qa0 : Int) + 1 := (hFu2351.at k_a (by decide +kernel) (by decide +kernel)).trans eσ2010_1
            have t2354 : σ2349 qa0 (4 : Int).toNat = Kg1507_e2 := (hFu2351.atA kqa0 (by decide +kernel) (by decide +kernel)).trans eσ2010_2
            have t2355 : σ2349 a 5 = (Kg1507_fa_5 : Int) + 1 := (hFu2351.at k_a (by decide +kernel) (by decide +kernel)).trans eσ2010_3
            have t2356 : σ2349 a 6 = (Kg1507_fa_6 : Int) + 1 := (hFu2351.at k_a (by decide +kernel) (by decide +kernel)).trans eσ2010_4
            have t2357 : σ2349 a 7 = (Kg1507_fa_7 : Int) + 1 := (hFu2351.at k_a (by decide +kernel) (by decide +kernel)).trans eσ2010_5
            have t2358 : σ2349 a 8 = (Kg1507_fa_8 : Int) + 1 := (hFu2351.at k_a (by decide +kernel) (by decide +kernel)).trans eσ2010_6
            have t2359 : σ2349 a 11 = (Kg1507_fa_11 : Int) + 1 := (hFu2351.at k_a (by decide +kernel) (by decide +kernel)).trans eσ2010_7
            have t2360 : σ2349 a 19 = Xg2009_fa_19 := (hFu2351.at k_a (by decide +kernel) (by decide +kernel)).trans eσ2010_8
            have t2361 : σ2349 a 20 = Xg2009_fa_20 := (hFu2351.at k_a (by decide +kernel) (by decide +kernel)).trans eσ2010_9
            have t2362 : σ2349 a 21 = Xg2009_fa_21 := (hFu2351.at k_a (by decide +kernel) (by decide +kernel)).trans eσ2010_10
            have t2363 : σ2349 a 12 = (Kg1507_fa_12 : Int) + 1 := (hFu2351.at k_a (by decide +kernel) (by decide +kernel)).trans eσ2010_11
            have t2364 : σ2349 a 13 = (Kg1507_fa_13 : Int) + 1 := (hFu2351.at k_a (by decide +kernel) (by decide +kernel)).trans eσ2010_12
            have t2365 : σ2349 a 9 = (Kg1507_fa_9 : Int) + 1 := (hFu2351.at k_a (by decide +kernel) (by decide +kernel)).trans eσ2010_13
            have t2366 : σ2349 a 10 = (Kg1507_fa_10 : Int) + 1 := (hFu2351.at k_a (by decide +kernel) (by decide +kernel)).trans eσ2010_14
            have t2367 : σ2349 Kg1507_fa_12 (Kg1507_l2 : Int).toNat = v2345 := (hFu2351.atA kKg1507_fa_12 (by decide +kernel) (by decide +kernel)).trans ev2345
            refine sv_same (st2 := [sv_r qu2351]) (lv2 := [(0, sv_r a), (2, sv_i Kg1507_l2), (3, sv_i Xg2009_l3), (4, sv_i Xg2009_l4)]) rfl rfl ?_
            exact st_throw C hE (by decide +kernel) hok2350 ⟨kqu2351, hIu2351, hGu2351⟩
          · exact J2028 
      refine sv_if C.1 C.2.1 (cnd := .ne) (off := 30) (tgt := 446) (by decide +kernel) (by decide) ⟨by omega, by omega⟩ (fun (h2018 : vu2017 ≠ 0) => ?_) (fun (h2018 : ¬ (vu2017 ≠ 0)) => ?_)
      · have hp2368 := zq_un ivu2017_0 (by omega) (by omega)
        exact J2020 (by omega)
      · refine sv_go C.1 C.2.1 [(.aload_n 0, 1)] (pc' := 420) (by decide +kernel) rfl (lv' := [(0, sv_r a), (2, sv_i Kg1507_l2), (3, sv_i Xg2009_l3), (4, sv_i Xg2009_l4)]) (st' := [sv_r a]) rfl ?_
        refine sq_ldc C (index := 218) (tx := "octave") 20 (by decide) rfl (by decide +kernel) ?_
        refine sv_cv C (index := 208) (k := 1) (rest := []) (ci := 10) (r := (RX11, TX11, 47)) (by decide +kernel) (sf_X11_is l g A ty σ2010 hok2016 hTA Iσ2010 a k_a 20 (by decide) (n18) ⟨by omega, by omega⟩ (Xg2009_fa_19) ⟨by omega, by omega⟩ (Xg2009_fa_20) ⟨by omega, by omega⟩ (Xg2009_fa_21) ⟨by omega, by omega⟩ eσ2010_0 eσ2010_8 eσ2010_9 eσ2010_10 (by omega) (by omega) (by omega)) ⟨co_X11_is, in_X11, ⟨by decide, by decide, by decide +kernel⟩, Nat.le_of_ble_eq_true rfl, Nat.le_of_ble_eq_true rfl⟩ ml_X11_208 im_X11_is se_X11_is (by rw [k_a]; rfl) rfl rfl rfl (Nat.le_of_ble_eq_true rfl) ⟨Nat.zero_le _, Nat.zero_le _⟩ (fun r2370 σ2371 hpo2369 hok2372 => ?_)
        obtain ⟨rfl, ⟨vu2373, rfl, hvu2373, ivu2373_0⟩⟩ := hpo2369
        replace ivu2373_0 := zq_mk ivu2373_0
        refine sv_same (st2 := [sv_i vu2373]) (lv2 := [(0, sv_r a), (2, sv_i Kg1507_l2), (3, sv_i Xg2009_l3), (4, sv_i Xg2009_l4)]) rfl rfl ?_
        refine sv_if C.1 C.2.1 (cnd := .ne) (off := 21) (tgt := 446) (by decide +kernel) (by decide) ⟨by omega, by omega⟩ (fun (h2374 : vu2373 ≠ 0) => ?_) (fun (h2374 : ¬ (vu2373 ≠ 0)) => ?_)
        · have hp2375 := zq_un ivu2373_0 (by omega) (by omega)
          exact J2020 (by omega)
        · refine sv_go C.1 C.2.1 [(.aload_n 0, 1)] (pc' := 429) (by decide +kernel) rfl (lv' := [(0, sv_r a), (2, sv_i Kg1507_l2), (3, sv_i Xg2009_l3), (4, sv_i Xg2009_l4)]) (st' := [sv_r a]) rfl ?_
          refine sq_ldc C (index := 219) (tx := "from") 21 (by decide) rfl (by decide +kernel) ?_
          refine sv_cv C (index := 208) (k := 1) (rest := []) (ci := 10) (r := (RX11, TX11, 47)) (by decide +kernel) (sf_X11_is l g A ty σ2010 hok2372 hTA Iσ2010 a k_a 21 (by decide) (n18) ⟨by omega, by omega⟩ (Xg2009_fa_19) ⟨by omega, by omega⟩ (Xg2009_fa_20) ⟨by omega, by omega⟩ (Xg2009_fa_21) ⟨by omega, by omega⟩ eσ2010_0 eσ2010_8 eσ2010_9 eσ2010_10 (by omega) (by omega) (by omega)) ⟨co_X11_is, in_X11, ⟨by decide, by decide, by decide +kernel⟩, Nat.le_of_ble_eq_true rfl, Nat.le_of_ble_eq_true rfl⟩ ml_X11_208 im_X11_is se_X11_is (by rw [k_a]; rfl) rfl rfl rfl (Nat.le_of_ble_eq_true rfl) ⟨Nat.zero_le _, Nat.zero_le _⟩ (fun r2377 σ2378 hpo2376 hok2379 => ?_)
          obtain ⟨rfl, ⟨vu2380, rfl, hvu2380, ivu2380_0⟩⟩ := hpo2376
          replace ivu2380_0 := zq_mk ivu2380_0
          refine sv_same (st2 := [sv_i vu2380]) (lv2 := [(0, sv_r a), (2, sv_i Kg1507_l2), (3, sv_i Xg2009_l3), (4, sv_i Xg2009_l4)]) rfl rfl ?_
          refine sv_if C.1 C.2.1 (cnd := .ne) (off := 12) (tgt := 446) (by decide +kernel) (by decide) ⟨by omega, by omega⟩ (fun (h2381 : vu2380 ≠ 0) => ?_) (fun (h2381 : ¬ (vu2380 ≠ 0)) => ?_)
          · have hp2382 := zq_un ivu2380_0 (by omega) (by omega)
            exact J2020 (by omega)
          · refine sv_go C.1 C.2.1 [(.aload_n 0, 1)] (pc' := 438) (by decide +kernel) rfl (lv' := [(0, sv_r a), (2, sv_i Kg1507_l2), (3, sv_i Xg2009_l3), (4, sv_i Xg2009_l4)]) (st' := [sv_r a]) rfl ?_
            refine sq_ldc C (index := 220) (tx := "till") 22 (by decide) rfl (by decide +kernel) ?_
            refine sv_cv C (index := 208) (k := 1) (rest := []) (ci := 10) (r := (RX11, TX11, 47)) (by decide +kernel) (sf_X11_is l g A ty σ2010 hok2379 hTA Iσ2010 a k_a 22 (by decide) (n18) ⟨by omega, by omega⟩ (Xg2009_fa_19) ⟨by omega, by omega⟩ (Xg2009_fa_20) ⟨by omega, by omega⟩ (Xg2009_fa_21) ⟨by omega, by omega⟩ eσ2010_0 eσ2010_8 eσ2010_9 eσ2010_10 (by omega) (by omega) (by omega)) ⟨co_X11_is, in_X11, ⟨by decide, by decide, by decide +kernel⟩, Nat.le_of_ble_eq_true rfl, Nat.le_of_ble_eq_true rfl⟩ ml_X11_208 im_X11_is se_X11_is (by rw [k_a]; rfl) rfl rfl rfl (Nat.le_of_ble_eq_true rfl) ⟨Nat.zero_le _, Nat.zero_le _⟩ (fun r2384 σ2385 hpo2383 hok2386 => ?_)
            obtain ⟨rfl, ⟨vu2387, rfl, hvu2387, ivu2387_0⟩⟩ := hpo2383
            replace ivu2387_0 := zq_mk ivu2387_0
            refine sv_same (st2 := [sv_i vu2387]) (lv2 := [(0, sv_r a), (2, sv_i Kg1507_l2), (3, sv_i Xg2009_l3), (4, sv_i Xg2009_l4)]) rfl rfl ?_
            refine sv_if C.1 C.2.1 (cnd := .eq) (off := 197) (tgt := 640) (by decide +kernel) (by decide) ⟨by omega, by omega⟩ (fun (h2388 : vu2387 = 0) => ?_) (fun (h2388 : ¬ (vu2387 = 0)) => ?_)
            · refine sv_go C.1 C.2.1 [(.aload_n 0, 1)] (pc' := 641) (by decide +kernel) rfl (lv' := [(0, sv_r a), (2, sv_i Kg1507_l2), (3, sv_i Xg2009_l3), (4, sv_i Xg2009_l4)]) (st' := [sv_r a]) rfl ?_
              refine sv_gf C (index := 47) (ci := 10) (k := 0) (r := (RX11, TX11, 47)) (v := sv_r qa0) (by decide +kernel) (by rw [k_a]; rfl) rfl (by decide) fl_X11_47 (congrArg sv_a eσ2010_1) ?_
              refine sv_go C.1 C.2.1 [(.iconst 4, 1), (.dup2, 1)] (pc' := 646) (by decide +kernel) rfl (lv' := [(0, sv_r a), (2, sv_i Kg1507_l2), (3, sv_i Xg2009_l3), (4, sv_i Xg2009_l4)]) (st' := [sv_i 4, sv_r qa0, sv_i 4, sv_r qa0]) rfl ?_
              refine sv_ia C (n := 5) (by decide +kernel) (by rw [kqa0]; rfl) (by decide) (by omega) (by omega) ?_
              rw [eσ2010_2]
              refine sv_go C.1 C.2.1 [(.iconst 1, 1), (.iadd, 1)] (pc' := 649) (by decide +kernel) rfl (lv' := [(0, sv_r a), (2, sv_i Kg1507_l2), (3, sv_i Xg2009_l3), (4, sv_i Xg2009_l4)]) (st' := [sv_i (Kg1507_e2 + 1), sv_i 4, sv_r qa0]) rfl ?_
              refine sv_is C (n := 5) (by decide +kernel) (by rw [kqa0]; rfl) (by decide) (by omega) (by omega) ⟨by omega, by omega⟩ (hTA _ (by rw [kqa0]; decide)) hok2386 (fun hok2389 => ?_)
              have hI2391 := Iσ2010.up (a := qa0) (k := (4 : Int).toNat) (z := Kg1507_e2 + 1) (by rw [kqa0]; exact ⟨by omega, by omega⟩)
              have hF2392 := Fσ2010.up (a := qa0) (k := (4 : Int).toNat) (z := Kg1507_e2 + 1) (Or.inl (by rw [kqa0]; decide +kernel))
              generalize eσ2390 : sv_up σ2010 qa0 (4 : Int).toNat (Kg1507_e2 + 1) = σ2390 at hok2389 hI2391 hF2392 ⊢
              have t2393 : σ2390 a 18 = n18 := by rw [← eσ2390, sv_up_a (sv_ne k_a kqa0 (by decide))]; exact eσ2010_0
              have t2394 : σ2390 a 0 = (qa0 : Int) + 1 := by rw [← eσ2390, sv_up_a (sv_ne k_a kqa0 (by decide))]; exact eσ2010_1
              have t2396 : σ2390 a 5 = (Kg1507_fa_5 : Int) + 1 := by rw [← eσ2390, sv_up_a (sv_ne k_a kqa0 (by decide))]; exact eσ2010_3
              have t2397 : σ2390 a 6 = (Kg1507_fa_6 : Int) + 1 := by rw [← eσ2390, sv_up_a (sv_ne k_a kqa0 (by decide))]; exact eσ2010_4
              have t2398 : σ2390 a 7 = (Kg1507_fa_7 : Int) + 1 := by rw [← eσ2390, sv_up_a (sv_ne k_a kqa0 (by decide))]; exact eσ2010_5
              have t2399 : σ2390 a 8 = (Kg1507_fa_8 : Int) + 1 := by rw [← eσ2390, sv_up_a (sv_ne k_a kqa0 (by decide))]; exact eσ2010_6
              have t2400 : σ2390 a 11 = (Kg1507_fa_11 : Int) + 1 := by rw [← eσ2390, sv_up_a (sv_ne k_a kqa0 (by decide))]; exact eσ2010_7
              have t2401 : σ2390 a 19 = Xg2009_fa_19 := by rw [← eσ2390, sv_up_a (sv_ne k_a kqa0 (by decide))]; exact eσ2010_8
              have t2402 : σ2390 a 20 = Xg2009_fa_20 := by rw [← eσ2390, sv_up_a (sv_ne k_a kqa0 (by decide))]; exact eσ2010_9
              have t2403 : σ2390 a 21 = Xg2009_fa_21 := by rw [← eσ2390, sv_up_a (sv_ne k_a kqa0 (by decide))]; exact eσ2010_10
              have t2404 : σ2390 a 12 = (Kg1507_fa_12 : Int) + 1 := by rw [← eσ2390, sv_up_a (sv_ne k_a kqa0 (by decide))]; exact eσ2010_11
              have t2405 : σ2390 a 13 = (Kg1507_fa_13 : Int) + 1 := by rw [← eσ2390, sv_up_a (sv_ne k_a kqa0 (by decide))]; exact eσ2010_12
              have t2406 : σ2390 a 9 = (Kg1507_fa_9 : Int) + 1 := by rw [← eσ2390, sv_up_a (sv_ne k_a kqa0 (by decide))]; exact eσ2010_13
              have t2407 : σ2390 a 10 = (Kg1507_fa_10 : Int) + 1 := by rw [← eσ2390, sv_up_a (sv_ne k_a kqa0 (by decide))]; exact eσ2010_14
              have t2408 : σ2390 qa0 (4 : Int).toNat = Kg1507_e2 + 1 := by rw [← eσ2390]; exact sv_up_s _ _ _ _
              exact st_of (sv_vret C hr (by decide +kernel) hok2389 (⟨rfl, hI2391, hF2392, _, _, _, t2401, t2402, t2403, by omega, by omega, by omega, by omega⟩))
            · have hp2409 := zq_un ivu2387_0 (by omega) (by omega)
              exact J2020 (by omega)
  exact L2011 (((n18 - Kg1507_fa_19 : Int)).toNat + 1) 0 0 Kg1507_fa_19 Kg1507_fa_20 Kg1507_fa_21 σ1508 ⟨by omega, by omega⟩ ⟨by omega, by omega⟩ ⟨by omega, by omega⟩ ⟨by omega, by omega⟩ ⟨by omega, by omega⟩ okσ1508 Iσ1508 Fσ1508 eσ1508_0 eσ1508_1 eσ1508_2 eσ1508_3 eσ1508_4 eσ1508_5 eσ1508_6 eσ1508_7 eσ1508_8 eσ1508_9 eσ1508_10 eσ1508_11 eσ1508_12 eσ1508_13 eσ1508_14 (by omega) (by omega) (by omega)

set_option maxHeartbeats 4000000 in
set_option maxRecDepth 100000 in
theorem sf_X11_readFeast_371 (l : Launch) (g : sv_G) (A : Nat → Prop) (ty : Nat → Nat) (σ : Nat → Nat → Int) (hok : sv_ok ty σ) (hTA : ∀ q, ty q ≠ 0 → A q) (hI : sv_inv sp_1 ty σ) (a : Nat) (k_a : ty a = 10) (n18 : Int) (h_n18 : 0 ≤ n18 ∧ n18 ≤ 4000) (b1 : Int) (h_b1 : 0 ≤ b1 ∧ b1 ≤ 4000) (b2 : Int) (h_b2 : 0 ≤ b2 ∧ b2 ≤ 4000) (hh : Int) (h_hh : 0 ≤ hh ∧ hh ≤ 4) (e18 : σ a 18 = n18) (e19 : σ a 19 = b1) (e20 : σ a 20 = b2) (e21 : σ a 21 = hh) (hJ1 : b1 ≤ b2 ∧ b2 ≤ n18) (qa0 : Nat) (eqa0 : σ a 0 = (qa0 : Int) + 1) (kqa0 : ty qa0 = 60) (p : Program) (e : Env) (s : State) (m : MethodId) (args : Array Value) (below : List Frame) (meth : Method) (c : Code) (C : sv_C g A RX11 cX11_readFeast 7 p s m args meth c) (hr : meth.sig.returnType = none) (hE : c.exceptionTable.isEmpty = true) : ∀ (Kg1005_l2 : Int) (Kg1005_e2 : Int) (Kg1005_fa_5 : Nat) (Kg1005_fa_6 : Nat) (Kg1005_fa_7 : Nat) (Kg1005_fa_8 : Nat) (Kg1005_fa_19 : Int) (Kg1005_fa_20 : Int) (Kg1005_fa_21 : Int) (Kg1005_fa_11 : Nat) (σ1006 : Nat → Nat → Int), (0 ≤ Kg1005_l2 ∧ Kg1005_l2 ≤ 299) → (0 ≤ Kg1005_e2 ∧ Kg1005_e2 ≤ 59) → (ty Kg1005_fa_5 = 65) → (ty Kg1005_fa_6 = 66) → (ty Kg1005_fa_7 = 67) → (ty Kg1005_fa_8 = 68) → (0 ≤ Kg1005_fa_19 ∧ Kg1005_fa_19 ≤ 4000) → (0 ≤ Kg1005_fa_20 ∧ Kg1005_fa_20 ≤ 4000) → (1 ≤ Kg1005_fa_21 ∧ Kg1005_fa_21 ≤ 1) → (ty Kg1005_fa_11 = 71) → (sv_ok ty σ1006) → (sv_inv sp_1 ty σ1006) → (sv_ofx [(10, 19), (10, 20), (10, 21), (10, 22), (10, 23), (10, 24)] [60, 65, 66, 67, 68, 69, 70, 71, 72, 73, 74] ty σ σ1006) → (σ1006 a 18 = n18) → (σ1006 a 0 = (qa0 : Int) + 1) → (σ1006 qa0 (4 : Int).toNat = Kg1005_e2) → (σ1006 a 5 = (Kg1005_fa_5 : Int) + 1) → (σ1006 a 6 = (Kg1005_fa_6 : Int) + 1) → (σ1006 a 7 = (Kg1005_fa_7 : Int) + 1) → (σ1006 a 8 = (Kg1005_fa_8 : Int) + 1) → (σ1006 a 19 = Kg1005_fa_19) → (σ1006 a 20 = Kg1005_fa_20) → (σ1006 a 21 = Kg1005_fa_21) → (σ1006 a 11 = (Kg1005_fa_11 : Int) + 1) → (b1 ≤ Kg1005_fa_19 ∧ Kg1005_fa_19 ≤ Kg1005_fa_20 ∧ Kg1005_fa_20 ≤ n18) → ((Kg1005_fa_21 = 0 ∨ Kg1005_fa_19 < Kg1005_fa_20) ∧ (Kg1005_fa_21 ≠ 1 ∨ Kg1005_fa_20 ≤ Kg1005_fa_19 + 12)) → st_E p l e { frames := 6, cells := 0, slots := 0, locals := 129 } s m args below meth c 7 g A ty (fun r σ' => (r = []) ∧ sv_inv sp_1 ty σ' ∧ sv_ofx [(10, 19), (10, 20), (10, 21), (10, 22), (10, 23), (10, 24)] [60, 65, 66, 67, 68, 69, 70, 71, 72, 73, 74] ty σ σ' ∧ ∃ c1 c2 hc : Int, σ' a 19 = c1 ∧ σ' a 20 = c2 ∧ σ' a 21 = hc ∧ (b1 ≤ c1 ∧ c1 ≤ c2 ∧ c2 ≤ n18) ∧ (0 ≤ hc ∧ hc ≤ 4) ∧ (hc = 0 ∨ c1 < c2) ∧ (hc ≠ 1 ∨ c2 ≤ c1 + 12)) (fun x σ' => ty x = 11 ∧ sv_inv sp_1 ty σ' ∧ sv_ofx [(10, 19), (10, 20), (10, 21), (10, 22), (10, 23), (10, 24)] [60, 65, 66, 67, 68, 69, 70, 71, 72, 73, 74] ty σ σ') σ1006 371 [(0, sv_r a), (2, sv_i Kg1005_l2)] [] := by
  intro Kg1005_l2 Kg1005_e2 Kg1005_fa_5 Kg1005_fa_6 Kg1005_fa_7 Kg1005_fa_8 Kg1005_fa_19 Kg1005_fa_20 Kg1005_fa_21 Kg1005_fa_11 σ1006 hKg1005_l2 hKg1005_e2 kKg1005_fa_5 kKg1005_fa_6 kKg1005_fa_7 kKg1005_fa_8 hKg1005_fa_19 hKg1005_fa_20 hKg1005_fa_21 kKg1005_fa_11 okσ1006 Iσ1006 Fσ1006 eσ1006_0 eσ1006_1 eσ1006_2 eσ1006_3 eσ1006_4 eσ1006_5 eσ1006_6 eσ1006_7 eσ1006_8 eσ1006_9 eσ1006_10 zk371o zk371
  have hF : sv_ofx [(10, 19), (10, 20), (10, 21), (10, 22), (10, 23), (10, 24)] [60, 65, 66, 67, 68, 69, 70, 71, 72, 73, 74] ty σ σ := sv_ofx.rf
  refine sv_go C.1 C.2.1 [(.aload_n 0, 1)] (pc' := 372) (by decide +kernel) rfl (lv' := [(0, sv_r a), (2, sv_i Kg1005_l2)]) (st' := [sv_r a]) rfl ?_
  refine sv_cv C (index := 229) (k := 0) (rest := []) (ci := 10) (r := (RX11, TX11, 47)) (by decide +kernel) (sf_X11_scan l g A ty σ1006 okσ1006 hTA Iσ1006 a k_a (n18) ⟨by omega, by omega⟩ (Kg1005_fa_20) ⟨by omega, by omega⟩ eσ1006_0 eσ1006_8 (by omega)) ⟨co_X11_scan, in_X11, ⟨by decide, by decide, by decide +kernel⟩, Nat.le_of_ble_eq_true rfl, Nat.le_of_ble_eq_true rfl⟩ ml_X11_229 im_X11_scan se_X11_scan (by rw [k_a]; rfl) rfl rfl rfl (Nat.le_of_ble_eq_true rfl) ⟨Nat.zero_le _, Nat.zero_le _⟩ (fun r2411 σ2412 hpo2410 hok2413 => ?_)
  obtain ⟨rfl, hIu2414, hFu2414, xu2414⟩ := hpo2410
  have hGu2414 := Fσ1006.tr hFu2414 (by decide +kernel) (by decide +kernel)
  have t2415 : σ2412 a 18 = n18 := (hFu2414.at k_a (by decide +kernel) (by decide +kernel)).trans eσ1006_0
  have t2416 : σ2412 a 0 = (qa0 : Int) + 1 := (hFu2414.at k_a (by decide +kernel) (by decide +kernel)).trans eσ1006_1
  have t2417 : σ2412 qa0 (4 : Int).toNat = Kg1005_e2 := (hFu2414.atA kqa0 (by decide +kernel) (by decide +kernel)).trans eσ1006_2
  have t2418 : σ2412 a 5 = (Kg1005_fa_5 : Int) + 1 := (hFu2414.at k_a (by decide +kernel) (by decide +kernel)).trans eσ1006_3
  have t2419 : σ2412 a 6 = (Kg1005_fa_6 : Int) + 1 := (hFu2414.at k_a (by decide +kernel) (by decide +kernel)).trans eσ1006_4
  have t2420 : σ2412 a 7 = (Kg1005_fa_7 : Int) + 1 := (hFu2414.at k_a (by decide +kernel) (by decide +kernel)).trans eσ1006_5
  have t2421 : σ2412 a 8 = (Kg1005_fa_8 : Int) + 1 := (hFu2414.at k_a (by decide +kernel) (by decide +kernel)).trans eσ1006_6
  have t2422 : σ2412 a 11 = (Kg1005_fa_11 : Int) + 1 := (hFu2414.at k_a (by decide +kernel) (by decide +kernel)).trans eσ1006_10
  have hltu2414 : Kg1005_fa_19 < Kg1005_fa_20 := by omega
  clear zk371
  obtain ⟨c1u2414, c2u2414, chu2414, e19u2414, e20u2414, e21u2414, j1u2414, j2u2414, j3u2414, j4u2414⟩ := xu2414
  refine sv_same (st2 := []) (lv2 := [(0, sv_r a), (2, sv_i Kg1005_l2)]) rfl rfl ?_
  refine sv_go C.1 C.2.1 [(.aload_n 0, 1)] (pc' := 376) (by decide +kernel) rfl (lv' := [(0, sv_r a), (2, sv_i Kg1005_l2)]) (st' := [sv_r a]) rfl ?_
  obtain ⟨v2423, ev2423, kv2423⟩ := hIu2414.ref (k := 12) k_a rfl
  refine sv_gf C (index := 84) (ci := 10) (k := 12) (r := (RX11, TX11, 47)) (v := sv_r v2423) (by decide +kernel) (by rw [k_a]; rfl) rfl (by decide) fl_X11_84 (congrArg sv_a ev2423) ?_
  refine sv_go C.1 C.2.1 [(.iload_n 2, 1), (.iconst 0, 1)] (pc' := 381) (by decide +kernel) rfl (lv' := [(0, sv_r a), (2, sv_i Kg1005_l2)]) (st' := [sv_i 0, sv_i Kg1005_l2, sv_r v2423]) rfl ?_
  refine sv_zs C (n := 300) (by decide +kernel) (by rw [kv2423]; rfl) (by decide) (by omega) (by omega) ⟨by omega, by omega⟩ (hTA _ (by rw [kv2423]; decide)) hok2413 (fun hok2424 => ?_)
  have hI2426 := hIu2414.up (a := v2423) (k := (Kg1005_l2 : Int).toNat) (z := 0) (by rw [kv2423]; exact trivial)
  have hF2427 := hGu2414.up (a := v2423) (k := (Kg1005_l2 : Int).toNat) (z := 0) (Or.inl (by rw [kv2423]; decide +kernel))
  generalize eσ2425 : sv_up σ2412 v2423 (Kg1005_l2 : Int).toNat 0 = σ2425 at hok2424 hI2426 hF2427 ⊢
  have t2428 : σ2425 a 18 = n18 := by rw [← eσ2425, sv_up_a (sv_ne k_a kv2423 (by decide))]; exact t2415
  have t2429 : σ2425 a 0 = (qa0 : Int) + 1 := by rw [← eσ2425, sv_up_a (sv_ne k_a kv2423 (by decide))]; exact t2416
  have t2430 : σ2425 qa0 (4 : Int).toNat = Kg1005_e2 := by rw [← eσ2425, sv_up_a (sv_ne kqa0 kv2423 (by decide))]; exact t2417
  have t2431 : σ2425 a 5 = (Kg1005_fa_5 : Int) + 1 := by rw [← eσ2425, sv_up_a (sv_ne k_a kv2423 (by decide))]; exact t2418
  have t2432 : σ2425 a 6 = (Kg1005_fa_6 : Int) + 1 := by rw [← eσ2425, sv_up_a (sv_ne k_a kv2423 (by decide))]; exact t2419
  have t2433 : σ2425 a 7 = (Kg1005_fa_7 : Int) + 1 := by rw [← eσ2425, sv_up_a (sv_ne k_a kv2423 (by decide))]; exact t2420
  have t2434 : σ2425 a 8 = (Kg1005_fa_8 : Int) + 1 := by rw [← eσ2425, sv_up_a (sv_ne k_a kv2423 (by decide))]; exact t2421
  have t2435 : σ2425 a 11 = (Kg1005_fa_11 : Int) + 1 := by rw [← eσ2425, sv_up_a (sv_ne k_a kv2423 (by decide))]; exact t2422
  have t2436 : σ2425 a 19 = c1u2414 := by rw [← eσ2425, sv_up_a (sv_ne k_a kv2423 (by decide))]; exact e19u2414
  have t2437 : σ2425 a 20 = c2u2414 := by rw [← eσ2425, sv_up_a (sv_ne k_a kv2423 (by decide))]; exact e20u2414
  have t2438 : σ2425 a 21 = chu2414 := by rw [← eσ2425, sv_up_a (sv_ne k_a kv2423 (by decide))]; exact e21u2414
  have t2439 : σ2425 a 12 = (v2423 : Int) + 1 := by rw [← eσ2425, sv_up_a (sv_ne k_a kv2423 (by decide))]; exact ev2423
  have t2440 : σ2425 v2423 (Kg1005_l2 : Int).toNat = 0 := by rw [← eσ2425]; exact sv_up_s _ _ _ _
  refine sv_go C.1 C.2.1 [(.aload_n 0, 1)] (pc' := 383) (by decide +kernel) rfl (lv' := [(0, sv_r a), (2, sv_i Kg1005_l2)]) (st' := [sv_r a]) rfl ?_
  obtain ⟨v2441, ev2441, kv2441⟩ := hI2426.ref (k := 13) k_a rfl
  refine sv_gf C (index := 88) (ci := 10) (k := 13) (r := (RX11, TX11, 47)) (v := sv_r v2441) (by decide +kernel) (by rw [k_a]; rfl) rfl (by decide) fl_X11_88 (congrArg sv_a ev2441) ?_
  refine sv_go C.1 C.2.1 [(.iload_n 2, 1), (.iconst 0, 1)] (pc' := 388) (by decide +kernel) rfl (lv' := [(0, sv_r a), (2, sv_i Kg1005_l2)]) (st' := [sv_i 0, sv_i Kg1005_l2, sv_r v2441]) rfl ?_
  refine sv_zs C (n := 300) (by decide +kernel) (by rw [kv2441]; rfl) (by decide) (by omega) (by omega) ⟨by omega, by omega⟩ (hTA _ (by rw [kv2441]; decide)) hok2424 (fun hok2442 => ?_)
  have hI2444 := hI2426.up (a := v2441) (k := (Kg1005_l2 : Int).toNat) (z := 0) (by rw [kv2441]; exact trivial)
  have hF2445 := hF2427.up (a := v2441) (k := (Kg1005_l2 : Int).toNat) (z := 0) (Or.inl (by rw [kv2441]; decide +kernel))
  generalize eσ2443 : sv_up σ2425 v2441 (Kg1005_l2 : Int).toNat 0 = σ2443 at hok2442 hI2444 hF2445 ⊢
  have t2446 : σ2443 a 18 = n18 := by rw [← eσ2443, sv_up_a (sv_ne k_a kv2441 (by decide))]; exact t2428
  have t2447 : σ2443 a 0 = (qa0 : Int) + 1 := by rw [← eσ2443, sv_up_a (sv_ne k_a kv2441 (by decide))]; exact t2429
  have t2448 : σ2443 qa0 (4 : Int).toNat = Kg1005_e2 := by rw [← eσ2443, sv_up_a (sv_ne kqa0 kv2441 (by decide))]; exact t2430
  have t2449 : σ2443 a 5 = (Kg1005_fa_5 : Int) + 1 := by rw [← eσ2443, sv_up_a (sv_ne k_a kv2441 (by decide))]; exact t2431
  have t2450 : σ2443 a 6 = (Kg1005_fa_6 : Int) + 1 := by rw [← eσ2443, sv_up_a (sv_ne k_a kv2441 (by decide))]; exact t2432
  have t2451 : σ2443 a 7 = (Kg1005_fa_7 : Int) + 1 := by rw [← eσ2443, sv_up_a (sv_ne k_a kv2441 (by decide))]; exact t2433
  have t2452 : σ2443 a 8 = (Kg1005_fa_8 : Int) + 1 := by rw [← eσ2443, sv_up_a (sv_ne k_a kv2441 (by decide))]; exact t2434
  have t2453 : σ2443 a 11 = (Kg1005_fa_11 : Int) + 1 := by rw [← eσ2443, sv_up_a (sv_ne k_a kv2441 (by decide))]; exact t2435
  have t2454 : σ2443 a 19 = c1u2414 := by rw [← eσ2443, sv_up_a (sv_ne k_a kv2441 (by decide))]; exact t2436
  have t2455 : σ2443 a 20 = c2u2414 := by rw [← eσ2443, sv_up_a (sv_ne k_a kv2441 (by decide))]; exact t2437
  have t2456 : σ2443 a 21 = chu2414 := by rw [← eσ2443, sv_up_a (sv_ne k_a kv2441 (by decide))]; exact t2438
  have t2457 : σ2443 a 12 = (v2423 : Int) + 1 := by rw [← eσ2443, sv_up_a (sv_ne k_a kv2441 (by decide))]; exact t2439
  have t2458 : σ2443 v2423 (Kg1005_l2 : Int).toNat = 0 := by rw [← eσ2443, sv_up_a (sv_ne kv2423 kv2441 (by decide))]; exact t2440
  have t2459 : σ2443 a 13 = (v2441 : Int) + 1 := by rw [← eσ2443, sv_up_a (sv_ne k_a kv2441 (by decide))]; exact ev2441
  have t2460 : σ2443 v2441 (Kg1005_l2 : Int).toNat = 0 := by rw [← eσ2443]; exact sv_up_s _ _ _ _
  refine sv_go C.1 C.2.1 [(.aload_n 0, 1)] (pc' := 390) (by decide +kernel) rfl (lv' := [(0, sv_r a), (2, sv_i Kg1005_l2)]) (st' := [sv_r a]) rfl ?_
  obtain ⟨v2461, ev2461, kv2461⟩ := hI2444.ref (k := 9) k_a rfl
  refine sv_gf C (index := 75) (ci := 10) (k := 9) (r := (RX11, TX11, 47)) (v := sv_r v2461) (by decide +kernel) (by rw [k_a]; rfl) rfl (by decide) fl_X11_75 (congrArg sv_a ev2461) ?_
  refine sv_go C.1 C.2.1 [(.iload_n 2, 1), (.iconst 1, 1)] (pc' := 395) (by decide +kernel) rfl (lv' := [(0, sv_r a), (2, sv_i Kg1005_l2)]) (st' := [sv_i 1, sv_i Kg1005_l2, sv_r v2461]) rfl ?_
  refine sv_is C (n := 300) (by decide +kernel) (by rw [kv2461]; rfl) (by decide) (by omega) (by omega) ⟨by omega, by omega⟩ (hTA _ (by rw [kv2461]; decide)) hok2442 (fun hok2462 => ?_)
  have hI2464 := hI2444.up (a := v2461) (k := (Kg1005_l2 : Int).toNat) (z := 1) (by rw [kv2461]; exact trivial)
  have hF2465 := hF2445.up (a := v2461) (k := (Kg1005_l2 : Int).toNat) (z := 1) (Or.inl (by rw [kv2461]; decide +kernel))
  generalize eσ2463 : sv_up σ2443 v2461 (Kg1005_l2 : Int).toNat 1 = σ2463 at hok2462 hI2464 hF2465 ⊢
  have t2466 : σ2463 a 18 = n18 := by rw [← eσ2463, sv_up_a (sv_ne k_a kv2461 (by decide))]; exact t2446
  have t2467 : σ2463 a 0 = (qa0 : Int) + 1 := by rw [← eσ2463, sv_up_a (sv_ne k_a kv2461 (by decide))]; exact t2447
  have t2468 : σ2463 qa0 (4 : Int).toNat = Kg1005_e2 := by rw [← eσ2463, sv_up_a (sv_ne kqa0 kv2461 (by decide))]; exact t2448
  have t2469 : σ2463 a 5 = (Kg1005_fa_5 : Int) + 1 := by rw [← eσ2463, sv_up_a (sv_ne k_a kv2461 (by decide))]; exact t2449
  have t2470 : σ2463 a 6 = (Kg1005_fa_6 : Int) + 1 := by rw [← eσ2463, sv_up_a (sv_ne k_a kv2461 (by decide))]; exact t2450
  have t2471 : σ2463 a 7 = (Kg1005_fa_7 : Int) + 1 := by rw [← eσ2463, sv_up_a (sv_ne k_a kv2461 (by decide))]; exact t2451
  have t2472 : σ2463 a 8 = (Kg1005_fa_8 : Int) + 1 := by rw [← eσ2463, sv_up_a (sv_ne k_a kv2461 (by decide))]; exact t2452
  have t2473 : σ2463 a 11 = (Kg1005_fa_11 : Int) + 1 := by rw [← eσ2463, sv_up_a (sv_ne k_a kv2461 (by decide))]; exact t2453
  have t2474 : σ2463 a 19 = c1u2414 := by rw [← eσ2463, sv_up_a (sv_ne k_a kv2461 (by decide))]; exact t2454
  have t2475 : σ2463 a 20 = c2u2414 := by rw [← eσ2463, sv_up_a (sv_ne k_a kv2461 (by decide))]; exact t2455
  have t2476 : σ2463 a 21 = chu2414 := by rw [← eσ2463, sv_up_a (sv_ne k_a kv2461 (by decide))]; exact t2456
  have t2477 : σ2463 a 12 = (v2423 : Int) + 1 := by rw [← eσ2463, sv_up_a (sv_ne k_a kv2461 (by decide))]; exact t2457
  have t2478 : σ2463 v2423 (Kg1005_l2 : Int).toNat = 0 := by rw [← eσ2463, sv_up_a (sv_ne kv2423 kv2461 (by decide))]; exact t2458
  have t2479 : σ2463 a 13 = (v2441 : Int) + 1 := by rw [← eσ2463, sv_up_a (sv_ne k_a kv2461 (by decide))]; exact t2459
  have t2480 : σ2463 v2441 (Kg1005_l2 : Int).toNat = 0 := by rw [← eσ2463, sv_up_a (sv_ne kv2441 kv2461 (by decide))]; exact t2460
  have t2481 : σ2463 a 9 = (v2461 : Int) + 1 := by rw [← eσ2463, sv_up_a (sv_ne k_a kv2461 (by decide))]; exact ev2461
  have t2482 : σ2463 v2461 (Kg1005_l2 : Int).toNat = 1 := by rw [← eσ2463]; exact sv_up_s _ _ _ _
  refine sv_go C.1 C.2.1 [(.aload_n 0, 1)] (pc' := 397) (by decide +kernel) rfl (lv' := [(0, sv_r a), (2, sv_i Kg1005_l2)]) (st' := [sv_r a]) rfl ?_
  obtain ⟨v2483, ev2483, kv2483⟩ := hI2464.ref (k := 10) k_a rfl
  refine sv_gf C (index := 78) (ci := 10) (k := 10) (r := (RX11, TX11, 47)) (v := sv_r v2483) (by decide +kernel) (by rw [k_a]; rfl) rfl (by decide) fl_X11_78 (congrArg sv_a ev2483) ?_
  refine sv_go C.1 C.2.1 [(.iload_n 2, 1), (.sipush 2000, 3)] (pc' := 404) (by decide +kernel) rfl (lv' := [(0, sv_r a), (2, sv_i Kg1005_l2)]) (st' := [sv_i 2000, sv_i Kg1005_l2, sv_r v2483]) rfl ?_
  refine sv_is C (n := 300) (by decide +kernel) (by rw [kv2483]; rfl) (by decide) (by omega) (by omega) ⟨by omega, by omega⟩ (hTA _ (by rw [kv2483]; decide)) hok2462 (fun hok2484 => ?_)
  have hI2486 := hI2464.up (a := v2483) (k := (Kg1005_l2 : Int).toNat) (z := 2000) (by rw [kv2483]; exact trivial)
  have hF2487 := hF2465.up (a := v2483) (k := (Kg1005_l2 : Int).toNat) (z := 2000) (Or.inl (by rw [kv2483]; decide +kernel))
  generalize eσ2485 : sv_up σ2463 v2483 (Kg1005_l2 : Int).toNat 2000 = σ2485 at hok2484 hI2486 hF2487 ⊢
  have t2488 : σ2485 a 18 = n18 := by rw [← eσ2485, sv_up_a (sv_ne k_a kv2483 (by decide))]; exact t2466
  have t2489 : σ2485 a 0 = (qa0 : Int) + 1 := by rw [← eσ2485, sv_up_a (sv_ne k_a kv2483 (by decide))]; exact t2467
  have t2490 : σ2485 qa0 (4 : Int).toNat = Kg1005_e2 := by rw [← eσ2485, sv_up_a (sv_ne kqa0 kv2483 (by decide))]; exact t2468
  have t2491 : σ2485 a 5 = (Kg1005_fa_5 : Int) + 1 := by rw [← eσ2485, sv_up_a (sv_ne k_a kv2483 (by decide))]; exact t2469
  have t2492 : σ2485 a 6 = (Kg1005_fa_6 : Int) + 1 := by rw [← eσ2485, sv_up_a (sv_ne k_a kv2483 (by decide))]; exact t2470
  have t2493 : σ2485 a 7 = (Kg1005_fa_7 : Int) + 1 := by rw [← eσ2485, sv_up_a (sv_ne k_a kv2483 (by decide))]; exact t2471
  have t2494 : σ2485 a 8 = (Kg1005_fa_8 : Int) + 1 := by rw [← eσ2485, sv_up_a (sv_ne k_a kv2483 (by decide))]; exact t2472
  have t2495 : σ2485 a 11 = (Kg1005_fa_11 : Int) + 1 := by rw [← eσ2485, sv_up_a (sv_ne k_a kv2483 (by decide))]; exact t2473
  have t2496 : σ2485 a 19 = c1u2414 := by rw [← eσ2485, sv_up_a (sv_ne k_a kv2483 (by decide))]; exact t2474
  have t2497 : σ2485 a 20 = c2u2414 := by rw [← eσ2485, sv_up_a (sv_ne k_a kv2483 (by decide))]; exact t2475
  have t2498 : σ2485 a 21 = chu2414 := by rw [← eσ2485, sv_up_a (sv_ne k_a kv2483 (by decide))]; exact t2476
  have t2499 : σ2485 a 12 = (v2423 : Int) + 1 := by rw [← eσ2485, sv_up_a (sv_ne k_a kv2483 (by decide))]; exact t2477
  have t2500 : σ2485 v2423 (Kg1005_l2 : Int).toNat = 0 := by rw [← eσ2485, sv_up_a (sv_ne kv2423 kv2483 (by decide))]; exact t2478
  have t2501 : σ2485 a 13 = (v2441 : Int) + 1 := by rw [← eσ2485, sv_up_a (sv_ne k_a kv2483 (by decide))]; exact t2479
  have t2502 : σ2485 v2441 (Kg1005_l2 : Int).toNat = 0 := by rw [← eσ2485, sv_up_a (sv_ne kv2441 kv2483 (by decide))]; exact t2480
  have t2503 : σ2485 a 9 = (v2461 : Int) + 1 := by rw [← eσ2485, sv_up_a (sv_ne k_a kv2483 (by decide))]; exact t2481
  have t2504 : σ2485 v2461 (Kg1005_l2 : Int).toNat = 1 := by rw [← eσ2485, sv_up_a (sv_ne kv2461 kv2483 (by decide))]; exact t2482
  have t2505 : σ2485 a 10 = (v2483 : Int) + 1 := by rw [← eσ2485, sv_up_a (sv_ne k_a kv2483 (by decide))]; exact ev2483
  have t2506 : σ2485 v2483 (Kg1005_l2 : Int).toNat = 2000 := by rw [← eσ2485]; exact sv_up_s _ _ _ _
  refine sv_go C.1 C.2.1 [(.iconst 0, 1), (.istore_n 3, 1), (.iconst 0, 1), (.istore 4, 2)] (pc' := 410) (by decide +kernel) rfl (lv' := [(0, sv_r a), (2, sv_i Kg1005_l2), (3, sv_i 0), (4, sv_i 0)]) (st' := []) rfl ?_
  exact sf_X11_readFeast_410 l g A ty σ hok hTA hI a k_a n18 h_n18 b1 h_b1 b2 h_b2 hh h_hh e18 e19 e20 e21 hJ1 qa0 eqa0 kqa0 p e s m args below meth c C hr hE Kg1005_l2 Kg1005_e2 Kg1005_fa_5 Kg1005_fa_6 Kg1005_fa_7 Kg1005_fa_8 Kg1005_fa_11 c1u2414 c2u2414 chu2414 v2423 v2441 v2461 v2483 σ2485 ⟨by omega, by omega⟩ ⟨by omega, by omega⟩ kKg1005_fa_5 kKg1005_fa_6 kKg1005_fa_7 kKg1005_fa_8 kKg1005_fa_11 ⟨by omega, by omega⟩ ⟨by omega, by omega⟩ ⟨by omega, by omega⟩ kv2423 kv2441 kv2461 kv2483 hok2484 hI2486 hF2487 t2488 t2489 t2490 t2491 t2492 t2493 t2494 t2495 t2496 t2497 t2498 t2499 t2501 t2503 t2505 (by omega) (by omega)

set_option maxHeartbeats 4000000 in
set_option maxRecDepth 100000 in
theorem sf_X11_readFeast_229 (l : Launch) (g : sv_G) (A : Nat → Prop) (ty : Nat → Nat) (σ : Nat → Nat → Int) (hok : sv_ok ty σ) (hTA : ∀ q, ty q ≠ 0 → A q) (hI : sv_inv sp_1 ty σ) (a : Nat) (k_a : ty a = 10) (n18 : Int) (h_n18 : 0 ≤ n18 ∧ n18 ≤ 4000) (b1 : Int) (h_b1 : 0 ≤ b1 ∧ b1 ≤ 4000) (b2 : Int) (h_b2 : 0 ≤ b2 ∧ b2 ≤ 4000) (hh : Int) (h_hh : 0 ≤ hh ∧ hh ≤ 4) (e18 : σ a 18 = n18) (e19 : σ a 19 = b1) (e20 : σ a 20 = b2) (e21 : σ a 21 = hh) (hJ1 : b1 ≤ b2 ∧ b2 ≤ n18) (qa0 : Nat) (eqa0 : σ a 0 = (qa0 : Int) + 1) (kqa0 : ty qa0 = 60) (p : Program) (e : Env) (s : State) (m : MethodId) (args : Array Value) (below : List Frame) (meth : Method) (c : Code) (C : sv_C g A RX11 cX11_readFeast 7 p s m args meth c) (hr : meth.sig.returnType = none) (hE : c.exceptionTable.isEmpty = true) : ∀ (Kg503_l2 : Int) (Kg503_e2 : Int) (Kg503_fa_5 : Nat) (Kg503_fa_6 : Nat) (Kg503_fa_7 : Nat) (Kg503_fa_19 : Int) (Kg503_fa_20 : Int) (Kg503_fa_21 : Int) (σ504 : Nat → Nat → Int), (0 ≤ Kg503_l2 ∧ Kg503_l2 ≤ 299) → (0 ≤ Kg503_e2 ∧ Kg503_e2 ≤ 59) → (ty Kg503_fa_5 = 65) → (ty Kg503_fa_6 = 66) → (ty Kg503_fa_7 = 67) → (0 ≤ Kg503_fa_19 ∧ Kg503_fa_19 ≤ 4000) → (0 ≤ Kg503_fa_20 ∧ Kg503_fa_20 ≤ 4000) → (0 ≤ Kg503_fa_21 ∧ Kg503_fa_21 ≤ 4) → (sv_ok ty σ504) → (sv_inv sp_1 ty σ504) → (sv_ofx [(10, 19), (10, 20), (10, 21), (10, 22), (10, 23), (10, 24)] [60, 65, 66, 67, 68, 69, 70, 71, 72, 73, 74] ty σ σ504) → (σ504 a 18 = n18) → (σ504 a 0 = (qa0 : Int) + 1) → (σ504 qa0 (4 : Int).toNat = Kg503_e2) → (σ504 a 5 = (Kg503_fa_5 : Int) + 1) → (σ504 a 6 = (Kg503_fa_6 : Int) + 1) → (σ504 a 7 = (Kg503_fa_7 : Int) + 1) → (σ504 a 19 = Kg503_fa_19) → (σ504 a 20 = Kg503_fa_20) → (σ504 a 21 = Kg503_fa_21) → (b1 ≤ Kg503_fa_19 ∧ Kg503_fa_19 ≤ Kg503_fa_20 ∧ Kg503_fa_20 ≤ n18) → ((Kg503_fa_21 = 0 ∨ Kg503_fa_19 < Kg503_fa_20) ∧ (Kg503_fa_21 ≠ 1 ∨ Kg503_fa_20 ≤ Kg503_fa_19 + 12)) → st_E p l e { frames := 6, cells := 0, slots := 0, locals := 129 } s m args below meth c 7 g A ty (fun r σ' => (r = []) ∧ sv_inv sp_1 ty σ' ∧ sv_ofx [(10, 19), (10, 20), (10, 21), (10, 22), (10, 23), (10, 24)] [60, 65, 66, 67, 68, 69, 70, 71, 72, 73, 74] ty σ σ' ∧ ∃ c1 c2 hc : Int, σ' a 19 = c1 ∧ σ' a 20 = c2 ∧ σ' a 21 = hc ∧ (b1 ≤ c1 ∧ c1 ≤ c2 ∧ c2 ≤ n18) ∧ (0 ≤ hc ∧ hc ≤ 4) ∧ (hc = 0 ∨ c1 < c2) ∧ (hc ≠ 1 ∨ c2 ≤ c1 + 12)) (fun x σ' => ty x = 11 ∧ sv_inv sp_1 ty σ' ∧ sv_ofx [(10, 19), (10, 20), (10, 21), (10, 22), (10, 23), (10, 24)] [60, 65, 66, 67, 68, 69, 70, 71, 72, 73, 74] ty σ σ') σ504 229 [(0, sv_r a), (2, sv_i Kg503_l2)] [] := by
  intro Kg503_l2 Kg503_e2 Kg503_fa_5 Kg503_fa_6 Kg503_fa_7 Kg503_fa_19 Kg503_fa_20 Kg503_fa_21 σ504 hKg503_l2 hKg503_e2 kKg503_fa_5 kKg503_fa_6 kKg503_fa_7 hKg503_fa_19 hKg503_fa_20 hKg503_fa_21 okσ504 Iσ504 Fσ504 eσ504_0 eσ504_1 eσ504_2 eσ504_3 eσ504_4 eσ504_5 eσ504_6 eσ504_7 eσ504_8 zk229o zk229
  have hF : sv_ofx [(10, 19), (10, 20), (10, 21), (10, 22), (10, 23), (10, 24)] [60, 65, 66, 67, 68, 69, 70, 71, 72, 73, 74] ty σ σ := sv_ofx.rf
  refine sv_go C.1 C.2.1 [(.aload_n 0, 1)] (pc' := 230) (by decide +kernel) rfl (lv' := [(0, sv_r a), (2, sv_i Kg503_l2)]) (st' := [sv_r a]) rfl ?_
  refine sq_ldc C (index := 216) (tx := "rank") 18 (by decide) rfl (by decide +kernel) ?_
  refine st_cv C (index := 258) (k := 1) (rest := []) (ci := 10) (r := (RX11, TX11, 47)) (by decide +kernel) (sf_X11_need l g A ty σ504 okσ504 hTA Iσ504 a k_a 18 (by decide) (n18) ⟨by omega, by omega⟩ (Kg503_fa_19) ⟨by omega, by omega⟩ (Kg503_fa_20) ⟨by omega, by omega⟩ (Kg503_fa_21) ⟨by omega, by omega⟩ eσ504_0 eσ504_6 eσ504_7 eσ504_8 (by omega) (by omega) (by omega)) ⟨co_X11_need, in_X11, ⟨by decide, by decide, by decide +kernel⟩, Nat.le_of_ble_eq_true rfl, Nat.le_of_ble_eq_true rfl⟩ ml_X11_258 im_X11_need se_X11_need (by rw [k_a]; rfl) rfl rfl rfl (Nat.le_of_ble_eq_true rfl) ⟨Nat.zero_le _, Nat.zero_le _⟩ (fun r2508 σ2509 hpo2507 hok2510 => ?_) (fun xt2511 σ2509 hpo2507 hok2510 => st_out C hE hok2510 ⟨hpo2507.1, hpo2507.2.1, Fσ504.tr hpo2507.2.2 (by decide +kernel) (by decide +kernel)⟩)
  obtain ⟨rfl, hIu2512, hFu2512, xu2512⟩ := hpo2507
  have hGu2512 := Fσ504.tr hFu2512 (by decide +kernel) (by decide +kernel)
  have t2513 : σ2509 a 18 = n18 := (hFu2512.at k_a (by decide +kernel) (by decide +kernel)).trans eσ504_0
  have t2514 : σ2509 a 0 = (qa0 : Int) + 1 := (hFu2512.at k_a (by decide +kernel) (by decide +kernel)).trans eσ504_1
  have t2515 : σ2509 qa0 (4 : Int).toNat = Kg503_e2 := (hFu2512.atA kqa0 (by decide +kernel) (by decide +kernel)).trans eσ504_2
  have t2516 : σ2509 a 5 = (Kg503_fa_5 : Int) + 1 := (hFu2512.at k_a (by decide +kernel) (by decide +kernel)).trans eσ504_3
  have t2517 : σ2509 a 6 = (Kg503_fa_6 : Int) + 1 := (hFu2512.at k_a (by decide +kernel) (by decide +kernel)).trans eσ504_4
  have t2518 : σ2509 a 7 = (Kg503_fa_7 : Int) + 1 := (hFu2512.at k_a (by decide +kernel) (by decide +kernel)).trans eσ504_5
  clear zk229
  obtain ⟨c1u2512, c2u2512, chu2512, e19u2512, e20u2512, e21u2512, j1u2512, j2u2512, j3u2512, j4u2512⟩ := xu2512
  refine sv_same (st2 := []) (lv2 := [(0, sv_r a), (2, sv_i Kg503_l2)]) rfl rfl ?_
  refine sv_go C.1 C.2.1 [(.aload_n 0, 1)] (pc' := 236) (by decide +kernel) rfl (lv' := [(0, sv_r a), (2, sv_i Kg503_l2)]) (st' := [sv_r a]) rfl ?_
  obtain ⟨v2519, ev2519, kv2519⟩ := hIu2512.ref (k := 8) k_a rfl
  refine sv_gf C (index := 72) (ci := 10) (k := 8) (r := (RX11, TX11, 47)) (v := sv_r v2519) (by decide +kernel) (by rw [k_a]; rfl) rfl (by decide) fl_X11_72 (congrArg sv_a ev2519) ?_
  refine sv_go C.1 C.2.1 [(.iload_n 2, 1), (.aload_n 0, 1), (.iconst 1, 1), (.bipush 8, 2)] (pc' := 244) (by decide +kernel) rfl (lv' := [(0, sv_r a), (2, sv_i Kg503_l2)]) (st' := [sv_i 8, sv_i 1, sv_r a, sv_i Kg503_l2, sv_r v2519]) rfl ?_
  refine st_cv C (index := 252) (k := 2) (rest := [sv_i Kg503_l2, sv_r v2519]) (ci := 10) (r := (RX11, TX11, 47)) (by decide +kernel) (sf_X11_takeNumber l g A ty σ2509 hok2510 hTA hIu2512 a k_a (1) ⟨by omega, by omega⟩ (8) ⟨by omega, by omega⟩ (n18) ⟨by omega, by omega⟩ (c1u2512) ⟨by omega, by omega⟩ (c2u2512) ⟨by omega, by omega⟩ (chu2512) ⟨by omega, by omega⟩ t2513 e19u2512 e20u2512 e21u2512 (by omega) (by omega) (by omega)) ⟨co_X11_takeNumber, in_X11, ⟨by decide, by decide, by decide +kernel⟩, Nat.le_of_ble_eq_true rfl, Nat.le_of_ble_eq_true rfl⟩ ml_X11_252 im_X11_takeNumber se_X11_takeNumber (by rw [k_a]; rfl) rfl rfl rfl (Nat.le_of_ble_eq_true rfl) ⟨Nat.zero_le _, Nat.zero_le _⟩ (fun r2521 σ2522 hpo2520 hok2523 => ?_) (fun xt2524 σ2522 hpo2520 hok2523 => st_out C hE hok2523 ⟨hpo2520.1, hpo2520.2.1, hGu2512.tr hpo2520.2.2 (by decide +kernel) (by decide +kernel)⟩)
  obtain ⟨⟨vu2525, rfl, hvu2525, ivu2525_0⟩, hIu2525, hFu2525, xu2525⟩ := hpo2520
  have hGu2525 := hGu2512.tr hFu2525 (by decide +kernel) (by decide +kernel)
  have t2526 : σ2522 a 18 = n18 := (hFu2525.at k_a (by decide +kernel) (by decide +kernel)).trans t2513
  have t2527 : σ2522 a 0 = (qa0 : Int) + 1 := (hFu2525.at k_a (by decide +kernel) (by decide +kernel)).trans t2514
  have t2528 : σ2522 qa0 (4 : Int).toNat = Kg503_e2 := (hFu2525.atA kqa0 (by decide +kernel) (by decide +kernel)).trans t2515
  have t2529 : σ2522 a 5 = (Kg503_fa_5 : Int) + 1 := (hFu2525.at k_a (by decide +kernel) (by decide +kernel)).trans t2516
  have t2530 : σ2522 a 6 = (Kg503_fa_6 : Int) + 1 := (hFu2525.at k_a (by decide +kernel) (by decide +kernel)).trans t2517
  have t2531 : σ2522 a 7 = (Kg503_fa_7 : Int) + 1 := (hFu2525.at k_a (by decide +kernel) (by decide +kernel)).trans t2518
  have t2532 : σ2522 a 8 = (v2519 : Int) + 1 := (hFu2525.at k_a (by decide +kernel) (by decide +kernel)).trans ev2519
  replace ivu2525_0 := zq_mk ivu2525_0
  clear j3u2512 j4u2512
  obtain ⟨c1u2525, c2u2525, chu2525, e19u2525, e20u2525, e21u2525, j1u2525, j2u2525, j3u2525, j4u2525⟩ := xu2525
  have hp2533 := zq_un ivu2525_0 (by omega) (by omega)
  refine sv_same (st2 := [sv_i vu2525, sv_i Kg503_l2, sv_r v2519]) (lv2 := [(0, sv_r a), (2, sv_i Kg503_l2)]) rfl rfl ?_
  refine sv_is C (n := 300) (by decide +kernel) (by rw [kv2519]; rfl) (by decide) (by omega) (by omega) ⟨by omega, by omega⟩ (hTA _ (by rw [kv2519]; decide)) hok2523 (fun hok2534 => ?_)
  have hI2536 := hIu2525.up (a := v2519) (k := (Kg503_l2 : Int).toNat) (z := vu2525) (by rw [kv2519]; exact ⟨by omega, by omega⟩)
  have hF2537 := hGu2525.up (a := v2519) (k := (Kg503_l2 : Int).toNat) (z := vu2525) (Or.inl (by rw [kv2519]; decide +kernel))
  generalize eσ2535 : sv_up σ2522 v2519 (Kg503_l2 : Int).toNat vu2525 = σ2535 at hok2534 hI2536 hF2537 ⊢
  have t2538 : σ2535 a 18 = n18 := by rw [← eσ2535, sv_up_a (sv_ne k_a kv2519 (by decide))]; exact t2526
  have t2539 : σ2535 a 0 = (qa0 : Int) + 1 := by rw [← eσ2535, sv_up_a (sv_ne k_a kv2519 (by decide))]; exact t2527
  have t2540 : σ2535 qa0 (4 : Int).toNat = Kg503_e2 := by rw [← eσ2535, sv_up_a (sv_ne kqa0 kv2519 (by decide))]; exact t2528
  have t2541 : σ2535 a 5 = (Kg503_fa_5 : Int) + 1 := by rw [← eσ2535, sv_up_a (sv_ne k_a kv2519 (by decide))]; exact t2529
  have t2542 : σ2535 a 6 = (Kg503_fa_6 : Int) + 1 := by rw [← eσ2535, sv_up_a (sv_ne k_a kv2519 (by decide))]; exact t2530
  have t2543 : σ2535 a 7 = (Kg503_fa_7 : Int) + 1 := by rw [← eσ2535, sv_up_a (sv_ne k_a kv2519 (by decide))]; exact t2531
  have t2544 : σ2535 a 8 = (v2519 : Int) + 1 := by rw [← eσ2535, sv_up_a (sv_ne k_a kv2519 (by decide))]; exact t2532
  have t2545 : σ2535 a 19 = c1u2525 := by rw [← eσ2535, sv_up_a (sv_ne k_a kv2519 (by decide))]; exact e19u2525
  have t2546 : σ2535 a 20 = c2u2525 := by rw [← eσ2535, sv_up_a (sv_ne k_a kv2519 (by decide))]; exact e20u2525
  have t2547 : σ2535 a 21 = chu2525 := by rw [← eσ2535, sv_up_a (sv_ne k_a kv2519 (by decide))]; exact e21u2525
  have t2548 : σ2535 v2519 (Kg503_l2 : Int).toNat = vu2525 := by rw [← eσ2535]; exact sv_up_s _ _ _ _
  refine sv_go C.1 C.2.1 [(.aload_n 0, 1)] (pc' := 249) (by decide +kernel) rfl (lv' := [(0, sv_r a), (2, sv_i Kg503_l2)]) (st' := [sv_r a]) rfl ?_
  refine sv_gf C (index := 184) (ci := 10) (k := 21) (r := (RX11, TX11, 47)) (v := sv_i chu2525) (by decide +kernel) (by rw [k_a]; rfl) rfl (by decide) fl_X11_184 (congrArg sv_i t2547) ?_
  refine sv_go C.1 C.2.1 [(.iconst 1, 1)] (pc' := 253) (by decide +kernel) rfl (lv' := [(0, sv_r a), (2, sv_i Kg503_l2)]) (st' := [sv_i 1, sv_i chu2525]) rfl ?_
  refine sv_icmp C.1 C.2.1 (cnd := .ne) (off := 10) (tgt := 263) (by decide +kernel) (by decide) ⟨by omega, by omega⟩ ⟨by omega, by omega⟩ (fun (h2549 : chu2525 ≠ 1) => ?_) (fun (h2549 : ¬ (chu2525 ≠ 1)) => ?_)
  · refine sv_go C.1 C.2.1 [(.aload_n 0, 1), (.iconst 1, 1)] (pc' := 265) (by decide +kernel) rfl (lv' := [(0, sv_r a), (2, sv_i Kg503_l2)]) (st' := [sv_i 1, sv_r a]) rfl ?_
    refine sv_cv C (index := 225) (k := 1) (rest := []) (ci := 10) (r := (RX11, TX11, 47)) (by decide +kernel) (sf_X11_wrong l g A ty σ2535 hok2534 hTA hI2536 a k_a (1) ⟨by omega, by omega⟩) ⟨co_X11_wrong, in_X11, ⟨by decide, by decide, by decide +kernel⟩, Nat.le_of_ble_eq_true rfl, Nat.le_of_ble_eq_true rfl⟩ ml_X11_225 im_X11_wrong se_X11_wrong (by rw [k_a]; rfl) rfl rfl rfl (Nat.le_of_ble_eq_true rfl) ⟨Nat.zero_le _, Nat.zero_le _⟩ (fun r2551 σ2552 hpo2550 hok2553 => ?_)
    obtain ⟨⟨qu2554, rfl, kqu2554⟩, hIu2554, hFu2554⟩ := hpo2550
    have hGu2554 := hF2537.tr hFu2554 (by decide +kernel) (by decide +kernel)
    have t2555 : σ2552 a 18 = n18 := (hFu2554.at k_a (by decide +kernel) (by decide +kernel)).trans t2538
    have t2556 : σ2552 a 0 = (qa0 : Int) + 1 := (hFu2554.at k_a (by decide +kernel) (by decide +kernel)).trans t2539
    have t2557 : σ2552 qa0 (4 : Int).toNat = Kg503_e2 := (hFu2554.atA kqa0 (by decide +kernel) (by decide +kernel)).trans t2540
    have t2558 : σ2552 a 5 = (Kg503_fa_5 : Int) + 1 := (hFu2554.at k_a (by decide +kernel) (by decide +kernel)).trans t2541
    have t2559 : σ2552 a 6 = (Kg503_fa_6 : Int) + 1 := (hFu2554.at k_a (by decide +kernel) (by decide +kernel)).trans t2542
    have t2560 : σ2552 a 7 = (Kg503_fa_7 : Int) + 1 := (hFu2554.at k_a (by decide +kernel) (by decide +kernel)).trans t2543
    have t2561 : σ2552 a 8 = (v2519 : Int) + 1 := (hFu2554.at k_a (by decide +kernel) (by decide +kernel)).trans t2544
    have t2562 : σ2552 a 19 = c1u2525 := (hFu2554.at k_a (by decide +kernel) (by decide +kernel)).trans t2545
    have t2563 : σ2552 a 20 = c2u2525 := (hFu2554.at k_a (by decide +kernel) (by decide +kernel)).trans t2546
    have t2564 : σ2552 a 21 = chu2525 := (hFu2554.at k_a (by decide +kernel) (by decide +kernel)).trans t2547
    have t2565 : σ2552 v2519 (Kg503_l2 : Int).toNat = vu2525 := (hFu2554.atA kv2519 (by decide +kernel) (by decide +kernel)).trans t2548
    refine sv_same (st2 := [sv_r qu2554]) (lv2 := [(0, sv_r a), (2, sv_i Kg503_l2)]) rfl rfl ?_
    exact st_throw C hE (by decide +kernel) hok2553 ⟨kqu2554, hIu2554, hGu2554⟩
  · refine sv_go C.1 C.2.1 [(.aload_n 0, 1)] (pc' := 257) (by decide +kernel) rfl (lv' := [(0, sv_r a), (2, sv_i Kg503_l2)]) (st' := [sv_r a]) rfl ?_
    refine sv_cv C (index := 262) (k := 0) (rest := []) (ci := 10) (r := (RX11, TX11, 47)) (by decide +kernel) (sf_X11_isQuoted l g A ty σ2535 hok2534 hTA hI2536 a k_a (n18) ⟨by omega, by omega⟩ (c1u2525) ⟨by omega, by omega⟩ (c2u2525) ⟨by omega, by omega⟩ (chu2525) ⟨by omega, by omega⟩ t2538 t2545 t2546 t2547 (by omega) (by omega) (by omega)) ⟨co_X11_isQuoted, in_X11, ⟨by decide, by decide, by decide +kernel⟩, Nat.le_of_ble_eq_true rfl, Nat.le_of_ble_eq_true rfl⟩ ml_X11_262 im_X11_isQuoted se_X11_isQuoted (by rw [k_a]; rfl) rfl rfl rfl (Nat.le_of_ble_eq_true rfl) ⟨Nat.zero_le _, Nat.zero_le _⟩ (fun r2567 σ2568 hpo2566 hok2569 => ?_)
    obtain ⟨rfl, ⟨vu2570, rfl, hvu2570⟩⟩ := hpo2566
    refine sv_same (st2 := [sv_i vu2570]) (lv2 := [(0, sv_r a), (2, sv_i Kg503_l2)]) rfl rfl ?_
    refine sv_if C.1 C.2.1 (cnd := .eq) (off := 9) (tgt := 269) (by decide +kernel) (by decide) ⟨by omega, by omega⟩ (fun (h2571 : vu2570 = 0) => ?_) (fun (h2571 : ¬ (vu2570 = 0)) => ?_)
    · refine sv_go C.1 C.2.1 [(.aload_n 0, 1)] (pc' := 270) (by decide +kernel) rfl (lv' := [(0, sv_r a), (2, sv_i Kg503_l2)]) (st' := [sv_r a]) rfl ?_
      obtain ⟨v2572, ev2572, kv2572⟩ := hI2536.ref (k := 11) k_a rfl
      refine sv_gf C (index := 81) (ci := 10) (k := 11) (r := (RX11, TX11, 47)) (v := sv_r v2572) (by decide +kernel) (by rw [k_a]; rfl) rfl (by decide) fl_X11_81 (congrArg sv_a ev2572) ?_
      refine sv_go C.1 C.2.1 [(.iload_n 2, 1), (.aload_n 0, 1)] (pc' := 275) (by decide +kernel) rfl (lv' := [(0, sv_r a), (2, sv_i Kg503_l2)]) (st' := [sv_r a, sv_i Kg503_l2, sv_r v2572]) rfl ?_
      refine sv_gf C (index := 178) (ci := 10) (k := 20) (r := (RX11, TX11, 47)) (v := sv_i c2u2525) (by decide +kernel) (by rw [k_a]; rfl) rfl (by decide) fl_X11_178 (congrArg sv_i t2546) ?_
      refine sv_go C.1 C.2.1 [(.aload_n 0, 1)] (pc' := 279) (by decide +kernel) rfl (lv' := [(0, sv_r a), (2, sv_i Kg503_l2)]) (st' := [sv_r a, sv_i c2u2525, sv_i Kg503_l2, sv_r v2572]) rfl ?_
      refine sv_gf C (index := 172) (ci := 10) (k := 19) (r := (RX11, TX11, 47)) (v := sv_i c1u2525) (by decide +kernel) (by rw [k_a]; rfl) rfl (by decide) fl_X11_172 (congrArg sv_i t2545) ?_
      refine sv_go C.1 C.2.1 [(.isub, 1)] (pc' := 283) (by decide +kernel) rfl (lv' := [(0, sv_r a), (2, sv_i Kg503_l2)]) (st' := [sv_i (c2u2525 - c1u2525), sv_i Kg503_l2, sv_r v2572]) rfl ?_
      refine sv_is C (n := 300) (by decide +kernel) (by rw [kv2572]; rfl) (by decide) (by omega) (by omega) ⟨by omega, by omega⟩ (hTA _ (by rw [kv2572]; decide)) hok2569 (fun hok2573 => ?_)
      have hI2575 := hI2536.up (a := v2572) (k := (Kg503_l2 : Int).toNat) (z := c2u2525 - c1u2525) (by rw [kv2572]; exact ⟨by omega, by omega⟩)
      have hF2576 := hF2537.up (a := v2572) (k := (Kg503_l2 : Int).toNat) (z := c2u2525 - c1u2525) (Or.inl (by rw [kv2572]; decide +kernel))
      generalize eσ2574 : sv_up σ2535 v2572 (Kg503_l2 : Int).toNat (c2u2525 - c1u2525) = σ2574 at hok2573 hI2575 hF2576 ⊢
      have t2577 : σ2574 a 18 = n18 := by rw [← eσ2574, sv_up_a (sv_ne k_a kv2572 (by decide))]; exact t2538
      have t2578 : σ2574 a 0 = (qa0 : Int) + 1 := by rw [← eσ2574, sv_up_a (sv_ne k_a kv2572 (by decide))]; exact t2539
      have t2579 : σ2574 qa0 (4 : Int).toNat = Kg503_e2 := by rw [← eσ2574, sv_up_a (sv_ne kqa0 kv2572 (by decide))]; exact t2540
      have t2580 : σ2574 a 5 = (Kg503_fa_5 : Int) + 1 := by rw [← eσ2574, sv_up_a (sv_ne k_a kv2572 (by decide))]; exact t2541
      have t2581 : σ2574 a 6 = (Kg503_fa_6 : Int) + 1 := by rw [← eσ2574, sv_up_a (sv_ne k_a kv2572 (by decide))]; exact t2542
      have t2582 : σ2574 a 7 = (Kg503_fa_7 : Int) + 1 := by rw [← eσ2574, sv_up_a (sv_ne k_a kv2572 (by decide))]; exact t2543
      have t2583 : σ2574 a 8 = (v2519 : Int) + 1 := by rw [← eσ2574, sv_up_a (sv_ne k_a kv2572 (by decide))]; exact t2544
      have t2584 : σ2574 a 19 = c1u2525 := by rw [← eσ2574, sv_up_a (sv_ne k_a kv2572 (by decide))]; exact t2545
      have t2585 : σ2574 a 20 = c2u2525 := by rw [← eσ2574, sv_up_a (sv_ne k_a kv2572 (by decide))]; exact t2546
      have t2586 : σ2574 a 21 = chu2525 := by rw [← eσ2574, sv_up_a (sv_ne k_a kv2572 (by decide))]; exact t2547
      have t2587 : σ2574 v2519 (Kg503_l2 : Int).toNat = vu2525 := by rw [← eσ2574, sv_up_a (sv_ne kv2519 kv2572 (by decide))]; exact t2548
      have t2588 : σ2574 a 11 = (v2572 : Int) + 1 := by rw [← eσ2574, sv_up_a (sv_ne k_a kv2572 (by decide))]; exact ev2572
      have t2589 : σ2574 v2572 (Kg503_l2 : Int).toNat = c2u2525 - c1u2525 := by rw [← eσ2574]; exact sv_up_s _ _ _ _
      refine sv_go C.1 C.2.1 [(.iconst 0, 1), (.istore_n 3, 1)] (pc' := 286) (by decide +kernel) rfl (lv' := [(0, sv_r a), (2, sv_i Kg503_l2), (3, sv_i 0)]) (st' := []) rfl ?_
      have L2592 : ∀ (n : Nat) (Xg2590_l3 : Int) (σ2591 : Nat → Nat → Int), (0 ≤ Xg2590_l3 ∧ Xg2590_l3 ≤ 12) → (sv_ok ty σ2591) → (sv_inv sp_1 ty σ2591) → (sv_ofx [(10, 19), (10, 20), (10, 21), (10, 22), (10, 23), (10, 24)] [60, 65, 66, 67, 68, 69, 70, 71, 72, 73, 74] ty σ σ2591) → (σ2591 a 18 = n18) → (σ2591 a 0 = (qa0 : Int) + 1) → (σ2591 qa0 (4 : Int).toNat = Kg503_e2) → (σ2591 a 5 = (Kg503_fa_5 : Int) + 1) → (σ2591 a 6 = (Kg503_fa_6 : Int) + 1) → (σ2591 a 7 = (Kg503_fa_7 : Int) + 1) → (σ2591 a 8 = (v2519 : Int) + 1) → (σ2591 a 19 = c1u2525) → (σ2591 a 20 = c2u2525) → (σ2591 a 21 = chu2525) → (σ2591 v2519 (Kg503_l2 : Int).toNat = vu2525) → (σ2591 a 11 = (v2572 : Int) + 1) → (σ2591 v2572 (Kg503_l2 : Int).toNat = c2u2525 - c1u2525) → (12 - Xg2590_l3) < (n : Int) → st_E p l e { frames := 6, cells := 0, slots := 0, locals := 129 } s m args below meth c 7 g A ty (fun r σ' => (r = []) ∧ sv_inv sp_1 ty σ' ∧ sv_ofx [(10, 19), (10, 20), (10, 21), (10, 22), (10, 23), (10, 24)] [60, 65, 66, 67, 68, 69, 70, 71, 72, 73, 74] ty σ σ' ∧ ∃ c1 c2 hc : Int, σ' a 19 = c1 ∧ σ' a 20 = c2 ∧ σ' a 21 = hc ∧ (b1 ≤ c1 ∧ c1 ≤ c2 ∧ c2 ≤ n18) ∧ (0 ≤ hc ∧ hc ≤ 4) ∧ (hc = 0 ∨ c1 < c2) ∧ (hc ≠ 1 ∨ c2 ≤ c1 + 12)) (fun x σ' => ty x = 11 ∧ sv_inv sp_1 ty σ' ∧ sv_ofx [(10, 19), (10, 20), (10, 21), (10, 22), (10, 23), (10, 24)] [60, 65, 66, 67, 68, 69, 70, 71, 72, 73, 74] ty σ σ') σ2591 286 [(0, sv_r a), (2, sv_i Kg503_l2), (3, sv_i Xg2590_l3)] [] := by
        intro n
        induction n with
        | zero => intro Xg2590_l3 σ2591 hXg2590_l3 okσ2591 Iσ2591 Fσ2591 eσ2591_0 eσ2591_1 eσ2591_2 eσ2591_3 eσ2591_4 eσ2591_5 eσ2591_6 eσ2591_7 eσ2591_8 eσ2591_9 eσ2591_10 eσ2591_11 eσ2591_12 hmu; exact absurd hmu (by omega)
        | succ n ih2593 =>
          intro Xg2590_l3 σ2591 hXg2590_l3 okσ2591 Iσ2591 Fσ2591 eσ2591_0 eσ2591_1 eσ2591_2 eσ2591_3 eσ2591_4 eσ2591_5 eσ2591_6 eσ2591_7 eσ2591_8 eσ2591_9 eσ2591_10 eσ2591_11 eσ2591_12 hmu
          refine sv_go C.1 C.2.1 [(.iload_n 3, 1), (.bipush 12, 2)] (pc' := 289) (by decide +kernel) rfl (lv' := [(0, sv_r a), (2, sv_i Kg503_l2), (3, sv_i Xg2590_l3)]) (st' := [sv_i 12, sv_i Xg2590_l3]) rfl ?_
          refine sv_icmp C.1 C.2.1 (cnd := .ge) (off := 45) (tgt := 334) (by decide +kernel) (by decide) ⟨by omega, by omega⟩ ⟨by omega, by omega⟩ (fun (h2594 : 12 ≤ Xg2590_l3) => ?_) (fun (h2594 : ¬ (12 ≤ Xg2590_l3)) => ?_)
          · refine sv_go C.1 C.2.1 [(.iconst 0, 1), (.istore_n 3, 1)] (pc' := 336) (by decide +kernel) rfl (lv' := [(0, sv_r a), (2, sv_i Kg503_l2), (3, sv_i 0)]) (st' := []) rfl ?_
            have L2596 : ∀ (n : Nat) (Xg2595_l3 : Int), (0 ≤ Xg2595_l3 ∧ Xg2595_l3 ≤ 59) → (59 - Xg2595_l3) < (n : Int) → st_E p l e { frames := 6, cells := 0, slots := 0, locals := 129 } s m args below meth c 7 g A ty (fun r σ' => (r = []) ∧ sv_inv sp_1 ty σ' ∧ sv_ofx [(10, 19), (10, 20), (10, 21), (10, 22), (10, 23), (10, 24)] [60, 65, 66, 67, 68, 69, 70, 71, 72, 73, 74] ty σ σ' ∧ ∃ c1 c2 hc : Int, σ' a 19 = c1 ∧ σ' a 20 = c2 ∧ σ' a 21 = hc ∧ (b1 ≤ c1 ∧ c1 ≤ c2 ∧ c2 ≤ n18) ∧ (0 ≤ hc ∧ hc ≤ 4) ∧ (hc = 0 ∨ c1 < c2) ∧ (hc ≠ 1 ∨ c2 ≤ c1 + 12)) (fun x σ' => ty x = 11 ∧ sv_inv sp_1 ty σ' ∧ sv_ofx [(10, 19), (10, 20), (10, 21), (10, 22), (10, 23), (10, 24)] [60, 65, 66, 67, 68, 69, 70, 71, 72, 73, 74] ty σ σ') σ2591 336 [(0, sv_r a), (2, sv_i Kg503_l2), (3, sv_i Xg2595_l3)] [] := by
              intro n
              induction n with
              | zero => intro Xg2595_l3 hXg2595_l3 hmu; exact absurd hmu (by omega)
              | succ n ih2597 =>
                intro Xg2595_l3 hXg2595_l3 hmu
                refine sv_go C.1 C.2.1 [(.iload_n 3, 1), (.aload_n 0, 1)] (pc' := 338) (by decide +kernel) rfl (lv' := [(0, sv_r a), (2, sv_i Kg503_l2), (3, sv_i Xg2595_l3)]) (st' := [sv_r a, sv_i Xg2595_l3]) rfl ?_
                refine sv_gf C (index := 47) (ci := 10) (k := 0) (r := (RX11, TX11, 47)) (v := sv_r qa0) (by decide +kernel) (by rw [k_a]; rfl) rfl (by decide) fl_X11_47 (congrArg sv_a eσ2591_1) ?_
                refine sv_go C.1 C.2.1 [(.iconst 4, 1)] (pc' := 342) (by decide +kernel) rfl (lv' := [(0, sv_r a), (2, sv_i Kg503_l2), (3, sv_i Xg2595_l3)]) (st' := [sv_i 4, sv_r qa0, sv_i Xg2595_l3]) rfl ?_
                refine sv_ia C (n := 5) (by decide +kernel) (by rw [kqa0]; rfl) (by decide) (by omega) (by omega) ?_
                rw [eσ2591_2]
                refine sv_icmp C.1 C.2.1 (cnd := .ge) (off := 28) (tgt := 371) (by decide +kernel) (by decide) ⟨by omega, by omega⟩ ⟨by omega, by omega⟩ (fun (h2598 : Kg503_e2 ≤ Xg2595_l3) => ?_) (fun (h2598 : ¬ (Kg503_e2 ≤ Xg2595_l3)) => ?_)
                · refine sv_pick [0, 1] (lv2 := [(0, sv_r a), (2, sv_i Kg503_l2)]) rfl ?_
                  exact sf_X11_readFeast_371 l g A ty σ hok hTA hI a k_a n18 h_n18 b1 h_b1 b2 h_b2 hh h_hh e18 e19 e20 e21 hJ1 qa0 eqa0 kqa0 p e s m args below meth c C hr hE Kg503_l2 Kg503_e2 Kg503_fa_5 Kg503_fa_6 Kg503_fa_7 v2519 c1u2525 c2u2525 chu2525 v2572 σ2591 ⟨by omega, by omega⟩ ⟨by omega, by omega⟩ kKg503_fa_5 kKg503_fa_6 kKg503_fa_7 kv2519 ⟨by omega, by omega⟩ ⟨by omega, by omega⟩ ⟨by omega, by omega⟩ kv2572 okσ2591 Iσ2591 Fσ2591 eσ2591_0 eσ2591_1 eσ2591_2 eσ2591_3 eσ2591_4 eσ2591_5 eσ2591_6 eσ2591_7 eσ2591_8 eσ2591_9 eσ2591_11 (by omega) (by omega)
                · refine sv_go C.1 C.2.1 [(.aload_n 0, 1), (.iconst 4, 1), (.iload_n 3, 1)] (pc' := 349) (by decide +kernel) rfl (lv' := [(0, sv_r a), (2, sv_i Kg503_l2), (3, sv_i Xg2595_l3)]) (st' := [sv_i Xg2595_l3, sv_i 4, sv_r a]) rfl ?_
                  refine sv_cs C (index := 166) (k := 2) (rest := [sv_r a]) (by decide +kernel) (sf_X11_at l g A ty σ2591 okσ2591 hTA Iσ2591 (4) ⟨by omega, by omega⟩ (Xg2595_l3) ⟨by omega, by omega⟩) ⟨co_X11_at, in_X11, ⟨by decide, by decide, by decide +kernel⟩, Nat.le_of_ble_eq_true rfl, Nat.le_of_ble_eq_true rfl⟩ ml_X11_166 st_X11_at rfl rfl (Nat.le_of_ble_eq_true rfl) ⟨Nat.zero_le _, Nat.zero_le _⟩ (fun r2600 σ2601 hpo2599 hok2602 => ?_)
                  obtain ⟨rfl, ⟨vu2603, rfl, hvu2603⟩⟩ := hpo2599
                  refine sv_same (st2 := [sv_i vu2603, sv_r a]) (lv2 := [(0, sv_r a), (2, sv_i Kg503_l2), (3, sv_i Xg2595_l3)]) rfl rfl ?_
                  refine sv_go C.1 C.2.1 [(.iload_n 2, 1)] (pc' := 353) (by decide +kernel) rfl (lv' := [(0, sv_r a), (2, sv_i Kg503_l2), (3, sv_i Xg2595_l3)]) (st' := [sv_i Kg503_l2, sv_i vu2603, sv_r a]) rfl ?_
                  refine sv_cv C (index := 266) (k := 2) (rest := []) (ci := 10) (r := (RX11, TX11, 47)) (by decide +kernel) (sf_X11_isNamed l g A ty σ2591 hok2602 hTA Iσ2591 a k_a (vu2603) ⟨by omega, by omega⟩ (Kg503_l2) ⟨by omega, by omega⟩) ⟨co_X11_isNamed, in_X11, ⟨by decide, by decide, by decide +kernel⟩, Nat.le_of_ble_eq_true rfl, Nat.le_of_ble_eq_true rfl⟩ ml_X11_266 im_X11_isNamed se_X11_isNamed (by rw [k_a]; rfl) rfl rfl rfl (Nat.le_of_ble_eq_true rfl) ⟨Nat.zero_le _, Nat.zero_le _⟩ (fun r2605 σ2606 hpo2604 hok2607 => ?_)
                  obtain ⟨rfl, ⟨vu2608, rfl, hvu2608⟩⟩ := hpo2604
                  refine sv_same (st2 := [sv_i vu2608]) (lv2 := [(0, sv_r a), (2, sv_i Kg503_l2), (3, sv_i Xg2595_l3)]) rfl rfl ?_
                  refine sv_if C.1 C.2.1 (cnd := .eq) (off := 9) (tgt := 365) (by decide +kernel) (by decide) ⟨by omega, by omega⟩ (fun (h2609 : vu2608 = 0) => ?_) (fun (h2609 : ¬ (vu2608 = 0)) => ?_)
                  · refine sv_go C.1 C.2.1 [(.iinc 3 1, 3)] (pc' := 368) (by decide +kernel) rfl (lv' := [(0, sv_r a), (2, sv_i Kg503_l2), (3, sv_i (Xg2595_l3 + 1))]) (st' := []) rfl ?_
                    refine sv_goto C.1 C.2.1 (off := (-32)) (tgt := 336) (by decide +kernel) (by decide) ?_
                    exact ih2597 (Xg2595_l3 + 1) ⟨by omega, by omega⟩ (by omega)
                  · refine sv_go C.1 C.2.1 [(.aload_n 0, 1), (.iconst 2, 1)] (pc' := 361) (by decide +kernel) rfl (lv' := [(0, sv_r a), (2, sv_i Kg503_l2), (3, sv_i Xg2595_l3)]) (st' := [sv_i 2, sv_r a]) rfl ?_
                    refine sv_cv C (index := 225) (k := 1) (rest := []) (ci := 10) (r := (RX11, TX11, 47)) (by decide +kernel) (sf_X11_wrong l g A ty σ2591 hok2607 hTA Iσ2591 a k_a (2) ⟨by omega, by omega⟩) ⟨co_X11_wrong, in_X11, ⟨by decide, by decide, by decide +kernel⟩, Nat.le_of_ble_eq_true rfl, Nat.le_of_ble_eq_true rfl⟩ ml_X11_225 im_X11_wrong se_X11_wrong (by rw [k_a]; rfl) rfl rfl rfl (Nat.le_of_ble_eq_true rfl) ⟨Nat.zero_le _, Nat.zero_le _⟩ (fun r2611 σ2612 hpo2610 hok2613 => ?_)
                    obtain ⟨⟨qu2614, rfl, kqu2614⟩, hIu2614, hFu2614⟩ := hpo2610
                    have hGu2614 := Fσ2591.tr hFu2614 (by decide +kernel) (by decide +kernel)
                    have t2615 : σ2612 a 18 = n18 := (hFu2614.at k_a (by decide +kernel) (by decide +kernel)).trans eσ2591_0
                    have t2616 : σ2612 a 0 = (qa0 : Int) + 1 := (hFu2614.at k_a (by decide +kernel) (by decide +kernel)).trans eσ2591_1
                    have t2617 : σ2612 qa0 (4 : Int).toNat = Kg503_e2 := (hFu2614.atA kqa0 (by decide +kernel) (by decide +kernel)).trans eσ2591_2
                    have t2618 : σ2612 a 5 = (Kg503_fa_5 : Int) + 1 := (hFu2614.at k_a (by decide +kernel) (by decide +kernel)).trans eσ2591_3
                    have t2619 : σ2612 a 6 = (Kg503_fa_6 : Int) + 1 := (hFu2614.at k_a (by decide +kernel) (by decide +kernel)).trans eσ2591_4
                    have t2620 : σ2612 a 7 = (Kg503_fa_7 : Int) + 1 := (hFu2614.at k_a (by decide +kernel) (by decide +kernel)).trans eσ2591_5
                    have t2621 : σ2612 a 8 = (v2519 : Int) + 1 := (hFu2614.at k_a (by decide +kernel) (by decide +kernel)).trans eσ2591_6
                    have t2622 : σ2612 a 19 = c1u2525 := (hFu2614.at k_a (by decide +kernel) (by decide +kernel)).trans eσ2591_7
                    have t2623 : σ2612 a 20 = c2u2525 := (hFu2614.at k_a (by decide +kernel) (by decide +kernel)).trans eσ2591_8
                    have t2624 : σ2612 a 21 = chu2525 := (hFu2614.at k_a (by decide +kernel) (by decide +kernel)).trans eσ2591_9
                    have t2625 : σ2612 v2519 (Kg503_l2 : Int).toNat = vu2525 := (hFu2614.atA kv2519 (by decide +kernel) (by decide +kernel)).trans eσ2591_10
                    have t2626 : σ2612 a 11 = (v2572 : Int) + 1 := (hFu2614.at k_a (by decide +kernel) (by decide +kernel)).trans eσ2591_11
                    have t2627 : σ2612 v2572 (Kg503_l2 : Int).toNat = c2u2525 - c1u2525 := (hFu2614.atA kv2572 (by decide +kernel) (by decide +kernel)).trans eσ2591_12
                    refine sv_same (st2 := [sv_r qu2614]) (lv2 := [(0, sv_r a), (2, sv_i Kg503_l2), (3, sv_i Xg2595_l3)]) rfl rfl ?_
                    exact st_throw C hE (by decide +kernel) hok2613 ⟨kqu2614, hIu2614, hGu2614⟩
            exact L2596 (((59 - 0 : Int)).toNat + 1) 0 ⟨by omega, by omega⟩ (by omega)
          · refine sv_go C.1 C.2.1 [(.aload_n 0, 1)] (pc' := 293) (by decide +kernel) rfl (lv' := [(0, sv_r a), (2, sv_i Kg503_l2), (3, sv_i Xg2590_l3)]) (st' := [sv_r a]) rfl ?_
            obtain ⟨v2628, ev2628, kv2628⟩ := Iσ2591.ref (k := 14) k_a rfl
            refine sv_gf C (index := 91) (ci := 10) (k := 14) (r := (RX11, TX11, 47)) (v := sv_r v2628) (by decide +kernel) (by rw [k_a]; rfl) rfl (by decide) fl_X11_91 (congrArg sv_a ev2628) ?_
            refine sv_go C.1 C.2.1 [(.bipush 12, 2), (.iload_n 2, 1), (.imul, 1), (.iload_n 3, 1), (.iadd, 1), (.iload_n 3, 1), (.aload_n 0, 1)] (pc' := 304) (by decide +kernel) rfl (lv' := [(0, sv_r a), (2, sv_i Kg503_l2), (3, sv_i Xg2590_l3)]) (st' := [sv_r a, sv_i Xg2590_l3, sv_i ((12 * Kg503_l2) + Xg2590_l3), sv_r v2628]) rfl ?_
            refine sv_gf C (index := 81) (ci := 10) (k := 11) (r := (RX11, TX11, 47)) (v := sv_r v2572) (by decide +kernel) (by rw [k_a]; rfl) rfl (by decide) fl_X11_81 (congrArg sv_a eσ2591_11) ?_
            refine sv_go C.1 C.2.1 [(.iload_n 2, 1)] (pc' := 308) (by decide +kernel) rfl (lv' := [(0, sv_r a), (2, sv_i Kg503_l2), (3, sv_i Xg2590_l3)]) (st' := [sv_i Kg503_l2, sv_r v2572, sv_i Xg2590_l3, sv_i ((12 * Kg503_l2) + Xg2590_l3), sv_r v2628]) rfl ?_
            refine sv_ia C (n := 300) (by decide +kernel) (by rw [kv2572]; rfl) (by decide) (by omega) (by omega) ?_
            rw [eσ2591_12]
            have J2631 : ∀ (Jg2630_s0 : Int), ((-128) ≤ Jg2630_s0 ∧ Jg2630_s0 ≤ 127) → st_E p l e { frames := 6, cells := 0, slots := 0, locals := 129 } s m args below meth c 7 g A ty (fun r σ' => (r = []) ∧ sv_inv sp_1 ty σ' ∧ sv_ofx [(10, 19), (10, 20), (10, 21), (10, 22), (10, 23), (10, 24)] [60, 65, 66, 67, 68, 69, 70, 71, 72, 73, 74] ty σ σ' ∧ ∃ c1 c2 hc : Int, σ' a 19 = c1 ∧ σ' a 20 = c2 ∧ σ' a 21 = hc ∧ (b1 ≤ c1 ∧ c1 ≤ c2 ∧ c2 ≤ n18) ∧ (0 ≤ hc ∧ hc ≤ 4) ∧ (hc = 0 ∨ c1 < c2) ∧ (hc ≠ 1 ∨ c2 ≤ c1 + 12)) (fun x σ' => ty x = 11 ∧ sv_inv sp_1 ty σ' ∧ sv_ofx [(10, 19), (10, 20), (10, 21), (10, 22), (10, 23), (10, 24)] [60, 65, 66, 67, 68, 69, 70, 71, 72, 73, 74] ty σ σ') σ2591 327 [(0, sv_r a), (2, sv_i Kg503_l2), (3, sv_i Xg2590_l3)] [sv_i Jg2630_s0, sv_i ((12 * Kg503_l2) + Xg2590_l3), sv_r v2628] := by
              intro Jg2630_s0 hJg2630_s0
              refine sv_bs C (n := 3600) (by decide +kernel) (by rw [kv2628]; rfl) (by decide) (by omega) (by omega) ⟨by omega, by omega⟩ (hTA _ (by rw [kv2628]; decide)) okσ2591 (fun hok2632 => ?_)
              have hI2634 := Iσ2591.up (a := v2628) (k := ((12 * Kg503_l2) + Xg2590_l3 : Int).toNat) (z := Jg2630_s0) (by rw [kv2628]; exact trivial)
              have hF2635 := Fσ2591.up (a := v2628) (k := ((12 * Kg503_l2) + Xg2590_l3 : Int).toNat) (z := Jg2630_s0) (Or.inl (by rw [kv2628]; decide +kernel))
              generalize eσ2633 : sv_up σ2591 v2628 ((12 * Kg503_l2) + Xg2590_l3 : Int).toNat Jg2630_s0 = σ2633 at hok2632 hI2634 hF2635 ⊢
              have t2636 : σ2633 a 18 = n18 := by rw [← eσ2633, sv_up_a (sv_ne k_a kv2628 (by decide))]; exact eσ2591_0
              have t2637 : σ2633 a 0 = (qa0 : Int) + 1 := by rw [← eσ2633, sv_up_a (sv_ne k_a kv2628 (by decide))]; exact eσ2591_1
              have t2638 : σ2633 qa0 (4 : Int).toNat = Kg503_e2 := by rw [← eσ2633, sv_up_a (sv_ne kqa0 kv2628 (by decide))]; exact eσ2591_2
              have t2639 : σ2633 a 5 = (Kg503_fa_5 : Int) + 1 := by rw [← eσ2633, sv_up_a (sv_ne k_a kv2628 (by decide))]; exact eσ2591_3
              have t2640 : σ2633 a 6 = (Kg503_fa_6 : Int) + 1 := by rw [← eσ2633, sv_up_a (sv_ne k_a kv2628 (by decide))]; exact eσ2591_4
              have t2641 : σ2633 a 7 = (Kg503_fa_7 : Int) + 1 := by rw [← eσ2633, sv_up_a (sv_ne k_a kv2628 (by decide))]; exact eσ2591_5
              have t2642 : σ2633 a 8 = (v2519 : Int) + 1 := by rw [← eσ2633, sv_up_a (sv_ne k_a kv2628 (by decide))]; exact eσ2591_6
              have t2643 : σ2633 a 19 = c1u2525 := by rw [← eσ2633, sv_up_a (sv_ne k_a kv2628 (by decide))]; exact eσ2591_7
              have t2644 : σ2633 a 20 = c2u2525 := by rw [← eσ2633, sv_up_a (sv_ne k_a kv2628 (by decide))]; exact eσ2591_8
              have t2645 : σ2633 a 21 = chu2525 := by rw [← eσ2633, sv_up_a (sv_ne k_a kv2628 (by decide))]; exact eσ2591_9
              have t2646 : σ2633 v2519 (Kg503_l2 : Int).toNat = vu2525 := by rw [← eσ2633, sv_up_a (sv_ne kv2519 kv2628 (by decide))]; exact eσ2591_10
              have t2647 : σ2633 a 11 = (v2572 : Int) + 1 := by rw [← eσ2633, sv_up_a (sv_ne k_a kv2628 (by decide))]; exact eσ2591_11
              have t2648 : σ2633 v2572 (Kg503_l2 : Int).toNat = c2u2525 - c1u2525 := by rw [← eσ2633, sv_up_a (sv_ne kv2572 kv2628 (by decide))]; exact eσ2591_12
              have t2649 : σ2633 a 14 = (v2628 : Int) + 1 := by rw [← eσ2633, sv_up_a (sv_ne k_a kv2628 (by decide))]; exact ev2628
              have t2650 : σ2633 v2628 ((12 * Kg503_l2) + Xg2590_l3 : Int).toNat = Jg2630_s0 := by rw [← eσ2633]; exact sv_up_s _ _ _ _
              refine sv_go C.1 C.2.1 [(.iinc 3 1, 3)] (pc' := 331) (by decide +kernel) rfl (lv' := [(0, sv_r a), (2, sv_i Kg503_l2), (3, sv_i (Xg2590_l3 + 1))]) (st' := []) rfl ?_
              refine sv_goto C.1 C.2.1 (off := (-45)) (tgt := 286) (by decide +kernel) (by decide) ?_
              exact ih2593 (Xg2590_l3 + 1) σ2633 ⟨by omega, by omega⟩ hok2632 hI2634 hF2635 t2636 t2637 t2638 t2639 t2640 t2641 t2642 t2643 t2644 t2645 t2646 t2647 t2648 (by omega)
            refine sv_icmp C.1 C.2.1 (cnd := .ge) (off := 17) (tgt := 326) (by decide +kernel) (by decide) ⟨by omega, by omega⟩ ⟨by omega, by omega⟩ (fun (h2629 : (c2u2525 - c1u2525) ≤ Xg2590_l3) => ?_) (fun (h2629 : ¬ ((c2u2525 - c1u2525) ≤ Xg2590_l3)) => ?_)
            · refine sv_go C.1 C.2.1 [(.iconst 0, 1)] (pc' := 327) (by decide +kernel) rfl (lv' := [(0, sv_r a), (2, sv_i Kg503_l2), (3, sv_i Xg2590_l3)]) (st' := [sv_i 0, sv_i ((12 * Kg503_l2) + Xg2590_l3), sv_r v2628]) rfl ?_
              exact J2631 0 ⟨by omega, by omega⟩
            · refine sv_go C.1 C.2.1 [(.aload_n 0, 1)] (pc' := 313) (by decide +kernel) rfl (lv' := [(0, sv_r a), (2, sv_i Kg503_l2), (3, sv_i Xg2590_l3)]) (st' := [sv_r a, sv_i ((12 * Kg503_l2) + Xg2590_l3), sv_r v2628]) rfl ?_
              obtain ⟨v2651, ev2651, kv2651⟩ := Iσ2591.ref (k := 16) k_a rfl
              refine sv_gf C (index := 102) (ci := 10) (k := 16) (r := (RX11, TX11, 47)) (v := sv_r v2651) (by decide +kernel) (by rw [k_a]; rfl) rfl (by decide) fl_X11_102 (congrArg sv_a ev2651) ?_
              refine sv_go C.1 C.2.1 [(.aload_n 0, 1)] (pc' := 317) (by decide +kernel) rfl (lv' := [(0, sv_r a), (2, sv_i Kg503_l2), (3, sv_i Xg2590_l3)]) (st' := [sv_r a, sv_r v2651, sv_i ((12 * Kg503_l2) + Xg2590_l3), sv_r v2628]) rfl ?_
              refine sv_gf C (index := 172) (ci := 10) (k := 19) (r := (RX11, TX11, 47)) (v := sv_i c1u2525) (by decide +kernel) (by rw [k_a]; rfl) rfl (by decide) fl_X11_172 (congrArg sv_i eσ2591_7) ?_
              refine sv_go C.1 C.2.1 [(.iload_n 3, 1), (.iadd, 1)] (pc' := 322) (by decide +kernel) rfl (lv' := [(0, sv_r a), (2, sv_i Kg503_l2), (3, sv_i Xg2590_l3)]) (st' := [sv_i (c1u2525 + Xg2590_l3), sv_r v2651, sv_i ((12 * Kg503_l2) + Xg2590_l3), sv_r v2628]) rfl ?_
              refine sv_ba C (n := 4000) (by decide +kernel) (by rw [kv2651]; rfl) (by decide) (by omega) (by omega) ?_
              obtain ⟨v2652, ev2652, hv2652⟩ := sv_rdeb okσ2591 (a := v2651) (k := (c1u2525 + Xg2590_l3 : Int).toNat) (n := 4000) (by rw [kv2651]; rfl) (by omega)
              rw [ev2652]
              refine sv_goto C.1 C.2.1 (off := 4) (tgt := 327) (by decide +kernel) (by decide) ?_
              exact J2631 v2652 ⟨by omega, by omega⟩
      exact L2592 (((12 - 0 : Int)).toNat + 1) 0 σ2574 ⟨by omega, by omega⟩ hok2573 hI2575 hF2576 t2577 t2578 t2579 t2580 t2581 t2582 t2583 t2584 t2585 t2586 t2587 t2588 t2589 (by omega)
    · refine sv_go C.1 C.2.1 [(.aload_n 0, 1), (.iconst 1, 1)] (pc' := 265) (by decide +kernel) rfl (lv' := [(0, sv_r a), (2, sv_i Kg503_l2)]) (st' := [sv_i 1, sv_r a]) rfl ?_
      refine sv_cv C (index := 225) (k := 1) (rest := []) (ci := 10) (r := (RX11, TX11, 47)) (by decide +kernel) (sf_X11_wrong l g A ty σ2535 hok2569 hTA hI2536 a k_a (1) ⟨by omega, by omega⟩) ⟨co_X11_wrong, in_X11, ⟨by decide, by decide, by decide +kernel⟩, Nat.le_of_ble_eq_true rfl, Nat.le_of_ble_eq_true rfl⟩ ml_X11_225 im_X11_wrong se_X11_wrong (by rw [k_a]; rfl) rfl rfl rfl (Nat.le_of_ble_eq_true rfl) ⟨Nat.zero_le _, Nat.zero_le _⟩ (fun r2654 σ2655 hpo2653 hok2656 => ?_)
      obtain ⟨⟨qu2657, rfl, kqu2657⟩, hIu2657, hFu2657⟩ := hpo2653
      have hGu2657 := hF2537.tr hFu2657 (by decide +kernel) (by decide +kernel)
      have t2658 : σ2655 a 18 = n18 := (hFu2657.at k_a (by decide +kernel) (by decide +kernel)).trans t2538
      have t2659 : σ2655 a 0 = (qa0 : Int) + 1 := (hFu2657.at k_a (by decide +kernel) (by decide +kernel)).trans t2539
      have t2660 : σ2655 qa0 (4 : Int).toNat = Kg503_e2 := (hFu2657.atA kqa0 (by decide +kernel) (by decide +kernel)).trans t2540
      have t2661 : σ2655 a 5 = (Kg503_fa_5 : Int) + 1 := (hFu2657.at k_a (by decide +kernel) (by decide +kernel)).trans t2541
      have t2662 : σ2655 a 6 = (Kg503_fa_6 : Int) + 1 := (hFu2657.at k_a (by decide +kernel) (by decide +kernel)).trans t2542
      have t2663 : σ2655 a 7 = (Kg503_fa_7 : Int) + 1 := (hFu2657.at k_a (by decide +kernel) (by decide +kernel)).trans t2543
      have t2664 : σ2655 a 8 = (v2519 : Int) + 1 := (hFu2657.at k_a (by decide +kernel) (by decide +kernel)).trans t2544
      have t2665 : σ2655 a 19 = c1u2525 := (hFu2657.at k_a (by decide +kernel) (by decide +kernel)).trans t2545
      have t2666 : σ2655 a 20 = c2u2525 := (hFu2657.at k_a (by decide +kernel) (by decide +kernel)).trans t2546
      have t2667 : σ2655 a 21 = chu2525 := (hFu2657.at k_a (by decide +kernel) (by decide +kernel)).trans t2547
      have t2668 : σ2655 v2519 (Kg503_l2 : Int).toNat = vu2525 := (hFu2657.atA kv2519 (by decide +kernel) (by decide +kernel)).trans t2548
      refine sv_same (st2 := [sv_r qu2657]) (lv2 := [(0, sv_r a), (2, sv_i Kg503_l2)]) rfl rfl ?_
      exact st_throw C hE (by decide +kernel) hok2656 ⟨kqu2657, hIu2657, hGu2657⟩

set_option maxHeartbeats 4000000 in
set_option maxRecDepth 100000 in
theorem sf_X11_readFeast_91 (l : Launch) (g : sv_G) (A : Nat → Prop) (ty : Nat → Nat) (σ : Nat → Nat → Int) (hok : sv_ok ty σ) (hTA : ∀ q, ty q ≠ 0 → A q) (hI : sv_inv sp_1 ty σ) (a : Nat) (k_a : ty a = 10) (n18 : Int) (h_n18 : 0 ≤ n18 ∧ n18 ≤ 4000) (b1 : Int) (h_b1 : 0 ≤ b1 ∧ b1 ≤ 4000) (b2 : Int) (h_b2 : 0 ≤ b2 ∧ b2 ≤ 4000) (hh : Int) (h_hh : 0 ≤ hh ∧ hh ≤ 4) (e18 : σ a 18 = n18) (e19 : σ a 19 = b1) (e20 : σ a 20 = b2) (e21 : σ a 21 = hh) (hJ1 : b1 ≤ b2 ∧ b2 ≤ n18) (qa0 : Nat) (eqa0 : σ a 0 = (qa0 : Int) + 1) (kqa0 : ty qa0 = 60) (p : Program) (e : Env) (s : State) (m : MethodId) (args : Array Value) (below : List Frame) (meth : Method) (c : Code) (C : sv_C g A RX11 cX11_readFeast 7 p s m args meth c) (hr : meth.sig.returnType = none) (hE : c.exceptionTable.isEmpty = true) : ∀ (Kg1_l1 : Int) (Kg1_l2 : Int) (Kg1_e2 : Int) (Kg1_fa_5 : Nat) (Kg1_fa_19 : Int) (Kg1_fa_20 : Int) (Kg1_fa_21 : Int) (σ2 : Nat → Nat → Int), (0 ≤ Kg1_l1 ∧ Kg1_l1 ≤ 2) → (0 ≤ Kg1_l2 ∧ Kg1_l2 ≤ 299) → (0 ≤ Kg1_e2 ∧ Kg1_e2 ≤ 59) → (ty Kg1_fa_5 = 65) → (0 ≤ Kg1_fa_19 ∧ Kg1_fa_19 ≤ 4000) → (0 ≤ Kg1_fa_20 ∧ Kg1_fa_20 ≤ 4000) → (0 ≤ Kg1_fa_21 ∧ Kg1_fa_21 ≤ 4) → (sv_ok ty σ2) → (sv_inv sp_1 ty σ2) → (sv_ofx [(10, 19), (10, 20), (10, 21), (10, 22), (10, 23), (10, 24)] [60, 65, 66, 67, 68, 69, 70, 71, 72, 73, 74] ty σ σ2) → (σ2 a 18 = n18) → (σ2 a 0 = (qa0 : Int) + 1) → (σ2 qa0 (4 : Int).toNat = Kg1_e2) → (σ2 a 5 = (Kg1_fa_5 : Int) + 1) → (σ2 a 19 = Kg1_fa_19) → (σ2 a 20 = Kg1_fa_20) → (σ2 a 21 = Kg1_fa_21) → (b1 ≤ Kg1_fa_19 ∧ Kg1_fa_19 ≤ Kg1_fa_20 ∧ Kg1_fa_20 ≤ n18) → ((Kg1_fa_21 = 0 ∨ Kg1_fa_19 < Kg1_fa_20) ∧ (Kg1_fa_21 ≠ 1 ∨ Kg1_fa_20 ≤ Kg1_fa_19 + 12)) → st_E p l e { frames := 6, cells := 0, slots := 0, locals := 129 } s m args below meth c 7 g A ty (fun r σ' => (r = []) ∧ sv_inv sp_1 ty σ' ∧ sv_ofx [(10, 19), (10, 20), (10, 21), (10, 22), (10, 23), (10, 24)] [60, 65, 66, 67, 68, 69, 70, 71, 72, 73, 74] ty σ σ' ∧ ∃ c1 c2 hc : Int, σ' a 19 = c1 ∧ σ' a 20 = c2 ∧ σ' a 21 = hc ∧ (b1 ≤ c1 ∧ c1 ≤ c2 ∧ c2 ≤ n18) ∧ (0 ≤ hc ∧ hc ≤ 4) ∧ (hc = 0 ∨ c1 < c2) ∧ (hc ≠ 1 ∨ c2 ≤ c1 + 12)) (fun x σ' => ty x = 11 ∧ sv_inv sp_1 ty σ' ∧ sv_ofx [(10, 19), (10, 20), (10, 21), (10, 22), (10, 23), (10, 24)] [60, 65, 66, 67, 68, 69, 70, 71, 72, 73, 74] ty σ σ') σ2 91 [(0, sv_r a), (1, sv_i Kg1_l1), (2, sv_i Kg1_l2)] [] := by
  intro Kg1_l1 Kg1_l2 Kg1_e2 Kg1_fa_5 Kg1_fa_19 Kg1_fa_20 Kg1_fa_21 σ2 hKg1_l1 hKg1_l2 hKg1_e2 kKg1_fa_5 hKg1_fa_19 hKg1_fa_20 hKg1_fa_21 okσ2 Iσ2 Fσ2 eσ2_0 eσ2_1 eσ2_2 eσ2_3 eσ2_4 eσ2_5 eσ2_6 zk91o zk91
  have hF : sv_ofx [(10, 19), (10, 20), (10, 21), (10, 22), (10, 23), (10, 24)] [60, 65, 66, 67, 68, 69, 70, 71, 72, 73, 74] ty σ σ := sv_ofx.rf
  refine sv_go C.1 C.2.1 [(.iload_n 1, 1)] (pc' := 92) (by decide +kernel) rfl (lv' := [(0, sv_r a), (1, sv_i Kg1_l1), (2, sv_i Kg1_l2)]) (st' := [sv_i Kg1_l1]) rfl ?_
  refine sv_if C.1 C.2.1 (cnd := .ne) (off := 55) (tgt := 147) (by decide +kernel) (by decide) ⟨by omega, by omega⟩ (fun (h2669 : Kg1_l1 ≠ 0) => ?_) (fun (h2669 : ¬ (Kg1_l1 ≠ 0)) => ?_)
  · refine sv_go C.1 C.2.1 [(.iload_n 1, 1), (.iconst 1, 1)] (pc' := 149) (by decide +kernel) rfl (lv' := [(0, sv_r a), (1, sv_i Kg1_l1), (2, sv_i Kg1_l2)]) (st' := [sv_i 1, sv_i Kg1_l1]) rfl ?_
    refine sv_icmp C.1 C.2.1 (cnd := .ne) (off := 55) (tgt := 204) (by decide +kernel) (by decide) ⟨by omega, by omega⟩ ⟨by omega, by omega⟩ (fun (h2670 : Kg1_l1 ≠ 1) => ?_) (fun (h2670 : ¬ (Kg1_l1 ≠ 1)) => ?_)
    · refine sv_go C.1 C.2.1 [(.aload_n 0, 1)] (pc' := 205) (by decide +kernel) rfl (lv' := [(0, sv_r a), (1, sv_i Kg1_l1), (2, sv_i Kg1_l2)]) (st' := [sv_r a]) rfl ?_
      obtain ⟨v2671, ev2671, kv2671⟩ := Iσ2.ref (k := 6) k_a rfl
      refine sv_gf C (index := 66) (ci := 10) (k := 6) (r := (RX11, TX11, 47)) (v := sv_r v2671) (by decide +kernel) (by rw [k_a]; rfl) rfl (by decide) fl_X11_66 (congrArg sv_a ev2671) ?_
      refine sv_go C.1 C.2.1 [(.iload_n 2, 1), (.aload_n 0, 1), (.iconst 1, 1), (.iconst 5, 1)] (pc' := 212) (by decide +kernel) rfl (lv' := [(0, sv_r a), (1, sv_i Kg1_l1), (2, sv_i Kg1_l2)]) (st' := [sv_i 5, sv_i 1, sv_r a, sv_i Kg1_l2, sv_r v2671]) rfl ?_
      refine st_cv C (index := 252) (k := 2) (rest := [sv_i Kg1_l2, sv_r v2671]) (ci := 10) (r := (RX11, TX11, 47)) (by decide +kernel) (sf_X11_takeNumber l g A ty σ2 okσ2 hTA Iσ2 a k_a (1) ⟨by omega, by omega⟩ (5) ⟨by omega, by omega⟩ (n18) ⟨by omega, by omega⟩ (Kg1_fa_19) ⟨by omega, by omega⟩ (Kg1_fa_20) ⟨by omega, by omega⟩ (Kg1_fa_21) ⟨by omega, by omega⟩ eσ2_0 eσ2_4 eσ2_5 eσ2_6 (by omega) (by omega) (by omega)) ⟨co_X11_takeNumber, in_X11, ⟨by decide, by decide, by decide +kernel⟩, Nat.le_of_ble_eq_true rfl, Nat.le_of_ble_eq_true rfl⟩ ml_X11_252 im_X11_takeNumber se_X11_takeNumber (by rw [k_a]; rfl) rfl rfl rfl (Nat.le_of_ble_eq_true rfl) ⟨Nat.zero_le _, Nat.zero_le _⟩ (fun r2673 σ2674 hpo2672 hok2675 => ?_) (fun xt2676 σ2674 hpo2672 hok2675 => st_out C hE hok2675 ⟨hpo2672.1, hpo2672.2.1, Fσ2.tr hpo2672.2.2 (by decide +kernel) (by decide +kernel)⟩)
      obtain ⟨⟨vu2677, rfl, hvu2677, ivu2677_0⟩, hIu2677, hFu2677, xu2677⟩ := hpo2672
      have hGu2677 := Fσ2.tr hFu2677 (by decide +kernel) (by decide +kernel)
      have t2678 : σ2674 a 18 = n18 := (hFu2677.at k_a (by decide +kernel) (by decide +kernel)).trans eσ2_0
      have t2679 : σ2674 a 0 = (qa0 : Int) + 1 := (hFu2677.at k_a (by decide +kernel) (by decide +kernel)).trans eσ2_1
      have t2680 : σ2674 qa0 (4 : Int).toNat = Kg1_e2 := (hFu2677.atA kqa0 (by decide +kernel) (by decide +kernel)).trans eσ2_2
      have t2681 : σ2674 a 5 = (Kg1_fa_5 : Int) + 1 := (hFu2677.at k_a (by decide +kernel) (by decide +kernel)).trans eσ2_3
      have t2682 : σ2674 a 6 = (v2671 : Int) + 1 := (hFu2677.at k_a (by decide +kernel) (by decide +kernel)).trans ev2671
      replace ivu2677_0 := zq_mk ivu2677_0
      clear zk91
      obtain ⟨c1u2677, c2u2677, chu2677, e19u2677, e20u2677, e21u2677, j1u2677, j2u2677, j3u2677, j4u2677⟩ := xu2677
      have hp2683 := zq_un ivu2677_0 (by omega) (by omega)
      refine sv_same (st2 := [sv_i vu2677, sv_i Kg1_l2, sv_r v2671]) (lv2 := [(0, sv_r a), (1, sv_i Kg1_l1), (2, sv_i Kg1_l2)]) rfl rfl ?_
      refine sv_is C (n := 300) (by decide +kernel) (by rw [kv2671]; rfl) (by decide) (by omega) (by omega) ⟨by omega, by omega⟩ (hTA _ (by rw [kv2671]; decide)) hok2675 (fun hok2684 => ?_)
      have hI2686 := hIu2677.up (a := v2671) (k := (Kg1_l2 : Int).toNat) (z := vu2677) (by rw [kv2671]; exact ⟨by omega, by omega⟩)
      have hF2687 := hGu2677.up (a := v2671) (k := (Kg1_l2 : Int).toNat) (z := vu2677) (Or.inl (by rw [kv2671]; decide +kernel))
      generalize eσ2685 : sv_up σ2674 v2671 (Kg1_l2 : Int).toNat vu2677 = σ2685 at hok2684 hI2686 hF2687 ⊢
      have t2688 : σ2685 a 18 = n18 := by rw [← eσ2685, sv_up_a (sv_ne k_a kv2671 (by decide))]; exact t2678
      have t2689 : σ2685 a 0 = (qa0 : Int) + 1 := by rw [← eσ2685, sv_up_a (sv_ne k_a kv2671 (by decide))]; exact t2679
      have t2690 : σ2685 qa0 (4 : Int).toNat = Kg1_e2 := by rw [← eσ2685, sv_up_a (sv_ne kqa0 kv2671 (by decide))]; exact t2680
      have t2691 : σ2685 a 5 = (Kg1_fa_5 : Int) + 1 := by rw [← eσ2685, sv_up_a (sv_ne k_a kv2671 (by decide))]; exact t2681
      have t2692 : σ2685 a 6 = (v2671 : Int) + 1 := by rw [← eσ2685, sv_up_a (sv_ne k_a kv2671 (by decide))]; exact t2682
      have t2693 : σ2685 a 19 = c1u2677 := by rw [← eσ2685, sv_up_a (sv_ne k_a kv2671 (by decide))]; exact e19u2677
      have t2694 : σ2685 a 20 = c2u2677 := by rw [← eσ2685, sv_up_a (sv_ne k_a kv2671 (by decide))]; exact e20u2677
      have t2695 : σ2685 a 21 = chu2677 := by rw [← eσ2685, sv_up_a (sv_ne k_a kv2671 (by decide))]; exact e21u2677
      have t2696 : σ2685 v2671 (Kg1_l2 : Int).toNat = vu2677 := by rw [← eσ2685]; exact sv_up_s _ _ _ _
      refine sv_go C.1 C.2.1 [(.aload_n 0, 1)] (pc' := 217) (by decide +kernel) rfl (lv' := [(0, sv_r a), (1, sv_i Kg1_l1), (2, sv_i Kg1_l2)]) (st' := [sv_r a]) rfl ?_
      obtain ⟨v2697, ev2697, kv2697⟩ := hI2686.ref (k := 7) k_a rfl
      refine sv_gf C (index := 69) (ci := 10) (k := 7) (r := (RX11, TX11, 47)) (v := sv_r v2697) (by decide +kernel) (by rw [k_a]; rfl) rfl (by decide) fl_X11_69 (congrArg sv_a ev2697) ?_
      refine sv_go C.1 C.2.1 [(.iload_n 2, 1), (.aload_n 0, 1), (.iconst 1, 1), (.bipush 12, 2)] (pc' := 225) (by decide +kernel) rfl (lv' := [(0, sv_r a), (1, sv_i Kg1_l1), (2, sv_i Kg1_l2)]) (st' := [sv_i 12, sv_i 1, sv_r a, sv_i Kg1_l2, sv_r v2697]) rfl ?_
      refine st_cv C (index := 252) (k := 2) (rest := [sv_i Kg1_l2, sv_r v2697]) (ci := 10) (r := (RX11, TX11, 47)) (by decide +kernel) (sf_X11_takeNumber l g A ty σ2685 hok2684 hTA hI2686 a k_a (1) ⟨by omega, by omega⟩ (12) ⟨by omega, by omega⟩ (n18) ⟨by omega, by omega⟩ (c1u2677) ⟨by omega, by omega⟩ (c2u2677) ⟨by omega, by omega⟩ (chu2677) ⟨by omega, by omega⟩ t2688 t2693 t2694 t2695 (by omega) (by omega) (by omega)) ⟨co_X11_takeNumber, in_X11, ⟨by decide, by decide, by decide +kernel⟩, Nat.le_of_ble_eq_true rfl, Nat.le_of_ble_eq_true rfl⟩ ml_X11_252 im_X11_takeNumber se_X11_takeNumber (by rw [k_a]; rfl) rfl rfl rfl (Nat.le_of_ble_eq_true rfl) ⟨Nat.zero_le _, Nat.zero_le _⟩ (fun r2699 σ2700 hpo2698 hok2701 => ?_) (fun xt2702 σ2700 hpo2698 hok2701 => st_out C hE hok2701 ⟨hpo2698.1, hpo2698.2.1, hF2687.tr hpo2698.2.2 (by decide +kernel) (by decide +kernel)⟩)
      obtain ⟨⟨vu2703, rfl, hvu2703, ivu2703_0⟩, hIu2703, hFu2703, xu2703⟩ := hpo2698
      have hGu2703 := hF2687.tr hFu2703 (by decide +kernel) (by decide +kernel)
      have t2704 : σ2700 a 18 = n18 := (hFu2703.at k_a (by decide +kernel) (by decide +kernel)).trans t2688
      have t2705 : σ2700 a 0 = (qa0 : Int) + 1 := (hFu2703.at k_a (by decide +kernel) (by decide +kernel)).trans t2689
      have t2706 : σ2700 qa0 (4 : Int).toNat = Kg1_e2 := (hFu2703.atA kqa0 (by decide +kernel) (by decide +kernel)).trans t2690
      have t2707 : σ2700 a 5 = (Kg1_fa_5 : Int) + 1 := (hFu2703.at k_a (by decide +kernel) (by decide +kernel)).trans t2691
      have t2708 : σ2700 a 6 = (v2671 : Int) + 1 := (hFu2703.at k_a (by decide +kernel) (by decide +kernel)).trans t2692
      have t2709 : σ2700 v2671 (Kg1_l2 : Int).toNat = vu2677 := (hFu2703.atA kv2671 (by decide +kernel) (by decide +kernel)).trans t2696
      have t2710 : σ2700 a 7 = (v2697 : Int) + 1 := (hFu2703.at k_a (by decide +kernel) (by decide +kernel)).trans ev2697
      replace ivu2703_0 := zq_mk ivu2703_0
      clear j3u2677 j4u2677
      obtain ⟨c1u2703, c2u2703, chu2703, e19u2703, e20u2703, e21u2703, j1u2703, j2u2703, j3u2703, j4u2703⟩ := xu2703
      have hp2711 := zq_un ivu2703_0 (by omega) (by omega)
      refine sv_same (st2 := [sv_i vu2703, sv_i Kg1_l2, sv_r v2697]) (lv2 := [(0, sv_r a), (1, sv_i Kg1_l1), (2, sv_i Kg1_l2)]) rfl rfl ?_
      refine sv_is C (n := 300) (by decide +kernel) (by rw [kv2697]; rfl) (by decide) (by omega) (by omega) ⟨by omega, by omega⟩ (hTA _ (by rw [kv2697]; decide)) hok2701 (fun hok2712 => ?_)
      have hI2714 := hIu2703.up (a := v2697) (k := (Kg1_l2 : Int).toNat) (z := vu2703) (by rw [kv2697]; exact ⟨by omega, by omega⟩)
      have hF2715 := hGu2703.up (a := v2697) (k := (Kg1_l2 : Int).toNat) (z := vu2703) (Or.inl (by rw [kv2697]; decide +kernel))
      generalize eσ2713 : sv_up σ2700 v2697 (Kg1_l2 : Int).toNat vu2703 = σ2713 at hok2712 hI2714 hF2715 ⊢
      have t2716 : σ2713 a 18 = n18 := by rw [← eσ2713, sv_up_a (sv_ne k_a kv2697 (by decide))]; exact t2704
      have t2717 : σ2713 a 0 = (qa0 : Int) + 1 := by rw [← eσ2713, sv_up_a (sv_ne k_a kv2697 (by decide))]; exact t2705
      have t2718 : σ2713 qa0 (4 : Int).toNat = Kg1_e2 := by rw [← eσ2713, sv_up_a (sv_ne kqa0 kv2697 (by decide))]; exact t2706
      have t2719 : σ2713 a 5 = (Kg1_fa_5 : Int) + 1 := by rw [← eσ2713, sv_up_a (sv_ne k_a kv2697 (by decide))]; exact t2707
      have t2720 : σ2713 a 6 = (v2671 : Int) + 1 := by rw [← eσ2713, sv_up_a (sv_ne k_a kv2697 (by decide))]; exact t2708
      have t2721 : σ2713 v2671 (Kg1_l2 : Int).toNat = vu2677 := by rw [← eσ2713, sv_up_a (sv_ne kv2671 kv2697 (by decide))]; exact t2709
      have t2722 : σ2713 a 7 = (v2697 : Int) + 1 := by rw [← eσ2713, sv_up_a (sv_ne k_a kv2697 (by decide))]; exact t2710
      have t2723 : σ2713 a 19 = c1u2703 := by rw [← eσ2713, sv_up_a (sv_ne k_a kv2697 (by decide))]; exact e19u2703
      have t2724 : σ2713 a 20 = c2u2703 := by rw [← eσ2713, sv_up_a (sv_ne k_a kv2697 (by decide))]; exact e20u2703
      have t2725 : σ2713 a 21 = chu2703 := by rw [← eσ2713, sv_up_a (sv_ne k_a kv2697 (by decide))]; exact e21u2703
      have t2726 : σ2713 v2697 (Kg1_l2 : Int).toNat = vu2703 := by rw [← eσ2713]; exact sv_up_s _ _ _ _
      refine sv_pick [0, 2] (lv2 := [(0, sv_r a), (2, sv_i Kg1_l2)]) rfl ?_
      exact sf_X11_readFeast_229 l g A ty σ hok hTA hI a k_a n18 h_n18 b1 h_b1 b2 h_b2 hh h_hh e18 e19 e20 e21 hJ1 qa0 eqa0 kqa0 p e s m args below meth c C hr hE Kg1_l2 Kg1_e2 Kg1_fa_5 v2671 v2697 c1u2703 c2u2703 chu2703 σ2713 ⟨by omega, by omega⟩ ⟨by omega, by omega⟩ kKg1_fa_5 kv2671 kv2697 ⟨by omega, by omega⟩ ⟨by omega, by omega⟩ ⟨by omega, by omega⟩ hok2712 hI2714 hF2715 t2716 t2717 t2718 t2719 t2720 t2722 t2723 t2724 t2725 (by omega) (by omega)
    · refine sv_go C.1 C.2.1 [(.aload_n 0, 1), (.bipush 45, 2)] (pc' := 155) (by decide +kernel) rfl (lv' := [(0, sv_r a), (1, sv_i Kg1_l1), (2, sv_i Kg1_l2)]) (st' := [sv_i 45, sv_r a]) rfl ?_
      refine sv_cv C (index := 249) (k := 1) (rest := []) (ci := 10) (r := (RX11, TX11, 47)) (by decide +kernel) (sf_X11_isSign l g A ty σ2 okσ2 hTA Iσ2 a k_a (45) ⟨by omega, by omega⟩ (n18) ⟨by omega, by omega⟩ (Kg1_fa_19) ⟨by omega, by omega⟩ (Kg1_fa_20) ⟨by omega, by omega⟩ (Kg1_fa_21) ⟨by omega, by omega⟩ eσ2_0 eσ2_4 eσ2_5 eσ2_6 (by omega) (by omega) (by omega)) ⟨co_X11_isSign, in_X11, ⟨by decide, by decide, by decide +kernel⟩, Nat.le_of_ble_eq_true rfl, Nat.le_of_ble_eq_true rfl⟩ ml_X11_249 im_X11_isSign se_X11_isSign (by rw [k_a]; rfl) rfl rfl rfl (Nat.le_of_ble_eq_true rfl) ⟨Nat.zero_le _, Nat.zero_le _⟩ (fun r2728 σ2729 hpo2727 hok2730 => ?_)
      obtain ⟨rfl, ⟨vu2731, rfl, hvu2731, ivu2731_0⟩⟩ := hpo2727
      replace ivu2731_0 := zq_mk ivu2731_0
      refine sv_same (st2 := [sv_i vu2731]) (lv2 := [(0, sv_r a), (1, sv_i Kg1_l1), (2, sv_i Kg1_l2)]) rfl rfl ?_
      refine sv_go C.1 C.2.1 [(.istore_n 3, 1), (.iload_n 3, 1)] (pc' := 160) (by decide +kernel) rfl (lv' := [(0, sv_r a), (1, sv_i Kg1_l1), (2, sv_i Kg1_l2), (3, sv_i vu2731)]) (st' := [sv_i vu2731]) rfl ?_
      have J2735 : ∀ (Jg2733_fa_19 : Int) (Jg2733_fa_20 : Int) (Jg2733_fa_21 : Int) (σ2734 : Nat → Nat → Int), (0 ≤ Jg2733_fa_19 ∧ Jg2733_fa_19 ≤ 4000) → (0 ≤ Jg2733_fa_20 ∧ Jg2733_fa_20 ≤ 4000) → (0 ≤ Jg2733_fa_21 ∧ Jg2733_fa_21 ≤ 4) → (sv_ok ty σ2734) → (sv_inv sp_1 ty σ2734) → (sv_ofx [(10, 19), (10, 20), (10, 21), (10, 22), (10, 23), (10, 24)] [60, 65, 66, 67, 68, 69, 70, 71, 72, 73, 74] ty σ σ2734) → (σ2734 a 18 = n18) → (σ2734 a 0 = (qa0 : Int) + 1) → (σ2734 qa0 (4 : Int).toNat = Kg1_e2) → (σ2734 a 5 = (Kg1_fa_5 : Int) + 1) → (σ2734 a 19 = Jg2733_fa_19) → (σ2734 a 20 = Jg2733_fa_20) → (σ2734 a 21 = Jg2733_fa_21) → (b1 ≤ Jg2733_fa_19 ∧ Jg2733_fa_19 ≤ Jg2733_fa_20 ∧ Jg2733_fa_20 ≤ n18) → ((Jg2733_fa_21 = 0 ∨ Jg2733_fa_19 < Jg2733_fa_20) ∧ (Jg2733_fa_21 ≠ 1 ∨ Jg2733_fa_20 ≤ Jg2733_fa_19 + 12)) → st_E p l e { frames := 6, cells := 0, slots := 0, locals := 129 } s m args below meth c 7 g A ty (fun r σ' => (r = []) ∧ sv_inv sp_1 ty σ' ∧ sv_ofx [(10, 19), (10, 20), (10, 21), (10, 22), (10, 23), (10, 24)] [60, 65, 66, 67, 68, 69, 70, 71, 72, 73, 74] ty σ σ' ∧ ∃ c1 c2 hc : Int, σ' a 19 = c1 ∧ σ' a 20 = c2 ∧ σ' a 21 = hc ∧ (b1 ≤ c1 ∧ c1 ≤ c2 ∧ c2 ≤ n18) ∧ (0 ≤ hc ∧ hc ≤ 4) ∧ (hc = 0 ∨ c1 < c2) ∧ (hc ≠ 1 ∨ c2 ≤ c1 + 12)) (fun x σ' => ty x = 11 ∧ sv_inv sp_1 ty σ' ∧ sv_ofx [(10, 19), (10, 20), (10, 21), (10, 22), (10, 23), (10, 24)] [60, 65, 66, 67, 68, 69, 70, 71, 72, 73, 74] ty σ σ') σ2734 167 [(0, sv_r a), (2, sv_i Kg1_l2), (3, sv_i vu2731)] [] := by
        intro Jg2733_fa_19 Jg2733_fa_20 Jg2733_fa_21 σ2734 hJg2733_fa_19 hJg2733_fa_20 hJg2733_fa_21 okσ2734 Iσ2734 Fσ2734 eσ2734_0 eσ2734_1 eσ2734_2 eσ2734_3 eσ2734_4 eσ2734_5 eσ2734_6 zj167o zj167
        clear zk91
        refine sv_go C.1 C.2.1 [(.aload_n 0, 1), (.iconst 0, 1), (.bipush 90, 2)] (pc' := 171) (by decide +kernel) rfl (lv' := [(0, sv_r a), (2, sv_i Kg1_l2), (3, sv_i vu2731)]) (st' := [sv_i 90, sv_i 0, sv_r a]) rfl ?_
        refine st_cv C (index := 252) (k := 2) (rest := []) (ci := 10) (r := (RX11, TX11, 47)) (by decide +kernel) (sf_X11_takeNumber l g A ty σ2734 okσ2734 hTA Iσ2734 a k_a (0) ⟨by omega, by omega⟩ (90) ⟨by omega, by omega⟩ (n18) ⟨by omega, by omega⟩ (Jg2733_fa_19) ⟨by omega, by omega⟩ (Jg2733_fa_20) ⟨by omega, by omega⟩ (Jg2733_fa_21) ⟨by omega, by omega⟩ eσ2734_0 eσ2734_4 eσ2734_5 eσ2734_6 (by omega) (by omega) (by omega)) ⟨co_X11_takeNumber, in_X11, ⟨by decide, by decide, by decide +kernel⟩, Nat.le_of_ble_eq_true rfl, Nat.le_of_ble_eq_true rfl⟩ ml_X11_252 im_X11_takeNumber se_X11_takeNumber (by rw [k_a]; rfl) rfl rfl rfl (Nat.le_of_ble_eq_true rfl) ⟨Nat.zero_le _, Nat.zero_le _⟩ (fun r2737 σ2738 hpo2736 hok2739 => ?_) (fun xt2740 σ2738 hpo2736 hok2739 => st_out C hE hok2739 ⟨hpo2736.1, hpo2736.2.1, Fσ2734.tr hpo2736.2.2 (by decide +kernel) (by decide +kernel)⟩)
        obtain ⟨⟨vu2741, rfl, hvu2741, ivu2741_0⟩, hIu2741, hFu2741, xu2741⟩ := hpo2736
        have hGu2741 := Fσ2734.tr hFu2741 (by decide +kernel) (by decide +kernel)
        have t2742 : σ2738 a 18 = n18 := (hFu2741.at k_a (by decide +kernel) (by decide +kernel)).trans eσ2734_0
        have t2743 : σ2738 a 0 = (qa0 : Int) + 1 := (hFu2741.at k_a (by decide +kernel) (by decide +kernel)).trans eσ2734_1
        have t2744 : σ2738 qa0 (4 : Int).toNat = Kg1_e2 := (hFu2741.atA kqa0 (by decide +kernel) (by decide +kernel)).trans eσ2734_2
        have t2745 : σ2738 a 5 = (Kg1_fa_5 : Int) + 1 := (hFu2741.at k_a (by decide +kernel) (by decide +kernel)).trans eσ2734_3
        replace ivu2741_0 := zq_mk ivu2741_0
        clear zj167
        obtain ⟨c1u2741, c2u2741, chu2741, e19u2741, e20u2741, e21u2741, j1u2741, j2u2741, j3u2741, j4u2741⟩ := xu2741
        have hp2746 := zq_un ivu2741_0 (by omega) (by omega)
        refine sv_same (st2 := [sv_i vu2741]) (lv2 := [(0, sv_r a), (2, sv_i Kg1_l2), (3, sv_i vu2731)]) rfl rfl ?_
        refine sv_go C.1 C.2.1 [(.istore 4, 2), (.aload_n 0, 1)] (pc' := 177) (by decide +kernel) rfl (lv' := [(0, sv_r a), (2, sv_i Kg1_l2), (3, sv_i vu2731), (4, sv_i vu2741)]) (st' := [sv_r a]) rfl ?_
        obtain ⟨v2747, ev2747, kv2747⟩ := hIu2741.ref (k := 6) k_a rfl
        refine sv_gf C (index := 66) (ci := 10) (k := 6) (r := (RX11, TX11, 47)) (v := sv_r v2747) (by decide +kernel) (by rw [k_a]; rfl) rfl (by decide) fl_X11_66 (congrArg sv_a ev2747) ?_
        refine sv_go C.1 C.2.1 [(.iload_n 2, 1), (.iload_n 3, 1)] (pc' := 182) (by decide +kernel) rfl (lv' := [(0, sv_r a), (2, sv_i Kg1_l2), (3, sv_i vu2731), (4, sv_i vu2741)]) (st' := [sv_i vu2731, sv_i Kg1_l2, sv_r v2747]) rfl ?_
        have J2750 : ∀ (Jg2749_s0 : Int), ((-90) ≤ Jg2749_s0 ∧ Jg2749_s0 ≤ 90) → st_E p l e { frames := 6, cells := 0, slots := 0, locals := 129 } s m args below meth c 7 g A ty (fun r σ' => (r = []) ∧ sv_inv sp_1 ty σ' ∧ sv_ofx [(10, 19), (10, 20), (10, 21), (10, 22), (10, 23), (10, 24)] [60, 65, 66, 67, 68, 69, 70, 71, 72, 73, 74] ty σ σ' ∧ ∃ c1 c2 hc : Int, σ' a 19 = c1 ∧ σ' a 20 = c2 ∧ σ' a 21 = hc ∧ (b1 ≤ c1 ∧ c1 ≤ c2 ∧ c2 ≤ n18) ∧ (0 ≤ hc ∧ hc ≤ 4) ∧ (hc = 0 ∨ c1 < c2) ∧ (hc ≠ 1 ∨ c2 ≤ c1 + 12)) (fun x σ' => ty x = 11 ∧ sv_inv sp_1 ty σ' ∧ sv_ofx [(10, 19), (10, 20), (10, 21), (10, 22), (10, 23), (10, 24)] [60, 65, 66, 67, 68, 69, 70, 71, 72, 73, 74] ty σ σ') σ2738 193 [(0, sv_r a), (2, sv_i Kg1_l2)] [sv_i Jg2749_s0, sv_i Kg1_l2, sv_r v2747] := by
          intro Jg2749_s0 hJg2749_s0
          refine sv_is C (n := 300) (by decide +kernel) (by rw [kv2747]; rfl) (by decide) (by omega) (by omega) ⟨by omega, by omega⟩ (hTA _ (by rw [kv2747]; decide)) hok2739 (fun hok2751 => ?_)
          have hI2753 := hIu2741.up (a := v2747) (k := (Kg1_l2 : Int).toNat) (z := Jg2749_s0) (by rw [kv2747]; exact ⟨by omega, by omega⟩)
          have hF2754 := hGu2741.up (a := v2747) (k := (Kg1_l2 : Int).toNat) (z := Jg2749_s0) (Or.inl (by rw [kv2747]; decide +kernel))
          generalize eσ2752 : sv_up σ2738 v2747 (Kg1_l2 : Int).toNat Jg2749_s0 = σ2752 at hok2751 hI2753 hF2754 ⊢
          have t2755 : σ2752 a 18 = n18 := by rw [← eσ2752, sv_up_a (sv_ne k_a kv2747 (by decide))]; exact t2742
          have t2756 : σ2752 a 0 = (qa0 : Int) + 1 := by rw [← eσ2752, sv_up_a (sv_ne k_a kv2747 (by decide))]; exact t2743
          have t2757 : σ2752 qa0 (4 : Int).toNat = Kg1_e2 := by rw [← eσ2752, sv_up_a (sv_ne kqa0 kv2747 (by decide))]; exact t2744
          have t2758 : σ2752 a 5 = (Kg1_fa_5 : Int) + 1 := by rw [← eσ2752, sv_up_a (sv_ne k_a kv2747 (by decide))]; exact t2745
          have t2759 : σ2752 a 19 = c1u2741 := by rw [← eσ2752, sv_up_a (sv_ne k_a kv2747 (by decide))]; exact e19u2741
          have t2760 : σ2752 a 20 = c2u2741 := by rw [← eσ2752, sv_up_a (sv_ne k_a kv2747 (by decide))]; exact e20u2741
          have t2761 : σ2752 a 21 = chu2741 := by rw [← eσ2752, sv_up_a (sv_ne k_a kv2747 (by decide))]; exact e21u2741
          have t2762 : σ2752 a 6 = (v2747 : Int) + 1 := by rw [← eσ2752, sv_up_a (sv_ne k_a kv2747 (by decide))]; exact ev2747
          have t2763 : σ2752 v2747 (Kg1_l2 : Int).toNat = Jg2749_s0 := by rw [← eσ2752]; exact sv_up_s _ _ _ _
          refine sv_go C.1 C.2.1 [(.aload_n 0, 1)] (pc' := 195) (by decide +kernel) rfl (lv' := [(0, sv_r a), (2, sv_i Kg1_l2)]) (st' := [sv_r a]) rfl ?_
          obtain ⟨v2764, ev2764, kv2764⟩ := hI2753.ref (k := 7) k_a rfl
          refine sv_gf C (index := 69) (ci := 10) (k := 7) (r := (RX11, TX11, 47)) (v := sv_r v2764) (by decide +kernel) (by rw [k_a]; rfl) rfl (by decide) fl_X11_69 (congrArg sv_a ev2764) ?_
          refine sv_go C.1 C.2.1 [(.iload_n 2, 1), (.iconst 0, 1)] (pc' := 200) (by decide +kernel) rfl (lv' := [(0, sv_r a), (2, sv_i Kg1_l2)]) (st' := [sv_i 0, sv_i Kg1_l2, sv_r v2764]) rfl ?_
          refine sv_is C (n := 300) (by decide +kernel) (by rw [kv2764]; rfl) (by decide) (by omega) (by omega) ⟨by omega, by omega⟩ (hTA _ (by rw [kv2764]; decide)) hok2751 (fun hok2765 => ?_)
          have hI2767 := hI2753.up (a := v2764) (k := (Kg1_l2 : Int).toNat) (z := 0) (by rw [kv2764]; exact ⟨by omega, by omega⟩)
          have hF2768 := hF2754.up (a := v2764) (k := (Kg1_l2 : Int).toNat) (z := 0) (Or.inl (by rw [kv2764]; decide +kernel))
          generalize eσ2766 : sv_up σ2752 v2764 (Kg1_l2 : Int).toNat 0 = σ2766 at hok2765 hI2767 hF2768 ⊢
          have t2769 : σ2766 a 18 = n18 := by rw [← eσ2766, sv_up_a (sv_ne k_a kv2764 (by decide))]; exact t2755
          have t2770 : σ2766 a 0 = (qa0 : Int) + 1 := by rw [← eσ2766, sv_up_a (sv_ne k_a kv2764 (by decide))]; exact t2756
          have t2771 : σ2766 qa0 (4 : Int).toNat = Kg1_e2 := by rw [← eσ2766, sv_up_a (sv_ne kqa0 kv2764 (by decide))]; exact t2757
          have t2772 : σ2766 a 5 = (Kg1_fa_5 : Int) + 1 := by rw [← eσ2766, sv_up_a (sv_ne k_a kv2764 (by decide))]; exact t2758
          have t2773 : σ2766 a 19 = c1u2741 := by rw [← eσ2766, sv_up_a (sv_ne k_a kv2764 (by decide))]; exact t2759
          have t2774 : σ2766 a 20 = c2u2741 := by rw [← eσ2766, sv_up_a (sv_ne k_a kv2764 (by decide))]; exact t2760
          have t2775 : σ2766 a 21 = chu2741 := by rw [← eσ2766, sv_up_a (sv_ne k_a kv2764 (by decide))]; exact t2761
          have t2776 : σ2766 a 6 = (v2747 : Int) + 1 := by rw [← eσ2766, sv_up_a (sv_ne k_a kv2764 (by decide))]; exact t2762
          have t2777 : σ2766 v2747 (Kg1_l2 : Int).toNat = Jg2749_s0 := by rw [← eσ2766, sv_up_a (sv_ne kv2747 kv2764 (by decide))]; exact t2763
          have t2778 : σ2766 a 7 = (v2764 : Int) + 1 := by rw [← eσ2766, sv_up_a (sv_ne k_a kv2764 (by decide))]; exact ev2764
          have t2779 : σ2766 v2764 (Kg1_l2 : Int).toNat = 0 := by rw [← eσ2766]; exact sv_up_s _ _ _ _
          refine sv_goto C.1 C.2.1 (off := 28) (tgt := 229) (by decide +kernel) (by decide) ?_
          exact sf_X11_readFeast_229 l g A ty σ hok hTA hI a k_a n18 h_n18 b1 h_b1 b2 h_b2 hh h_hh e18 e19 e20 e21 hJ1 qa0 eqa0 kqa0 p e s m args below meth c C hr hE Kg1_l2 Kg1_e2 Kg1_fa_5 v2747 v2764 c1u2741 c2u2741 chu2741 σ2766 ⟨by omega, by omega⟩ ⟨by omega, by omega⟩ kKg1_fa_5 kv2747 kv2764 ⟨by omega, by omega⟩ ⟨by omega, by omega⟩ ⟨by omega, by omega⟩ hok2765 hI2767 hF2768 t2769 t2770 t2771 t2772 t2776 t2778 t2773 t2774 t2775 (by omega) (by omega)
        refine sv_if C.1 C.2.1 (cnd := .eq) (off := 9) (tgt := 191) (by decide +kernel) (by decide) ⟨by omega, by omega⟩ (fun (h2748 : vu2731 = 0) => ?_) (fun (h2748 : ¬ (vu2731 = 0)) => ?_)
        · refine sv_go C.1 C.2.1 [(.iload 4, 2)] (pc' := 193) (by decide +kernel) rfl (lv' := [(0, sv_r a), (2, sv_i Kg1_l2), (3, sv_i vu2731), (4, sv_i vu2741)]) (st' := [sv_i vu2741, sv_i Kg1_l2, sv_r v2747]) rfl ?_
          refine sv_pick [0, 1] (lv2 := [(0, sv_r a), (2, sv_i Kg1_l2)]) rfl ?_
          exact J2750 vu2741 ⟨by omega, by omega⟩
        · have hp2780 := zq_un ivu2731_0 (by omega) (by omega)
          refine sv_go C.1 C.2.1 [(.iload 4, 2), (.ineg, 1)] (pc' := 188) (by decide +kernel) rfl (lv' := [(0, sv_r a), (2, sv_i Kg1_l2), (3, sv_i vu2731), (4, sv_i vu2741)]) (st' := [sv_i (-vu2741), sv_i Kg1_l2, sv_r v2747]) rfl ?_
          refine sv_goto C.1 C.2.1 (off := 5) (tgt := 193) (by decide +kernel) (by decide) ?_
          refine sv_pick [0, 1] (lv2 := [(0, sv_r a), (2, sv_i Kg1_l2)]) rfl ?_
          exact J2750 (-vu2741) ⟨by omega, by omega⟩
      refine sv_if C.1 C.2.1 (cnd := .eq) (off := 7) (tgt := 167) (by decide +kernel) (by decide) ⟨by omega, by omega⟩ (fun (h2732 : vu2731 = 0) => ?_) (fun (h2732 : ¬ (vu2731 = 0)) => ?_)
      · refine sv_pick [0, 2, 3] (lv2 := [(0, sv_r a), (2, sv_i Kg1_l2), (3, sv_i vu2731)]) rfl ?_
        exact J2735 Kg1_fa_19 Kg1_fa_20 Kg1_fa_21 σ2 ⟨by omega, by omega⟩ ⟨by omega, by omega⟩ ⟨by omega, by omega⟩ hok2730 Iσ2 Fσ2 eσ2_0 eσ2_1 eσ2_2 eσ2_3 eσ2_4 eσ2_5 eσ2_6 (by omega) (by omega)
      · have hp2781 := zq_un ivu2731_0 (by omega) (by omega)
        refine sv_go C.1 C.2.1 [(.aload_n 0, 1)] (pc' := 164) (by decide +kernel) rfl (lv' := [(0, sv_r a), (1, sv_i Kg1_l1), (2, sv_i Kg1_l2), (3, sv_i vu2731)]) (st' := [sv_r a]) rfl ?_
        refine sv_cv C (index := 229) (k := 0) (rest := []) (ci := 10) (r := (RX11, TX11, 47)) (by decide +kernel) (sf_X11_scan l g A ty σ2 hok2730 hTA Iσ2 a k_a (n18) ⟨by omega, by omega⟩ (Kg1_fa_20) ⟨by omega, by omega⟩ eσ2_0 eσ2_5 (by omega)) ⟨co_X11_scan, in_X11, ⟨by decide, by decide, by decide +kernel⟩, Nat.le_of_ble_eq_true rfl, Nat.le_of_ble_eq_true rfl⟩ ml_X11_229 im_X11_scan se_X11_scan (by rw [k_a]; rfl) rfl rfl rfl (Nat.le_of_ble_eq_true rfl) ⟨Nat.zero_le _, Nat.zero_le _⟩ (fun r2783 σ2784 hpo2782 hok2785 => ?_)
        obtain ⟨rfl, hIu2786, hFu2786, xu2786⟩ := hpo2782
        have hGu2786 := Fσ2.tr hFu2786 (by decide +kernel) (by decide +kernel)
        have t2787 : σ2784 a 18 = n18 := (hFu2786.at k_a (by decide +kernel) (by decide +kernel)).trans eσ2_0
        have t2788 : σ2784 a 0 = (qa0 : Int) + 1 := (hFu2786.at k_a (by decide +kernel) (by decide +kernel)).trans eσ2_1
        have t2789 : σ2784 qa0 (4 : Int).toNat = Kg1_e2 := (hFu2786.atA kqa0 (by decide +kernel) (by decide +kernel)).trans eσ2_2
        have t2790 : σ2784 a 5 = (Kg1_fa_5 : Int) + 1 := (hFu2786.at k_a (by decide +kernel) (by decide +kernel)).trans eσ2_3
        have hltu2786 : Kg1_fa_19 < Kg1_fa_20 := by omega
        clear zk91
        obtain ⟨c1u2786, c2u2786, chu2786, e19u2786, e20u2786, e21u2786, j1u2786, j2u2786, j3u2786, j4u2786⟩ := xu2786
        refine sv_same (st2 := []) (lv2 := [(0, sv_r a), (1, sv_i Kg1_l1), (2, sv_i Kg1_l2), (3, sv_i vu2731)]) rfl rfl ?_
        refine sv_pick [0, 2, 3] (lv2 := [(0, sv_r a), (2, sv_i Kg1_l2), (3, sv_i vu2731)]) rfl ?_
        exact J2735 c1u2786 c2u2786 chu2786 σ2784 ⟨by omega, by omega⟩ ⟨by omega, by omega⟩ ⟨by omega, by omega⟩ hok2785 hIu2786 hGu2786 t2787 t2788 t2789 t2790 e19u2786 e20u2786 e21u2786 (by omega) (by omega)
  · refine sv_go C.1 C.2.1 [(.aload_n 0, 1)] (pc' := 96) (by decide +kernel) rfl (lv' := [(0, sv_r a), (1, sv_i Kg1_l1), (2, sv_i Kg1_l2)]) (st' := [sv_r a]) rfl ?_
    obtain ⟨v2791, ev2791, kv2791⟩ := Iσ2.ref (k := 6) k_a rfl
    refine sv_gf C (index := 66) (ci := 10) (k := 6) (r := (RX11, TX11, 47)) (v := sv_r v2791) (by decide +kernel) (by rw [k_a]; rfl) rfl (by decide) fl_X11_66 (congrArg sv_a ev2791) ?_
    refine sv_go C.1 C.2.1 [(.iload_n 2, 1), (.aload_n 0, 1), (.iconst 1, 1), (.bipush 12, 2)] (pc' := 104) (by decide +kernel) rfl (lv' := [(0, sv_r a), (1, sv_i Kg1_l1), (2, sv_i Kg1_l2)]) (st' := [sv_i 12, sv_i 1, sv_r a, sv_i Kg1_l2, sv_r v2791]) rfl ?_
    refine st_cv C (index := 252) (k := 2) (rest := [sv_i Kg1_l2, sv_r v2791]) (ci := 10) (r := (RX11, TX11, 47)) (by decide +kernel) (sf_X11_takeNumber l g A ty σ2 okσ2 hTA Iσ2 a k_a (1) ⟨by omega, by omega⟩ (12) ⟨by omega, by omega⟩ (n18) ⟨by omega, by omega⟩ (Kg1_fa_19) ⟨by omega, by omega⟩ (Kg1_fa_20) ⟨by omega, by omega⟩ (Kg1_fa_21) ⟨by omega, by omega⟩ eσ2_0 eσ2_4 eσ2_5 eσ2_6 (by omega) (by omega) (by omega)) ⟨co_X11_takeNumber, in_X11, ⟨by decide, by decide, by decide +kernel⟩, Nat.le_of_ble_eq_true rfl, Nat.le_of_ble_eq_true rfl⟩ ml_X11_252 im_X11_takeNumber se_X11_takeNumber (by rw [k_a]; rfl) rfl rfl rfl (Nat.le_of_ble_eq_true rfl) ⟨Nat.zero_le _, Nat.zero_le _⟩ (fun r2793 σ2794 hpo2792 hok2795 => ?_) (fun xt2796 σ2794 hpo2792 hok2795 => st_out C hE hok2795 ⟨hpo2792.1, hpo2792.2.1, Fσ2.tr hpo2792.2.2 (by decide +kernel) (by decide +kernel)⟩)
    obtain ⟨⟨vu2797, rfl, hvu2797, ivu2797_0⟩, hIu2797, hFu2797, xu2797⟩ := hpo2792
    have hGu2797 := Fσ2.tr hFu2797 (by decide +kernel) (by decide +kernel)
    have t2798 : σ2794 a 18 = n18 := (hFu2797.at k_a (by decide +kernel) (by decide +kernel)).trans eσ2_0
    have t2799 : σ2794 a 0 = (qa0 : Int) + 1 := (hFu2797.at k_a (by decide +kernel) (by decide +kernel)).trans eσ2_1
    have t2800 : σ2794 qa0 (4 : Int).toNat = Kg1_e2 := (hFu2797.atA kqa0 (by decide +kernel) (by decide +kernel)).trans eσ2_2
    have t2801 : σ2794 a 5 = (Kg1_fa_5 : Int) + 1 := (hFu2797.at k_a (by decide +kernel) (by decide +kernel)).trans eσ2_3
    have t2802 : σ2794 a 6 = (v2791 : Int) + 1 := (hFu2797.at k_a (by decide +kernel) (by decide +kernel)).trans ev2791
    replace ivu2797_0 := zq_mk ivu2797_0
    clear zk91
    obtain ⟨c1u2797, c2u2797, chu2797, e19u2797, e20u2797, e21u2797, j1u2797, j2u2797, j3u2797, j4u2797⟩ := xu2797
    have hp2803 := zq_un ivu2797_0 (by omega) (by omega)
    refine sv_same (st2 := [sv_i vu2797, sv_i Kg1_l2, sv_r v2791]) (lv2 := [(0, sv_r a), (1, sv_i Kg1_l1), (2, sv_i Kg1_l2)]) rfl rfl ?_
    refine sv_is C (n := 300) (by decide +kernel) (by rw [kv2791]; rfl) (by decide) (by omega) (by omega) ⟨by omega, by omega⟩ (hTA _ (by rw [kv2791]; decide)) hok2795 (fun hok2804 => ?_)
    have hI2806 := hIu2797.up (a := v2791) (k := (Kg1_l2 : Int).toNat) (z := vu2797) (by rw [kv2791]; exact ⟨by omega, by omega⟩)
    have hF2807 := hGu2797.up (a := v2791) (k := (Kg1_l2 : Int).toNat) (z := vu2797) (Or.inl (by rw [kv2791]; decide +kernel))
    generalize eσ2805 : sv_up σ2794 v2791 (Kg1_l2 : Int).toNat vu2797 = σ2805 at hok2804 hI2806 hF2807 ⊢
    have t2808 : σ2805 a 18 = n18 := by rw [← eσ2805, sv_up_a (sv_ne k_a kv2791 (by decide))]; exact t2798
    have t2809 : σ2805 a 0 = (qa0 : Int) + 1 := by rw [← eσ2805, sv_up_a (sv_ne k_a kv2791 (by decide))]; exact t2799
    have t2810 : σ2805 qa0 (4 : Int).toNat = Kg1_e2 := by rw [← eσ2805, sv_up_a (sv_ne kqa0 kv2791 (by decide))]; exact t2800
    have t2811 : σ2805 a 5 = (Kg1_fa_5 : Int) + 1 := by rw [← eσ2805, sv_up_a (sv_ne k_a kv2791 (by decide))]; exact t2801
    have t2812 : σ2805 a 6 = (v2791 : Int) + 1 := by rw [← eσ2805, sv_up_a (sv_ne k_a kv2791 (by decide))]; exact t2802
    have t2813 : σ2805 a 19 = c1u2797 := by rw [← eσ2805, sv_up_a (sv_ne k_a kv2791 (by decide))]; exact e19u2797
    have t2814 : σ2805 a 20 = c2u2797 := by rw [← eσ2805, sv_up_a (sv_ne k_a kv2791 (by decide))]; exact e20u2797
    have t2815 : σ2805 a 21 = chu2797 := by rw [← eσ2805, sv_up_a (sv_ne k_a kv2791 (by decide))]; exact e21u2797
    have t2816 : σ2805 v2791 (Kg1_l2 : Int).toNat = vu2797 := by rw [← eσ2805]; exact sv_up_s _ _ _ _
    refine sv_go C.1 C.2.1 [(.aload_n 0, 1)] (pc' := 109) (by decide +kernel) rfl (lv' := [(0, sv_r a), (1, sv_i Kg1_l1), (2, sv_i Kg1_l2)]) (st' := [sv_r a]) rfl ?_
    obtain ⟨v2817, ev2817, kv2817⟩ := hI2806.ref (k := 7) k_a rfl
    refine sv_gf C (index := 69) (ci := 10) (k := 7) (r := (RX11, TX11, 47)) (v := sv_r v2817) (by decide +kernel) (by rw [k_a]; rfl) rfl (by decide) fl_X11_69 (congrArg sv_a ev2817) ?_
    refine sv_go C.1 C.2.1 [(.iload_n 2, 1), (.aload_n 0, 1), (.iconst 1, 1), (.aload_n 0, 1)] (pc' := 116) (by decide +kernel) rfl (lv' := [(0, sv_r a), (1, sv_i Kg1_l1), (2, sv_i Kg1_l2)]) (st' := [sv_r a, sv_i 1, sv_r a, sv_i Kg1_l2, sv_r v2817]) rfl ?_
    refine sv_gf C (index := 66) (ci := 10) (k := 6) (r := (RX11, TX11, 47)) (v := sv_r v2791) (by decide +kernel) (by rw [k_a]; rfl) rfl (by decide) fl_X11_66 (congrArg sv_a t2812) ?_
    refine sv_go C.1 C.2.1 [(.iload_n 2, 1)] (pc' := 120) (by decide +kernel) rfl (lv' := [(0, sv_r a), (1, sv_i Kg1_l1), (2, sv_i Kg1_l2)]) (st' := [sv_i Kg1_l2, sv_r v2791, sv_i 1, sv_r a, sv_i Kg1_l2, sv_r v2817]) rfl ?_
    refine sv_ia C (n := 300) (by decide +kernel) (by rw [kv2791]; rfl) (by decide) (by omega) (by omega) ?_
    rw [t2816]
    refine sv_go C.1 C.2.1 [(.iconst 2, 1)] (pc' := 122) (by decide +kernel) rfl (lv' := [(0, sv_r a), (1, sv_i Kg1_l1), (2, sv_i Kg1_l2)]) (st' := [sv_i 2, sv_i vu2797, sv_i 1, sv_r a, sv_i Kg1_l2, sv_r v2817]) rfl ?_
    have J2820 : ∀ (Jg2819_s0 : Int), (28 ≤ Jg2819_s0 ∧ Jg2819_s0 ≤ 31) → st_E p l e { frames := 6, cells := 0, slots := 0, locals := 129 } s m args below meth c 7 g A ty (fun r σ' => (r = []) ∧ sv_inv sp_1 ty σ' ∧ sv_ofx [(10, 19), (10, 20), (10, 21), (10, 22), (10, 23), (10, 24)] [60, 65, 66, 67, 68, 69, 70, 71, 72, 73, 74] ty σ σ' ∧ ∃ c1 c2 hc : Int, σ' a 19 = c1 ∧ σ' a 20 = c2 ∧ σ' a 21 = hc ∧ (b1 ≤ c1 ∧ c1 ≤ c2 ∧ c2 ≤ n18) ∧ (0 ≤ hc ∧ hc ≤ 4) ∧ (hc = 0 ∨ c1 < c2) ∧ (hc ≠ 1 ∨ c2 ≤ c1 + 12)) (fun x σ' => ty x = 11 ∧ sv_inv sp_1 ty σ' ∧ sv_ofx [(10, 19), (10, 20), (10, 21), (10, 22), (10, 23), (10, 24)] [60, 65, 66, 67, 68, 69, 70, 71, 72, 73, 74] ty σ σ') σ2805 140 [(0, sv_r a), (2, sv_i Kg1_l2)] [sv_i Jg2819_s0, sv_i 1, sv_r a, sv_i Kg1_l2, sv_r v2817] := by
      intro Jg2819_s0 hJg2819_s0
      refine st_cv C (index := 252) (k := 2) (rest := [sv_i Kg1_l2, sv_r v2817]) (ci := 10) (r := (RX11, TX11, 47)) (by decide +kernel) (sf_X11_takeNumber l g A ty σ2805 hok2804 hTA hI2806 a k_a (1) ⟨by omega, by omega⟩ (Jg2819_s0) ⟨by omega, by omega⟩ (n18) ⟨by omega, by omega⟩ (c1u2797) ⟨by omega, by omega⟩ (c2u2797) ⟨by omega, by omega⟩ (chu2797) ⟨by omega, by omega⟩ t2808 t2813 t2814 t2815 (by omega) (by omega) (by omega)) ⟨co_X11_takeNumber, in_X11, ⟨by decide, by decide, by decide +kernel⟩, Nat.le_of_ble_eq_true rfl, Nat.le_of_ble_eq_true rfl⟩ ml_X11_252 im_X11_takeNumber se_X11_takeNumber (by rw [k_a]; rfl) rfl rfl rfl (Nat.le_of_ble_eq_true rfl) ⟨Nat.zero_le _, Nat.zero_le _⟩ (fun r2822 σ2823 hpo2821 hok2824 => ?_) (fun xt2825 σ2823 hpo2821 hok2824 => st_out C hE hok2824 ⟨hpo2821.1, hpo2821.2.1, hF2807.tr hpo2821.2.2 (by decide +kernel) (by decide +kernel)⟩)
      obtain ⟨⟨vu2826, rfl, hvu2826, ivu2826_0⟩, hIu2826, hFu2826, xu2826⟩ := hpo2821
      have hGu2826 := hF2807.tr hFu2826 (by decide +kernel) (by decide +kernel)
      have t2827 : σ2823 a 18 = n18 := (hFu2826.at k_a (by decide +kernel) (by decide +kernel)).trans t2808
      have t2828 : σ2823 a 0 = (qa0 : Int) + 1 := (hFu2826.at k_a (by decide +kernel) (by decide +kernel)).trans t2809
      have t2829 : σ2823 qa0 (4 : Int).toNat = Kg1_e2 := (hFu2826.atA kqa0 (by decide +kernel) (by decide +kernel)).trans t2810
      have t2830 : σ2823 a 5 = (Kg1_fa_5 : Int) + 1 := (hFu2826.at k_a (by decide +kernel) (by decide +kernel)).trans t2811
      have t2831 : σ2823 a 6 = (v2791 : Int) + 1 := (hFu2826.at k_a (by decide +kernel) (by decide +kernel)).trans t2812
      have t2832 : σ2823 v2791 (Kg1_l2 : Int).toNat = vu2797 := (hFu2826.atA kv2791 (by decide +kernel) (by decide +kernel)).trans t2816
      have t2833 : σ2823 a 7 = (v2817 : Int) + 1 := (hFu2826.at k_a (by decide +kernel) (by decide +kernel)).trans ev2817
      replace ivu2826_0 := zq_mk ivu2826_0
      clear j3u2797 j4u2797
      obtain ⟨c1u2826, c2u2826, chu2826, e19u2826, e20u2826, e21u2826, j1u2826, j2u2826, j3u2826, j4u2826⟩ := xu2826
      have hp2834 := zq_un ivu2826_0 (by omega) (by omega)
      refine sv_same (st2 := [sv_i vu2826, sv_i Kg1_l2, sv_r v2817]) (lv2 := [(0, sv_r a), (2, sv_i Kg1_l2)]) rfl rfl ?_
      refine sv_is C (n := 300) (by decide +kernel) (by rw [kv2817]; rfl) (by decide) (by omega) (by omega) ⟨by omega, by omega⟩ (hTA _ (by rw [kv2817]; decide)) hok2824 (fun hok2835 => ?_)
      have hI2837 := hIu2826.up (a := v2817) (k := (Kg1_l2 : Int).toNat) (z := vu2826) (by rw [kv2817]; exact ⟨by omega, by omega⟩)
      have hF2838 := hGu2826.up (a := v2817) (k := (Kg1_l2 : Int).toNat) (z := vu2826) (Or.inl (by rw [kv2817]; decide +kernel))
      generalize eσ2836 : sv_up σ2823 v2817 (Kg1_l2 : Int).toNat vu2826 = σ2836 at hok2835 hI2837 hF2838 ⊢
      have t2839 : σ2836 a 18 = n18 := by rw [← eσ2836, sv_up_a (sv_ne k_a kv2817 (by decide))]; exact t2827
      have t2840 : σ2836 a 0 = (qa0 : Int) + 1 := by rw [← eσ2836, sv_up_a (sv_ne k_a kv2817 (by decide))]; exact t2828
      have t2841 : σ2836 qa0 (4 : Int).toNat = Kg1_e2 := by rw [← eσ2836, sv_up_a (sv_ne kqa0 kv2817 (by decide))]; exact t2829
      have t2842 : σ2836 a 5 = (Kg1_fa_5 : Int) + 1 := by rw [← eσ2836, sv_up_a (sv_ne k_a kv2817 (by decide))]; exact t2830
      have t2843 : σ2836 a 6 = (v2791 : Int) + 1 := by rw [← eσ2836, sv_up_a (sv_ne k_a kv2817 (by decide))]; exact t2831
      have t2844 : σ2836 v2791 (Kg1_l2 : Int).toNat = vu2797 := by rw [← eσ2836, sv_up_a (sv_ne kv2791 kv2817 (by decide))]; exact t2832
      have t2845 : σ2836 a 7 = (v2817 : Int) + 1 := by rw [← eσ2836, sv_up_a (sv_ne k_a kv2817 (by decide))]; exact t2833
      have t2846 : σ2836 a 19 = c1u2826 := by rw [← eσ2836, sv_up_a (sv_ne k_a kv2817 (by decide))]; exact e19u2826
      have t2847 : σ2836 a 20 = c2u2826 := by rw [← eσ2836, sv_up_a (sv_ne k_a kv2817 (by decide))]; exact e20u2826
      have t2848 : σ2836 a 21 = chu2826 := by rw [← eσ2836, sv_up_a (sv_ne k_a kv2817 (by decide))]; exact e21u2826
      have t2849 : σ2836 v2817 (Kg1_l2 : Int).toNat = vu2826 := by rw [← eσ2836]; exact sv_up_s _ _ _ _
      refine sv_goto C.1 C.2.1 (off := 85) (tgt := 229) (by decide +kernel) (by decide) ?_
      exact sf_X11_readFeast_229 l g A ty σ hok hTA hI a k_a n18 h_n18 b1 h_b1 b2 h_b2 hh h_hh e18 e19 e20 e21 hJ1 qa0 eqa0 kqa0 p e s m args below meth c C hr hE Kg1_l2 Kg1_e2 Kg1_fa_5 v2791 v2817 c1u2826 c2u2826 chu2826 σ2836 ⟨by omega, by omega⟩ ⟨by omega, by omega⟩ kKg1_fa_5 kv2791 kv2817 ⟨by omega, by omega⟩ ⟨by omega, by omega⟩ ⟨by omega, by omega⟩ hok2835 hI2837 hF2838 t2839 t2840 t2841 t2842 t2843 t2845 t2846 t2847 t2848 (by omega) (by omega)
    refine sv_icmp C.1 C.2.1 (cnd := .ne) (off := 8) (tgt := 130) (by decide +kernel) (by decide) ⟨by omega, by omega⟩ ⟨by omega, by omega⟩ (fun (h2818 : vu2797 ≠ 2) => ?_) (fun (h2818 : ¬ (vu2797 ≠ 2)) => ?_)
    · refine sv_go C.1 C.2.1 [(.iconst 1, 1), (.aload_n 0, 1)] (pc' := 132) (by decide +kernel) rfl (lv' := [(0, sv_r a), (1, sv_i Kg1_l1), (2, sv_i Kg1_l2)]) (st' := [sv_r a, sv_i 1, sv_i 1, sv_r a, sv_i Kg1_l2, sv_r v2817]) rfl ?_
      refine sv_gf C (index := 66) (ci := 10) (k := 6) (r := (RX11, TX11, 47)) (v := sv_r v2791) (by decide +kernel) (by rw [k_a]; rfl) rfl (by decide) fl_X11_66 (congrArg sv_a t2812) ?_
      refine sv_go C.1 C.2.1 [(.iload_n 2, 1)] (pc' := 136) (by decide +kernel) rfl (lv' := [(0, sv_r a), (1, sv_i Kg1_l1), (2, sv_i Kg1_l2)]) (st' := [sv_i Kg1_l2, sv_r v2791, sv_i 1, sv_i 1, sv_r a, sv_i Kg1_l2, sv_r v2817]) rfl ?_
      refine sv_ia C (n := 300) (by decide +kernel) (by rw [kv2791]; rfl) (by decide) (by omega) (by omega) ?_
      rw [t2816]
      refine sv_cs C (index := 24) (k := 2) (rest := [sv_i 1, sv_r a, sv_i Kg1_l2, sv_r v2817]) (by decide +kernel) (ct_X11_monthDays l g A ty σ2805 hok2804 (1) ⟨by omega, by omega⟩ (vu2797) ⟨by omega, by omega⟩) ⟨co_X11_monthDays, in_X11, ⟨by decide, by decide, by decide +kernel⟩, Nat.le_of_ble_eq_true rfl, Nat.le_of_ble_eq_true rfl⟩ ml_X11_24 st_X11_monthDays rfl rfl (Nat.le_of_ble_eq_true rfl) ⟨Nat.zero_le _, Nat.zero_le _⟩ (fun r2851 σ2852 hpo2850 hok2853 => ?_)
      obtain ⟨rfl, rfl⟩ := hpo2850
      have hn2855 := dy_md_in 1 vu2797
      refine sv_same (st2 := [sv_i (dy_md 1 vu2797), sv_i 1, sv_r a, sv_i Kg1_l2, sv_r v2817]) (lv2 := [(0, sv_r a), (1, sv_i Kg1_l1), (2, sv_i Kg1_l2)]) rfl rfl ?_
      refine sv_pick [0, 2] (lv2 := [(0, sv_r a), (2, sv_i Kg1_l2)]) rfl ?_
      exact J2820 (dy_md 1 vu2797) ⟨by omega, by omega⟩
    · refine sv_go C.1 C.2.1 [(.bipush 29, 2)] (pc' := 127) (by decide +kernel) rfl (lv' := [(0, sv_r a), (1, sv_i Kg1_l1), (2, sv_i Kg1_l2)]) (st' := [sv_i 29, sv_i 1, sv_r a, sv_i Kg1_l2, sv_r v2817]) rfl ?_
      refine sv_goto C.1 C.2.1 (off := 13) (tgt := 140) (by decide +kernel) (by decide) ?_
      refine sv_pick [0, 2] (lv2 := [(0, sv_r a), (2, sv_i Kg1_l2)]) rfl ?_
      exact J2820 29 ⟨by omega, by omega⟩

set_option maxHeartbeats 4000000 in
set_option maxRecDepth 100000 in
theorem sf_X11_readFeast (l : Launch) (g : sv_G) (A : Nat → Prop) (ty : Nat → Nat) (σ : Nat → Nat → Int) (hok : sv_ok ty σ) (hTA : ∀ q, ty q ≠ 0 → A q) (hI : sv_inv sp_1 ty σ) (a : Nat) (k_a : ty a = 10) (n18 : Int) (h_n18 : 0 ≤ n18 ∧ n18 ≤ 4000) (b1 : Int) (h_b1 : 0 ≤ b1 ∧ b1 ≤ 4000) (b2 : Int) (h_b2 : 0 ≤ b2 ∧ b2 ≤ 4000) (hh : Int) (h_hh : 0 ≤ hh ∧ hh ≤ 4) (e18 : σ a 18 = n18) (e19 : σ a 19 = b1) (e20 : σ a 20 = b2) (e21 : σ a 21 = hh) (hJ1 : b1 ≤ b2 ∧ b2 ≤ n18) (hJ2 : hh = 0 ∨ b1 < b2) (hJ3 : hh ≠ 1 ∨ b2 ≤ b1 + 12) : st_M l yX11_readFeast cX11_readFeast 7 none { frames := 6, cells := 0, slots := 0, locals := 129 } g A ty σ [sv_r a] (fun r σ' => (r = []) ∧ sv_inv sp_1 ty σ' ∧ sv_ofx [(10, 19), (10, 20), (10, 21), (10, 22), (10, 23), (10, 24)] [60, 65, 66, 67, 68, 69, 70, 71, 72, 73, 74] ty σ σ' ∧ ∃ c1 c2 hc : Int, σ' a 19 = c1 ∧ σ' a 20 = c2 ∧ σ' a 21 = hc ∧ (b1 ≤ c1 ∧ c1 ≤ c2 ∧ c2 ≤ n18) ∧ (0 ≤ hc ∧ hc ≤ 4) ∧ (hc = 0 ∨ c1 < c2) ∧ (hc ≠ 1 ∨ c2 ≤ c1 + 12)) (fun x σ' => ty x = 11 ∧ sv_inv sp_1 ty σ' ∧ sv_ofx [(10, 19), (10, 20), (10, 21), (10, 22), (10, 23), (10, 24)] [60, 65, 66, 67, 68, 69, 70, 71, 72, 73, 74] ty σ σ') := by
  refine st_enter (by decide) (Nat.le_of_ble_eq_true rfl) ?_
  intro p e s m args below meth c C hr hE
  have C : sv_C g A RX11 cX11_readFeast 7 p s m args meth c := C
  have hr : meth.sig.returnType = none := hr
  have hF : sv_ofx [(10, 19), (10, 20), (10, 21), (10, 22), (10, 23), (10, 24)] [60, 65, 66, 67, 68, 69, 70, 71, 72, 73, 74] ty σ σ := sv_ofx.rf
  obtain ⟨qa0, eqa0, kqa0⟩ := hI.ref (k := 0) k_a rfl
  refine sv_same (st2 := []) (lv2 := [(0, sv_r a)]) rfl rfl ?_
  refine sv_go C.1 C.2.1 [(.aload_n 0, 1)] (pc' := 1) (by decide +kernel) rfl (lv' := [(0, sv_r a)]) (st' := [sv_r a]) rfl ?_
  refine sq_ldc C (index := 206) (tx := "fixed") 15 (by decide) rfl (by decide +kernel) ?_
  refine sv_cv C (index := 208) (k := 1) (rest := []) (ci := 10) (r := (RX11, TX11, 47)) (by decide +kernel) (sf_X11_is l g A ty σ hok hTA hI a k_a 15 (by decide) (n18) ⟨by omega, by omega⟩ (b1) ⟨by omega, by omega⟩ (b2) ⟨by omega, by omega⟩ (hh) ⟨by omega, by omega⟩ e18 e19 e20 e21 (by omega) (by omega) (by omega)) ⟨co_X11_is, in_X11, ⟨by decide, by decide, by decide +kernel⟩, Nat.le_of_ble_eq_true rfl, Nat.le_of_ble_eq_true rfl⟩ ml_X11_208 im_X11_is se_X11_is (by rw [k_a]; rfl) rfl rfl rfl (Nat.le_of_ble_eq_true rfl) ⟨Nat.zero_le _, Nat.zero_le _⟩ (fun r3357 σ3358 hpo3356 hok3359 => ?_)
  obtain ⟨rfl, ⟨vu3360, rfl, hvu3360, ivu3360_0⟩⟩ := hpo3356
  replace ivu3360_0 := zq_mk ivu3360_0
  refine sv_same (st2 := [sv_i vu3360]) (lv2 := [(0, sv_r a)]) rfl rfl ?_
  have J3363 : ∀ (Jg3362_s0 : Int), ((-1) ≤ Jg3362_s0 ∧ Jg3362_s0 ≤ 2) → st_E p l e { frames := 6, cells := 0, slots := 0, locals := 129 } s m args below meth c 7 g A ty (fun r σ' => (r = []) ∧ sv_inv sp_1 ty σ' ∧ sv_ofx [(10, 19), (10, 20), (10, 21), (10, 22), (10, 23), (10, 24)] [60, 65, 66, 67, 68, 69, 70, 71, 72, 73, 74] ty σ σ' ∧ ∃ c1 c2 hc : Int, σ' a 19 = c1 ∧ σ' a 20 = c2 ∧ σ' a 21 = hc ∧ (b1 ≤ c1 ∧ c1 ≤ c2 ∧ c2 ≤ n18) ∧ (0 ≤ hc ∧ hc ≤ 4) ∧ (hc = 0 ∨ c1 < c2) ∧ (hc ≠ 1 ∨ c2 ≤ c1 + 12)) (fun x σ' => ty x = 11 ∧ sv_inv sp_1 ty σ' ∧ sv_ofx [(10, 19), (10, 20), (10, 21), (10, 22), (10, 23), (10, 24)] [60, 65, 66, 67, 68, 69, 70, 71, 72, 73, 74] ty σ σ') σ 40 [(0, sv_r a)] [sv_i Jg3362_s0] := by
    intro Jg3362_s0 hJg3362_s0
    refine sv_go C.1 C.2.1 [(.istore_n 1, 1), (.iload_n 1, 1), (.iconst (-1), 1)] (pc' := 43) (by decide +kernel) rfl (lv' := [(0, sv_r a), (1, sv_i Jg3362_s0)]) (st' := [sv_i ((-1)), sv_i Jg3362_s0]) rfl ?_
    refine sv_icmp C.1 C.2.1 (cnd := .ne) (off := 9) (tgt := 52) (by decide +kernel) (by decide) ⟨by omega, by omega⟩ ⟨by omega, by omega⟩ (fun (h3364 : Jg3362_s0 ≠ ((-1))) => ?_) (fun (h3364 : ¬ (Jg3362_s0 ≠ ((-1)))) => ?_)
    · refine sv_go C.1 C.2.1 [(.aload_n 0, 1)] (pc' := 53) (by decide +kernel) rfl (lv' := [(0, sv_r a), (1, sv_i Jg3362_s0)]) (st' := [sv_r a]) rfl ?_
      refine sv_gf C (index := 47) (ci := 10) (k := 0) (r := (RX11, TX11, 47)) (v := sv_r qa0) (by decide +kernel) (by rw [k_a]; rfl) rfl (by decide) fl_X11_47 (congrArg sv_a eqa0) ?_
      refine sv_go C.1 C.2.1 [(.iconst 4, 1)] (pc' := 57) (by decide +kernel) rfl (lv' := [(0, sv_r a), (1, sv_i Jg3362_s0)]) (st' := [sv_i 4, sv_r qa0]) rfl ?_
      refine sv_ia C (n := 5) (by decide +kernel) (by rw [kqa0]; rfl) (by decide) (by omega) (by omega) ?_
      obtain ⟨v3365, ev3365, hv3365⟩ := sv_rdn hI (k := (4 : Int).toNat) kqa0 rfl
      rw [ev3365]
      refine sv_go C.1 C.2.1 [(.bipush 60, 2)] (pc' := 60) (by decide +kernel) rfl (lv' := [(0, sv_r a), (1, sv_i Jg3362_s0)]) (st' := [sv_i 60, sv_i v3365]) rfl ?_
      refine sv_icmp C.1 C.2.1 (cnd := .ne) (off := 9) (tgt := 69) (by decide +kernel) (by decide) ⟨by omega, by omega⟩ ⟨by omega, by omega⟩ (fun (h3366 : v3365 ≠ 60) => ?_) (fun (h3366 : ¬ (v3365 ≠ 60)) => ?_)
      · refine sv_go C.1 C.2.1 [(.iconst 4, 1), (.aload_n 0, 1)] (pc' := 71) (by decide +kernel) rfl (lv' := [(0, sv_r a), (1, sv_i Jg3362_s0)]) (st' := [sv_r a, sv_i 4]) rfl ?_
        refine sv_gf C (index := 47) (ci := 10) (k := 0) (r := (RX11, TX11, 47)) (v := sv_r qa0) (by decide +kernel) (by rw [k_a]; rfl) rfl (by decide) fl_X11_47 (congrArg sv_a eqa0) ?_
        refine sv_go C.1 C.2.1 [(.iconst 4, 1)] (pc' := 75) (by decide +kernel) rfl (lv' := [(0, sv_r a), (1, sv_i Jg3362_s0)]) (st' := [sv_i 4, sv_r qa0, sv_i 4]) rfl ?_
        refine sv_ia C (n := 5) (by decide +kernel) (by rw [kqa0]; rfl) (by decide) (by omega) (by omega) ?_
        rw [ev3365]
        refine sv_cs C (index := 166) (k := 2) (rest := []) (by decide +kernel) (sf_X11_at l g A ty σ hok3359 hTA hI (4) ⟨by omega, by omega⟩ (v3365) ⟨by omega, by omega⟩) ⟨co_X11_at, in_X11, ⟨by decide, by decide, by decide +kernel⟩, Nat.le_of_ble_eq_true rfl, Nat.le_of_ble_eq_true rfl⟩ ml_X11_166 st_X11_at rfl rfl (Nat.le_of_ble_eq_true rfl) ⟨Nat.zero_le _, Nat.zero_le _⟩ (fun r3368 σ3369 hpo3367 hok3370 => ?_)
        obtain ⟨rfl, ⟨vu3371, rfl, hvu3371⟩⟩ := hpo3367
        refine sv_same (st2 := [sv_i vu3371]) (lv2 := [(0, sv_r a), (1, sv_i Jg3362_s0)]) rfl rfl ?_
        refine sv_go C.1 C.2.1 [(.istore_n 2, 1), (.aload_n 0, 1)] (pc' := 81) (by decide +kernel) rfl (lv' := [(0, sv_r a), (1, sv_i Jg3362_s0), (2, sv_i vu3371)]) (st' := [sv_r a]) rfl ?_
        obtain ⟨v3372, ev3372, kv3372⟩ := hI.ref (k := 5) k_a rfl
        refine sv_gf C (index := 63) (ci := 10) (k := 5) (r := (RX11, TX11, 47)) (v := sv_r v3372) (by decide +kernel) (by rw [k_a]; rfl) rfl (by decide) fl_X11_63 (congrArg sv_a ev3372) ?_
        refine sv_go C.1 C.2.1 [(.iload_n 2, 1), (.iload_n 1, 1)] (pc' := 86) (by decide +kernel) rfl (lv' := [(0, sv_r a), (1, sv_i Jg3362_s0), (2, sv_i vu3371)]) (st' := [sv_i Jg3362_s0, sv_i vu3371, sv_r v3372]) rfl ?_
        refine sv_is C (n := 300) (by decide +kernel) (by rw [kv3372]; rfl) (by decide) (by omega) (by omega) ⟨by omega, by omega⟩ (hTA _ (by rw [kv3372]; decide)) hok3370 (fun hok3373 => ?_)
        have hI3375 := hI.up (a := v3372) (k := (vu3371 : Int).toNat) (z := Jg3362_s0) (by rw [kv3372]; exact trivial)
        have hF3376 := hF.up (a := v3372) (k := (vu3371 : Int).toNat) (z := Jg3362_s0) (Or.inl (by rw [kv3372]; decide +kernel))
        generalize eσ3374 : sv_up σ v3372 (vu3371 : Int).toNat Jg3362_s0 = σ3374 at hok3373 hI3375 hF3376 ⊢
        have t3377 : σ3374 a 18 = n18 := by rw [← eσ3374, sv_up_a (sv_ne k_a kv3372 (by decide))]; exact e18
        have t3378 : σ3374 a 19 = b1 := by rw [← eσ3374, sv_up_a (sv_ne k_a kv3372 (by decide))]; exact e19
        have t3379 : σ3374 a 20 = b2 := by rw [← eσ3374, sv_up_a (sv_ne k_a kv3372 (by decide))]; exact e20
        have t3380 : σ3374 a 21 = hh := by rw [← eσ3374, sv_up_a (sv_ne k_a kv3372 (by decide))]; exact e21
        have t3381 : σ3374 a 0 = (qa0 : Int) + 1 := by rw [← eσ3374, sv_up_a (sv_ne k_a kv3372 (by decide))]; exact eqa0
        have t3382 : σ3374 qa0 (4 : Int).toNat = v3365 := by rw [← eσ3374, sv_up_a (sv_ne kqa0 kv3372 (by decide))]; exact ev3365
        have t3383 : σ3374 a 5 = (v3372 : Int) + 1 := by rw [← eσ3374, sv_up_a (sv_ne k_a kv3372 (by decide))]; exact ev3372
        have t3384 : σ3374 v3372 (vu3371 : Int).toNat = Jg3362_s0 := by rw [← eσ3374]; exact sv_up_s _ _ _ _
        refine sv_go C.1 C.2.1 [(.aload_n 0, 1)] (pc' := 88) (by decide +kernel) rfl (lv' := [(0, sv_r a), (1, sv_i Jg3362_s0), (2, sv_i vu3371)]) (st' := [sv_r a]) rfl ?_
        refine sv_cv C (index := 229) (k := 0) (rest := []) (ci := 10) (r := (RX11, TX11, 47)) (by decide +kernel) (sf_X11_scan l g A ty σ3374 hok3373 hTA hI3375 a k_a (n18) ⟨by omega, by omega⟩ (b2) ⟨by omega, by omega⟩ t3377 t3379 (by omega)) ⟨co_X11_scan, in_X11, ⟨by decide, by decide, by decide +kernel⟩, Nat.le_of_ble_eq_true rfl, Nat.le_of_ble_eq_true rfl⟩ ml_X11_229 im_X11_scan se_X11_scan (by rw [k_a]; rfl) rfl rfl rfl (Nat.le_of_ble_eq_true rfl) ⟨Nat.zero_le _, Nat.zero_le _⟩ (fun r3386 σ3387 hpo3385 hok3388 => ?_)
        obtain ⟨rfl, hIu3389, hFu3389, xu3389⟩ := hpo3385
        have hGu3389 := hF3376.tr hFu3389 (by decide +kernel) (by decide +kernel)
        have t3390 : σ3387 a 18 = n18 := (hFu3389.at k_a (by decide +kernel) (by decide +kernel)).trans t3377
        have t3391 : σ3387 a 0 = (qa0 : Int) + 1 := (hFu3389.at k_a (by decide +kernel) (by decide +kernel)).trans t3381
        have t3392 : σ3387 qa0 (4 : Int).toNat = v3365 := (hFu3389.atA kqa0 (by decide +kernel) (by decide +kernel)).trans t3382
        have t3393 : σ3387 a 5 = (v3372 : Int) + 1 := (hFu3389.at k_a (by decide +kernel) (by decide +kernel)).trans t3383
        have t3394 : σ3387 v3372 (vu3371 : Int).toNat = Jg3362_s0 := (hFu3389.atA kv3372 (by decide +kernel) (by decide +kernel)).trans t3384
        clear hJ2 hJ3
        obtain ⟨c1u3389, c2u3389, chu3389, e19u3389, e20u3389, e21u3389, j1u3389, j2u3389, j3u3389, j4u3389⟩ := xu3389
        refine sv_same (st2 := []) (lv2 := [(0, sv_r a), (1, sv_i Jg3362_s0), (2, sv_i vu3371)]) rfl rfl ?_
        exact sf_X11_readFeast_91 l g A ty σ hok hTA hI a k_a n18 h_n18 b1 h_b1 b2 h_b2 hh h_hh e18 e19 e20 e21 hJ1 qa0 eqa0 kqa0 p e s m args below meth c C hr hE Jg3362_s0 vu3371 v3365 v3372 c1u3389 c2u3389 chu3389 σ3387 ⟨by omega, by omega⟩ ⟨by omega, by omega⟩ ⟨by omega, by omega⟩ kv3372 ⟨by omega, by omega⟩ ⟨by omega, by omega⟩ ⟨by omega, by omega⟩ hok3388 hIu3389 hGu3389 t3390 t3391 t3392 t3393 e19u3389 e20u3389 e21u3389 (by omega) (by omega)
      · refine sv_go C.1 C.2.1 [(.aload_n 0, 1), (.iconst 4, 1)] (pc' := 65) (by decide +kernel) rfl (lv' := [(0, sv_r a), (1, sv_i Jg3362_s0)]) (st' := [sv_i 4, sv_r a]) rfl ?_
        refine sv_cv C (index := 225) (k := 1) (rest := []) (ci := 10) (r := (RX11, TX11, 47)) (by decide +kernel) (sf_X11_wrong l g A ty σ hok3359 hTA hI a k_a (4) ⟨by omega, by omega⟩) ⟨co_X11_wrong, in_X11, ⟨by decide, by decide, by decide +kernel⟩, Nat.le_of_ble_eq_true rfl, Nat.le_of_ble_eq_true rfl⟩ ml_X11_225 im_X11_wrong se_X11_wrong (by rw [k_a]; rfl) rfl rfl rfl (Nat.le_of_ble_eq_true rfl) ⟨Nat.zero_le _, Nat.zero_le _⟩ (fun r3396 σ3397 hpo3395 hok3398 => ?_)
        obtain ⟨⟨qu3399, rfl, kqu3399⟩, hIu3399, hFu3399⟩ := hpo3395
        have hGu3399 := hF.tr hFu3399 (by decide +kernel) (by decide +kernel)
        have t3400 : σ3397 a 18 = n18 := (hFu3399.at k_a (by decide +kernel) (by decide +kernel)).trans e18
        have t3401 : σ3397 a 19 = b1 := (hFu3399.at k_a (by decide +kernel) (by decide +kernel)).trans e19
        have t3402 : σ3397 a 20 = b2 := (hFu3399.at k_a (by decide +kernel) (by decide +kernel)).trans e20
        have t3403 : σ3397 a 21 = hh := (hFu3399.at k_a (by decide +kernel) (by decide +kernel)).trans e21
        have t3404 : σ3397 a 0 = (qa0 : Int) + 1 := (hFu3399.at k_a (by decide +kernel) (by decide +kernel)).trans eqa0
        have t3405 : σ3397 qa0 (4 : Int).toNat = v3365 := (hFu3399.atA kqa0 (by decide +kernel) (by decide +kernel)).trans ev3365
        refine sv_same (st2 := [sv_r qu3399]) (lv2 := [(0, sv_r a), (1, sv_i Jg3362_s0)]) rfl rfl ?_
        exact st_throw C hE (by decide +kernel) hok3398 ⟨kqu3399, hIu3399, hGu3399⟩
    · refine sv_go C.1 C.2.1 [(.aload_n 0, 1), (.iconst 1, 1)] (pc' := 48) (by decide +kernel) rfl (lv' := [(0, sv_r a), (1, sv_i Jg3362_s0)]) (st' := [sv_i 1, sv_r a]) rfl ?_
      refine sv_cv C (index := 225) (k := 1) (rest := []) (ci := 10) (r := (RX11, TX11, 47)) (by decide +kernel) (sf_X11_wrong l g A ty σ hok3359 hTA hI a k_a (1) ⟨by omega, by omega⟩) ⟨co_X11_wrong, in_X11, ⟨by decide, by decide, by decide +kernel⟩, Nat.le_of_ble_eq_true rfl, Nat.le_of_ble_eq_true rfl⟩ ml_X11_225 im_X11_wrong se_X11_wrong (by rw [k_a]; rfl) rfl rfl rfl (Nat.le_of_ble_eq_true rfl) ⟨Nat.zero_le _, Nat.zero_le _⟩ (fun r3407 σ3408 hpo3406 hok3409 => ?_)
      obtain ⟨⟨qu3410, rfl, kqu3410⟩, hIu3410, hFu3410⟩ := hpo3406
      have hGu3410 := hF.tr hFu3410 (by decide +kernel) (by decide +kernel)
      have t3411 : σ3408 a 18 = n18 := (hFu3410.at k_a (by decide +kernel) (by decide +kernel)).trans e18
      have t3412 : σ3408 a 19 = b1 := (hFu3410.at k_a (by decide +kernel) (by decide +kernel)).trans e19
      have t3413 : σ3408 a 20 = b2 := (hFu3410.at k_a (by decide +kernel) (by decide +kernel)).trans e20
      have t3414 : σ3408 a 21 = hh := (hFu3410.at k_a (by decide +kernel) (by decide +kernel)).trans e21
      have t3415 : σ3408 a 0 = (qa0 : Int) + 1 := (hFu3410.at k_a (by decide +kernel) (by decide +kernel)).trans eqa0
      refine sv_same (st2 := [sv_r qu3410]) (lv2 := [(0, sv_r a), (1, sv_i Jg3362_s0)]) rfl rfl ?_
      exact st_throw C hE (by decide +kernel) hok3409 ⟨kqu3410, hIu3410, hGu3410⟩
  refine sv_if C.1 C.2.1 (cnd := .eq) (off := 7) (tgt := 13) (by decide +kernel) (by decide) ⟨by omega, by omega⟩ (fun (h3361 : vu3360 = 0) => ?_) (fun (h3361 : ¬ (vu3360 = 0)) => ?_)
  · refine sv_go C.1 C.2.1 [(.aload_n 0, 1)] (pc' := 14) (by decide +kernel) rfl (lv' := [(0, sv_r a)]) (st' := [sv_r a]) rfl ?_
    refine sq_ldc C (index := 212) (tx := "moved") 16 (by decide) rfl (by decide +kernel) ?_
    refine sv_cv C (index := 208) (k := 1) (rest := []) (ci := 10) (r := (RX11, TX11, 47)) (by decide +kernel) (sf_X11_is l g A ty σ hok3359 hTA hI a k_a 16 (by decide) (n18) ⟨by omega, by omega⟩ (b1) ⟨by omega, by omega⟩ (b2) ⟨by omega, by omega⟩ (hh) ⟨by omega, by omega⟩ e18 e19 e20 e21 (by omega) (by omega) (by omega)) ⟨co_X11_is, in_X11, ⟨by decide, by decide, by decide +kernel⟩, Nat.le_of_ble_eq_true rfl, Nat.le_of_ble_eq_true rfl⟩ ml_X11_208 im_X11_is se_X11_is (by rw [k_a]; rfl) rfl rfl rfl (Nat.le_of_ble_eq_true rfl) ⟨Nat.zero_le _, Nat.zero_le _⟩ (fun r3417 σ3418 hpo3416 hok3419 => ?_)
    obtain ⟨rfl, ⟨vu3420, rfl, hvu3420, ivu3420_0⟩⟩ := hpo3416
    replace ivu3420_0 := zq_mk ivu3420_0
    refine sv_same (st2 := [sv_i vu3420]) (lv2 := [(0, sv_r a)]) rfl rfl ?_
    refine sv_if C.1 C.2.1 (cnd := .eq) (off := 7) (tgt := 26) (by decide +kernel) (by decide) ⟨by omega, by omega⟩ (fun (h3421 : vu3420 = 0) => ?_) (fun (h3421 : ¬ (vu3420 = 0)) => ?_)
    · refine sv_go C.1 C.2.1 [(.aload_n 0, 1)] (pc' := 27) (by decide +kernel) rfl (lv' := [(0, sv_r a)]) (st' := [sv_r a]) rfl ?_
      refine sq_ldc C (index := 214) (tx := "sunday") 17 (by decide) rfl (by decide +kernel) ?_
      refine sv_cv C (index := 208) (k := 1) (rest := []) (ci := 10) (r := (RX11, TX11, 47)) (by decide +kernel) (sf_X11_is l g A ty σ hok3419 hTA hI a k_a 17 (by decide) (n18) ⟨by omega, by omega⟩ (b1) ⟨by omega, by omega⟩ (b2) ⟨by omega, by omega⟩ (hh) ⟨by omega, by omega⟩ e18 e19 e20 e21 (by omega) (by omega) (by omega)) ⟨co_X11_is, in_X11, ⟨by decide, by decide, by decide +kernel⟩, Nat.le_of_ble_eq_true rfl, Nat.le_of_ble_eq_true rfl⟩ ml_X11_208 im_X11_is se_X11_is (by rw [k_a]; rfl) rfl rfl rfl (Nat.le_of_ble_eq_true rfl) ⟨Nat.zero_le _, Nat.zero_le _⟩ (fun r3423 σ3424 hpo3422 hok3425 => ?_)
      obtain ⟨rfl, ⟨vu3426, rfl, hvu3426, ivu3426_0⟩⟩ := hpo3422
      replace ivu3426_0 := zq_mk ivu3426_0
      refine sv_same (st2 := [sv_i vu3426]) (lv2 := [(0, sv_r a)]) rfl rfl ?_
      refine sv_if C.1 C.2.1 (cnd := .eq) (off := 7) (tgt := 39) (by decide +kernel) (by decide) ⟨by omega, by omega⟩ (fun (h3427 : vu3426 = 0) => ?_) (fun (h3427 : ¬ (vu3426 = 0)) => ?_)
      · refine sv_go C.1 C.2.1 [(.iconst (-1), 1)] (pc' := 40) (by decide +kernel) rfl (lv' := [(0, sv_r a)]) (st' := [sv_i ((-1))]) rfl ?_
        exact J3363 ((-1)) ⟨by omega, by omega⟩
      · have hp3428 := zq_un ivu3426_0 (by omega) (by omega)
        refine sv_go C.1 C.2.1 [(.iconst 2, 1)] (pc' := 36) (by decide +kernel) rfl (lv' := [(0, sv_r a)]) (st' := [sv_i 2]) rfl ?_
        refine sv_goto C.1 C.2.1 (off := 4) (tgt := 40) (by decide +kernel) (by decide) ?_
        exact J3363 2 ⟨by omega, by omega⟩
    · have hp3429 := zq_un ivu3420_0 (by omega) (by omega)
      refine sv_go C.1 C.2.1 [(.iconst 1, 1)] (pc' := 23) (by decide +kernel) rfl (lv' := [(0, sv_r a)]) (st' := [sv_i 1]) rfl ?_
      refine sv_goto C.1 C.2.1 (off := 17) (tgt := 40) (by decide +kernel) (by decide) ?_
      exact J3363 1 ⟨by omega, by omega⟩
  · have hp3430 := zq_un ivu3360_0 (by omega) (by omega)
    refine sv_go C.1 C.2.1 [(.iconst 0, 1)] (pc' := 10) (by decide +kernel) rfl (lv' := [(0, sv_r a)]) (st' := [sv_i 0]) rfl ?_
    refine sv_goto C.1 C.2.1 (off := 30) (tgt := 40) (by decide +kernel) (by decide) ?_
    exact J3363 0 ⟨by omega, by omega⟩
